/-! decode rows, by program -/
theorem zd_57_70 : decode prog_2_method_19_code 70 = .ok (.bipush 65, 2) := by decide +kernel
theorem zd_57_72 : decode prog_2_method_19_code 72 = .ok (.if_icmp .ne 7, 3) := by decide +kernel
theorem zd_57_79 : decode prog_2_method_19_code 79 = .ok (.iconst 0, 1) := by decide +kernel
theorem zd_57_80 : decode prog_2_method_19_code 80 = .ok (.invokevirtual 367, 3) := by decide +kernel
theorem zd_57_83 : decode prog_2_method_19_code 83 = .ok (.goto 132, 3) := by decide +kernel
theorem zd_57_86 : decode prog_2_method_19_code 86 = .ok (.aload_n 0, 1) := by decide +kernel
theorem zd_57_87 : decode prog_2_method_19_code 87 = .ok (.iconst 4, 1) := by decide +kernel
theorem zd_57_88 : decode prog_2_method_19_code 88 = .ok (.iconst 0, 1) := by decide +kernel
theorem zd_57_89 : decode prog_2_method_19_code 89 = .ok (.invokevirtual 371, 3) := by decide +kernel
theorem zd_57_92 : decode prog_2_method_19_code 92 = .ok (.goto 123, 3) := by decide +kernel
theorem zd_57_104 : decode prog_2_method_19_code 104 = .ok (.aload_n 0, 1) := by decide +kernel
theorem zd_57_105 : decode prog_2_method_19_code 105 = .ok (.invokevirtual 375, 3) := by decide +kernel
theorem zd_57_108 : decode prog_2_method_19_code 108 = .ok (.goto 107, 3) := by decide +kernel
theorem zd_58_0 : decode prog_2_method_5_code 0 = .ok (.aload_n 0, 1) := by decide +kernel
theorem zd_58_1 : decode prog_2_method_5_code 1 = .ok (.getfield 65, 3) := by decide +kernel
theorem zd_58_4 : decode prog_2_method_5_code 4 = .ok (.aload_n 0, 1) := by decide +kernel
theorem zd_58_5 : decode prog_2_method_5_code 5 = .ok (.getfield 196, 3) := by decide +kernel
theorem zd_58_8 : decode prog_2_method_5_code 8 = .ok (.invokevirtual 199, 3) := by decide +kernel
theorem zd_58_11 : decode prog_2_method_5_code 11 = .ok (.istore_n 1, 1) := by decide +kernel
theorem zd_58_12 : decode prog_2_method_5_code 12 = .ok (.aload_n 0, 1) := by decide +kernel
theorem zd_58_13 : decode prog_2_method_5_code 13 = .ok (.getfield 52, 3) := by decide +kernel
theorem zd_58_16 : decode prog_2_method_5_code 16 = .ok (.invokevirtual 159, 3) := by decide +kernel
theorem zd_58_19 : decode prog_2_method_5_code 19 = .ok (.iconst 2, 1) := by decide +kernel
theorem zd_58_20 : decode prog_2_method_5_code 20 = .ok (.if_icmp .ne 10, 3) := by decide +kernel
theorem zd_58_23 : decode prog_2_method_5_code 23 = .ok (.aload_n 0, 1) := by decide +kernel
theorem zd_58_24 : decode prog_2_method_5_code 24 = .ok (.invokevirtual 203, 3) := by decide +kernel
theorem zd_58_27 : decode prog_2_method_5_code 27 = .ok (.goto 36, 3) := by decide +kernel
theorem zd_58_63 : decode prog_2_method_5_code 63 = .ok (.aload_n 0, 1) := by decide +kernel
theorem zd_58_64 : decode prog_2_method_5_code 64 = .ok (.getfield 33, 3) := by decide +kernel
theorem zd_58_67 : decode prog_2_method_5_code 67 = .ok (.aload_n 0, 1) := by decide +kernel
theorem zd_58_68 : decode prog_2_method_5_code 68 = .ok (.getfield 196, 3) := by decide +kernel
theorem zd_58_71 : decode prog_2_method_5_code 71 = .ok (.iload_n 1, 1) := by decide +kernel
theorem zd_58_72 : decode prog_2_method_5_code 72 = .ok (.iastore, 1) := by decide +kernel
theorem zd_59_0 : decode prog_11_method_14_code 0 = .ok (.aload_n 0, 1) := by decide +kernel
theorem zd_59_1 : decode prog_11_method_14_code 1 = .ok (.getfield 9, 3) := by decide +kernel
theorem zd_59_4 : decode prog_11_method_14_code 4 = .ok (.aload_n 0, 1) := by decide +kernel
theorem zd_59_5 : decode prog_11_method_14_code 5 = .ok (.getfield 49, 3) := by decide +kernel
theorem zd_59_8 : decode prog_11_method_14_code 8 = .ok (.iaload, 1) := by decide +kernel
theorem zd_59_9 : decode prog_11_method_14_code 9 = .ok (.iconst 1, 1) := by decide +kernel
theorem zd_59_10 : decode prog_11_method_14_code 10 = .ok (.if_icmp .le 13, 3) := by decide +kernel
theorem zd_59_13 : decode prog_11_method_14_code 13 = .ok (.aload_n 0, 1) := by decide +kernel
theorem zd_59_14 : decode prog_11_method_14_code 14 = .ok (.dup, 1) := by decide +kernel
theorem zd_59_15 : decode prog_11_method_14_code 15 = .ok (.getfield 49, 3) := by decide +kernel
theorem zd_59_18 : decode prog_11_method_14_code 18 = .ok (.iconst 1, 1) := by decide +kernel
theorem zd_59_19 : decode prog_11_method_14_code 19 = .ok (.iadd, 1) := by decide +kernel
theorem zd_59_20 : decode prog_11_method_14_code 20 = .ok (.putfield 49, 3) := by decide +kernel
theorem zd_60_0 : decode prog_2_method_8_code 0 = .ok (.aload_n 0, 1) := by decide +kernel
theorem zd_60_1 : decode prog_2_method_8_code 1 = .ok (.getfield 52, 3) := by decide +kernel
theorem zd_60_4 : decode prog_2_method_8_code 4 = .ok (.invokevirtual 156, 3) := by decide +kernel
theorem zd_60_7 : decode prog_2_method_8_code 7 = .ok (.aload_n 0, 1) := by decide +kernel
theorem zd_60_8 : decode prog_2_method_8_code 8 = .ok (.getfield 65, 3) := by decide +kernel
theorem zd_60_11 : decode prog_2_method_8_code 11 = .ok (.getfield 237, 3) := by decide +kernel
theorem zd_60_14 : decode prog_2_method_8_code 14 = .ok (.aload_n 0, 1) := by decide +kernel
theorem zd_60_15 : decode prog_2_method_8_code 15 = .ok (.getfield 196, 3) := by decide +kernel
theorem zd_60_18 : decode prog_2_method_8_code 18 = .ok (.bipush 6, 2) := by decide +kernel
theorem zd_60_20 : decode prog_2_method_8_code 20 = .ok (.imul, 1) := by decide +kernel
theorem zd_60_21 : decode prog_2_method_8_code 21 = .ok (.iconst 0, 1) := by decide +kernel
theorem zd_60_22 : decode prog_2_method_8_code 22 = .ok (.iadd, 1) := by decide +kernel
theorem zd_60_23 : decode prog_2_method_8_code 23 = .ok (.iaload, 1) := by decide +kernel
theorem zd_60_24 : decode prog_2_method_8_code 24 = .ok (.ifCond .eq 12, 3) := by decide +kernel
theorem zd_60_36 : decode prog_2_method_8_code 36 = .ok (.aload_n 0, 1) := by decide +kernel
theorem zd_60_37 : decode prog_2_method_8_code 37 = .ok (.iconst (-1), 1) := by decide +kernel
theorem zd_60_38 : decode prog_2_method_8_code 38 = .ok (.putfield 240, 3) := by decide +kernel
theorem zd_60_41 : decode prog_2_method_8_code 41 = .ok (.iload_n 1, 1) := by decide +kernel
theorem zd_60_42 : decode prog_2_method_8_code 42 = .ok (.bipush 51, 2) := by decide +kernel
theorem zd_60_44 : decode prog_2_method_8_code 44 = .ok (.if_icmp .ge 11, 3) := by decide +kernel
theorem zd_60_47 : decode prog_2_method_8_code 47 = .ok (.getstatic 243, 3) := by decide +kernel
theorem zd_60_50 : decode prog_2_method_8_code 50 = .ok (.iload_n 1, 1) := by decide +kernel
theorem zd_60_51 : decode prog_2_method_8_code 51 = .ok (.iaload, 1) := by decide +kernel
theorem zd_60_52 : decode prog_2_method_8_code 52 = .ok (.goto 4, 3) := by decide +kernel
theorem zd_60_55 : decode prog_2_method_8_code 55 = .ok (.iconst (-1), 1) := by decide +kernel
theorem zd_60_56 : decode prog_2_method_8_code 56 = .ok (.istore_n 2, 1) := by decide +kernel
theorem zd_60_57 : decode prog_2_method_8_code 57 = .ok (.iload_n 2, 1) := by decide +kernel
theorem zd_60_58 : decode prog_2_method_8_code 58 = .ok (.bipush 11, 2) := by decide +kernel
theorem zd_60_60 : decode prog_2_method_8_code 60 = .ok (.if_icmp .ne 11, 3) := by decide +kernel
theorem zd_60_71 : decode prog_2_method_8_code 71 = .ok (.iload_n 2, 1) := by decide +kernel
theorem zd_60_72 : decode prog_2_method_8_code 72 = .ok (.iconst (-1), 1) := by decide +kernel
theorem zd_60_73 : decode prog_2_method_8_code 73 = .ok (.if_icmp .ne 11, 3) := by decide +kernel
theorem zd_60_76 : decode prog_2_method_8_code 76 = .ok (.aload_n 0, 1) := by decide +kernel
theorem zd_60_77 : decode prog_2_method_8_code 77 = .ok (.iload_n 1, 1) := by decide +kernel
theorem zd_60_78 : decode prog_2_method_8_code 78 = .ok (.invokevirtual 249, 3) := by decide +kernel
theorem zd_60_81 : decode prog_2_method_8_code 81 = .ok (.goto 9, 3) := by decide +kernel
theorem zd_60_84 : decode prog_2_method_8_code 84 = .ok (.aload_n 0, 1) := by decide +kernel
theorem zd_60_85 : decode prog_2_method_8_code 85 = .ok (.iload_n 1, 1) := by decide +kernel
theorem zd_60_86 : decode prog_2_method_8_code 86 = .ok (.iload_n 2, 1) := by decide +kernel
theorem zd_60_87 : decode prog_2_method_8_code 87 = .ok (.invokevirtual 252, 3) := by decide +kernel
theorem zd_60_90 : decode prog_2_method_8_code 90 = .ok (.istore_n 3, 1) := by decide +kernel
theorem zd_60_91 : decode prog_2_method_8_code 91 = .ok (.aload_n 0, 1) := by decide +kernel
theorem zd_60_92 : decode prog_2_method_8_code 92 = .ok (.getfield 52, 3) := by decide +kernel
theorem zd_60_95 : decode prog_2_method_8_code 95 = .ok (.invokevirtual 255, 3) := by decide +kernel
theorem zd_60_98 : decode prog_2_method_8_code 98 = .ok (.aload_n 0, 1) := by decide +kernel
theorem zd_60_99 : decode prog_2_method_8_code 99 = .ok (.getfield 52, 3) := by decide +kernel
theorem zd_60_102 : decode prog_2_method_8_code 102 = .ok (.getfield 147, 3) := by decide +kernel
theorem zd_60_105 : decode prog_2_method_8_code 105 = .ok (.ifCond .eq 4, 3) := by decide +kernel
theorem zd_60_109 : decode prog_2_method_8_code 109 = .ok (.iload_n 2, 1) := by decide +kernel
theorem zd_60_110 : decode prog_2_method_8_code 110 = .ok (.iconst (-1), 1) := by decide +kernel
theorem zd_60_111 : decode prog_2_method_8_code 111 = .ok (.if_icmp .eq 64, 3) := by decide +kernel
theorem zd_60_114 : decode prog_2_method_8_code 114 = .ok (.iload_n 2, 1) := by decide +kernel
theorem zd_60_115 : decode prog_2_method_8_code 115 = .ok (.bipush 11, 2) := by decide +kernel
theorem zd_60_117 : decode prog_2_method_8_code 117 = .ok (.if_icmp .ne 15, 3) := by decide +kernel
theorem zd_60_132 : decode prog_2_method_8_code 132 = .ok (.iconst 0, 1) := by decide +kernel
theorem zd_60_133 : decode prog_2_method_8_code 133 = .ok (.istore 4, 2) := by decide +kernel
theorem zd_60_135 : decode prog_2_method_8_code 135 = .ok (.iload 4, 2) := by decide +kernel
theorem zd_60_137 : decode prog_2_method_8_code 137 = .ok (.ifCond .eq 25, 3) := by decide +kernel
theorem zd_60_162 : decode prog_2_method_8_code 162 = .ok (.aload_n 0, 1) := by decide +kernel
theorem zd_60_163 : decode prog_2_method_8_code 163 = .ok (.iload_n 1, 1) := by decide +kernel
theorem zd_60_164 : decode prog_2_method_8_code 164 = .ok (.iload_n 3, 1) := by decide +kernel
theorem zd_60_165 : decode prog_2_method_8_code 165 = .ok (.aload_n 0, 1) := by decide +kernel
theorem zd_60_166 : decode prog_2_method_8_code 166 = .ok (.getfield 240, 3) := by decide +kernel
theorem zd_60_169 : decode prog_2_method_8_code 169 = .ok (.invokevirtual 262, 3) := by decide +kernel
theorem zd_60_172 : decode prog_2_method_8_code 172 = .ok (.goto 30, 3) := by decide +kernel
theorem zd_60_175 : decode prog_2_method_8_code 175 = .ok (.iload_n 1, 1) := by decide +kernel
theorem zd_60_176 : decode prog_2_method_8_code 176 = .ok (.bipush 55, 2) := by decide +kernel
theorem zd_60_178 : decode prog_2_method_8_code 178 = .ok (.if_icmp .ne 18, 3) := by decide +kernel
theorem zd_60_181 : decode prog_2_method_8_code 181 = .ok (.aload_n 0, 1) := by decide +kernel
theorem zd_60_182 : decode prog_2_method_8_code 182 = .ok (.iload_n 3, 1) := by decide +kernel
theorem zd_60_183 : decode prog_2_method_8_code 183 = .ok (.aload_n 0, 1) := by decide +kernel
theorem zd_60_184 : decode prog_2_method_8_code 184 = .ok (.getfield 52, 3) := by decide +kernel
theorem zd_60_187 : decode prog_2_method_8_code 187 = .ok (.getfield 266, 3) := by decide +kernel
theorem zd_60_190 : decode prog_2_method_8_code 190 = .ok (.invokevirtual 269, 3) := by decide +kernel
theorem zd_60_193 : decode prog_2_method_8_code 193 = .ok (.goto 9, 3) := by decide +kernel
theorem zd_60_196 : decode prog_2_method_8_code 196 = .ok (.aload_n 0, 1) := by decide +kernel
theorem zd_60_197 : decode prog_2_method_8_code 197 = .ok (.iload_n 1, 1) := by decide +kernel
theorem zd_60_198 : decode prog_2_method_8_code 198 = .ok (.iload_n 3, 1) := by decide +kernel
theorem zd_60_199 : decode prog_2_method_8_code 199 = .ok (.invokevirtual 272, 3) := by decide +kernel
theorem zd_61_0 : decode prog_2_method_37_code 0 = .ok (.aload_n 0, 1) := by decide +kernel
theorem zd_61_1 : decode prog_2_method_37_code 1 = .ok (.getfield 36, 3) := by decide +kernel
theorem zd_61_4 : decode prog_2_method_37_code 4 = .ok (.aload_n 0, 1) := by decide +kernel
theorem zd_61_5 : decode prog_2_method_37_code 5 = .ok (.getfield 65, 3) := by decide +kernel
theorem zd_61_8 : decode prog_2_method_37_code 8 = .ok (.getfield 357, 3) := by decide +kernel
theorem zd_61_11 : decode prog_2_method_37_code 11 = .ok (.iconst 2, 1) := by decide +kernel
theorem zd_61_12 : decode prog_2_method_37_code 12 = .ok (.iload_n 1, 1) := by decide +kernel
theorem zd_61_13 : decode prog_2_method_37_code 13 = .ok (.imul, 1) := by decide +kernel
theorem zd_61_14 : decode prog_2_method_37_code 14 = .ok (.laload, 1) := by decide +kernel
theorem zd_61_15 : decode prog_2_method_37_code 15 = .ok (.aload_n 0, 1) := by decide +kernel
theorem zd_61_16 : decode prog_2_method_37_code 16 = .ok (.getfield 65, 3) := by decide +kernel
theorem zd_61_19 : decode prog_2_method_37_code 19 = .ok (.getfield 357, 3) := by decide +kernel
theorem zd_61_22 : decode prog_2_method_37_code 22 = .ok (.iconst 2, 1) := by decide +kernel
theorem zd_61_23 : decode prog_2_method_37_code 23 = .ok (.iload_n 1, 1) := by decide +kernel
theorem zd_61_24 : decode prog_2_method_37_code 24 = .ok (.imul, 1) := by decide +kernel
theorem zd_61_25 : decode prog_2_method_37_code 25 = .ok (.iconst 1, 1) := by decide +kernel
theorem zd_61_26 : decode prog_2_method_37_code 26 = .ok (.iadd, 1) := by decide +kernel
theorem zd_61_27 : decode prog_2_method_37_code 27 = .ok (.laload, 1) := by decide +kernel
theorem zd_61_28 : decode prog_2_method_37_code 28 = .ok (.invokevirtual 216, 3) := by decide +kernel
theorem zd_61_31 : decode prog_2_method_37_code 31 = .ok (.istore_n 2, 1) := by decide +kernel
theorem zd_61_32 : decode prog_2_method_37_code 32 = .ok (.iload_n 2, 1) := by decide +kernel
theorem zd_61_33 : decode prog_2_method_37_code 33 = .ok (.ifCond .ge 7, 3) := by decide +kernel
theorem zd_61_36 : decode prog_2_method_37_code 36 = .ok (.iconst (-1), 1) := by decide +kernel
theorem zd_61_37 : decode prog_2_method_37_code 37 = .ok (.goto 12, 3) := by decide +kernel
theorem zd_61_49 : decode prog_2_method_37_code 49 = .ok (.istore_n 3, 1) := by decide +kernel
theorem zd_61_50 : decode prog_2_method_37_code 50 = .ok (.iload_n 3, 1) := by decide +kernel
theorem zd_61_51 : decode prog_2_method_37_code 51 = .ok (.ifCond .ge 4, 3) := by decide +kernel
theorem zd_62_0 : decode prog_9_method_4_code 0 = .ok (.lload_n 1, 1) := by decide +kernel
theorem zd_62_1 : decode prog_9_method_4_code 1 = .ok (.ldc2_w 71, 3) := by decide +kernel
theorem zd_62_4 : decode prog_9_method_4_code 4 = .ok (.lmul, 1) := by decide +kernel
theorem zd_62_5 : decode prog_9_method_4_code 5 = .ok (.lload_n 3, 1) := by decide +kernel
theorem zd_62_6 : decode prog_9_method_4_code 6 = .ok (.ldc2_w 73, 3) := by decide +kernel
theorem zd_62_9 : decode prog_9_method_4_code 9 = .ok (.lmul, 1) := by decide +kernel
theorem zd_62_10 : decode prog_9_method_4_code 10 = .ok (.ladd, 1) := by decide +kernel
theorem zd_62_11 : decode prog_9_method_4_code 11 = .ok (.bipush 40, 2) := by decide +kernel
theorem zd_62_13 : decode prog_9_method_4_code 13 = .ok (.lushr, 1) := by decide +kernel
theorem zd_62_14 : decode prog_9_method_4_code 14 = .ok (.l2i, 1) := by decide +kernel
theorem zd_62_15 : decode prog_9_method_4_code 15 = .ok (.sipush 8191, 3) := by decide +kernel
theorem zd_62_18 : decode prog_9_method_4_code 18 = .ok (.iand, 1) := by decide +kernel
theorem zd_62_19 : decode prog_9_method_4_code 19 = .ok (.istore 5, 2) := by decide +kernel
theorem zd_62_21 : decode prog_9_method_4_code 21 = .ok (.iconst 0, 1) := by decide +kernel
theorem zd_62_22 : decode prog_9_method_4_code 22 = .ok (.istore 6, 2) := by decide +kernel
theorem zd_62_24 : decode prog_9_method_4_code 24 = .ok (.iload 6, 2) := by decide +kernel
theorem zd_62_26 : decode prog_9_method_4_code 26 = .ok (.sipush 8192, 3) := by decide +kernel
theorem zd_62_29 : decode prog_9_method_4_code 29 = .ok (.if_icmp .ge 67, 3) := by decide +kernel
theorem zd_62_32 : decode prog_9_method_4_code 32 = .ok (.aload_n 0, 1) := by decide +kernel
theorem zd_62_33 : decode prog_9_method_4_code 33 = .ok (.getfield 28, 3) := by decide +kernel
theorem zd_62_36 : decode prog_9_method_4_code 36 = .ok (.iload 5, 2) := by decide +kernel
theorem zd_62_38 : decode prog_9_method_4_code 38 = .ok (.iaload, 1) := by decide +kernel
theorem zd_62_39 : decode prog_9_method_4_code 39 = .ok (.ifCond .eq 57, 3) := by decide +kernel
theorem zd_62_42 : decode prog_9_method_4_code 42 = .ok (.aload_n 0, 1) := by decide +kernel
theorem zd_62_43 : decode prog_9_method_4_code 43 = .ok (.getfield 28, 3) := by decide +kernel
theorem zd_62_46 : decode prog_9_method_4_code 46 = .ok (.iload 5, 2) := by decide +kernel
theorem zd_62_48 : decode prog_9_method_4_code 48 = .ok (.iaload, 1) := by decide +kernel
theorem zd_62_49 : decode prog_9_method_4_code 49 = .ok (.iconst 1, 1) := by decide +kernel
theorem zd_62_50 : decode prog_9_method_4_code 50 = .ok (.isub, 1) := by decide +kernel
theorem zd_62_51 : decode prog_9_method_4_code 51 = .ok (.istore 7, 2) := by decide +kernel
theorem zd_62_53 : decode prog_9_method_4_code 53 = .ok (.aload_n 0, 1) := by decide +kernel
theorem zd_62_54 : decode prog_9_method_4_code 54 = .ok (.getfield 11, 3) := by decide +kernel
theorem zd_62_57 : decode prog_9_method_4_code 57 = .ok (.iload 7, 2) := by decide +kernel
theorem zd_62_59 : decode prog_9_method_4_code 59 = .ok (.laload, 1) := by decide +kernel
theorem zd_62_60 : decode prog_9_method_4_code 60 = .ok (.lload_n 1, 1) := by decide +kernel
theorem zd_62_61 : decode prog_9_method_4_code 61 = .ok (.lcmp, 1) := by decide +kernel
theorem zd_62_62 : decode prog_9_method_4_code 62 = .ok (.ifCond .ne 18, 3) := by decide +kernel
theorem zd_62_65 : decode prog_9_method_4_code 65 = .ok (.aload_n 0, 1) := by decide +kernel
theorem zd_62_66 : decode prog_9_method_4_code 66 = .ok (.getfield 15, 3) := by decide +kernel
theorem zd_62_69 : decode prog_9_method_4_code 69 = .ok (.iload 7, 2) := by decide +kernel
theorem zd_62_71 : decode prog_9_method_4_code 71 = .ok (.laload, 1) := by decide +kernel
theorem zd_62_72 : decode prog_9_method_4_code 72 = .ok (.lload_n 3, 1) := by decide +kernel
theorem zd_62_73 : decode prog_9_method_4_code 73 = .ok (.lcmp, 1) := by decide +kernel
theorem zd_62_74 : decode prog_9_method_4_code 74 = .ok (.ifCond .ne 6, 3) := by decide +kernel
theorem zd_62_77 : decode prog_9_method_4_code 77 = .ok (.iload 7, 2) := by decide +kernel
theorem zd_62_80 : decode prog_9_method_4_code 80 = .ok (.iload 5, 2) := by decide +kernel
theorem zd_62_82 : decode prog_9_method_4_code 82 = .ok (.iconst 1, 1) := by decide +kernel
theorem zd_62_83 : decode prog_9_method_4_code 83 = .ok (.iadd, 1) := by decide +kernel
theorem zd_62_84 : decode prog_9_method_4_code 84 = .ok (.sipush 8191, 3) := by decide +kernel
theorem zd_62_87 : decode prog_9_method_4_code 87 = .ok (.iand, 1) := by decide +kernel
theorem zd_62_88 : decode prog_9_method_4_code 88 = .ok (.istore 5, 2) := by decide +kernel
theorem zd_62_90 : decode prog_9_method_4_code 90 = .ok (.iinc 6 1, 3) := by decide +kernel
theorem zd_62_93 : decode prog_9_method_4_code 93 = .ok (.goto (-69), 3) := by decide +kernel
theorem zd_62_96 : decode prog_9_method_4_code 96 = .ok (.iconst (-1), 1) := by decide +kernel
theorem zd_63_0 : decode prog_14_method_4_code 0 = .ok (.iload_n 0, 1) := by decide +kernel
theorem zd_63_1 : decode prog_14_method_4_code 1 = .ok (.iload_n 1, 1) := by decide +kernel
theorem zd_63_2 : decode prog_14_method_4_code 2 = .ok (.if_icmp .lt 12, 3) := by decide +kernel
theorem zd_63_5 : decode prog_14_method_4_code 5 = .ok (.iload_n 0, 1) := by decide +kernel
theorem zd_63_6 : decode prog_14_method_4_code 6 = .ok (.iload_n 2, 1) := by decide +kernel
theorem zd_63_7 : decode prog_14_method_4_code 7 = .ok (.if_icmp .gt 7, 3) := by decide +kernel
theorem zd_63_10 : decode prog_14_method_4_code 10 = .ok (.iconst 1, 1) := by decide +kernel
theorem zd_63_11 : decode prog_14_method_4_code 11 = .ok (.goto 4, 3) := by decide +kernel
theorem zd_64_0 : decode prog_14_method_3_code 0 = .ok (.aload_n 0, 1) := by decide +kernel
theorem zd_64_1 : decode prog_14_method_3_code 1 = .ok (.iload_n 1, 1) := by decide +kernel
theorem zd_64_2 : decode prog_14_method_3_code 2 = .ok (.ifCond .eq 7, 3) := by decide +kernel
theorem zd_64_9 : decode prog_14_method_3_code 9 = .ok (.iload_n 2, 1) := by decide +kernel
theorem zd_64_10 : decode prog_14_method_3_code 10 = .ok (.ifCond .eq 7, 3) := by decide +kernel
theorem zd_64_17 : decode prog_14_method_3_code 17 = .ok (.iconst 0, 1) := by decide +kernel
theorem zd_64_18 : decode prog_14_method_3_code 18 = .ok (.putfield 501, 3) := by decide +kernel
theorem zd_64_21 : decode prog_14_method_3_code 21 = .ok (.aload_n 0, 1) := by decide +kernel
theorem zd_64_22 : decode prog_14_method_3_code 22 = .ok (.getfield 501, 3) := by decide +kernel
theorem zd_64_25 : decode prog_14_method_3_code 25 = .ok (.ifCond .le 7, 3) := by decide +kernel
theorem zd_64_32 : decode prog_14_method_3_code 32 = .ok (.iconst 0, 1) := by decide +kernel
theorem zd_65_0 : decode prog_14_method_174_code 0 = .ok (.aload_n 0, 1) := by decide +kernel
theorem zd_65_1 : decode prog_14_method_174_code 1 = .ok (.iload_n 1, 1) := by decide +kernel
theorem zd_65_2 : decode prog_14_method_174_code 2 = .ok (.putfield 1174, 3) := by decide +kernel
theorem zd_65_5 : decode prog_14_method_174_code 5 = .ok (.aload_n 0, 1) := by decide +kernel
theorem zd_65_6 : decode prog_14_method_174_code 6 = .ok (.iconst 0, 1) := by decide +kernel
theorem zd_65_7 : decode prog_14_method_174_code 7 = .ok (.putfield 1183, 3) := by decide +kernel
theorem zd_65_10 : decode prog_14_method_174_code 10 = .ok (.aload_n 0, 1) := by decide +kernel
theorem zd_65_11 : decode prog_14_method_174_code 11 = .ok (.iconst (-1), 1) := by decide +kernel
theorem zd_65_12 : decode prog_14_method_174_code 12 = .ok (.putfield 1186, 3) := by decide +kernel
theorem zd_65_15 : decode prog_14_method_174_code 15 = .ok (.aload_n 0, 1) := by decide +kernel
theorem zd_65_16 : decode prog_14_method_174_code 16 = .ok (.iconst 0, 1) := by decide +kernel
theorem zd_65_17 : decode prog_14_method_174_code 17 = .ok (.putfield 1177, 3) := by decide +kernel
theorem zd_65_20 : decode prog_14_method_174_code 20 = .ok (.aload_n 0, 1) := by decide +kernel
theorem zd_65_21 : decode prog_14_method_174_code 21 = .ok (.iconst 0, 1) := by decide +kernel
theorem zd_65_22 : decode prog_14_method_174_code 22 = .ok (.putfield 1453, 3) := by decide +kernel
theorem zd_65_25 : decode prog_14_method_174_code 25 = .ok (.aload_n 0, 1) := by decide +kernel
theorem zd_65_26 : decode prog_14_method_174_code 26 = .ok (.iconst 0, 1) := by decide +kernel
theorem zd_65_27 : decode prog_14_method_174_code 27 = .ok (.putfield 1465, 3) := by decide +kernel
theorem zd_65_30 : decode prog_14_method_174_code 30 = .ok (.aload_n 0, 1) := by decide +kernel
theorem zd_65_31 : decode prog_14_method_174_code 31 = .ok (.iconst 0, 1) := by decide +kernel
theorem zd_65_32 : decode prog_14_method_174_code 32 = .ok (.putfield 1447, 3) := by decide +kernel
theorem zd_65_35 : decode prog_14_method_174_code 35 = .ok (.aload_n 0, 1) := by decide +kernel
theorem zd_65_36 : decode prog_14_method_174_code 36 = .ok (.iconst 0, 1) := by decide +kernel
theorem zd_65_37 : decode prog_14_method_174_code 37 = .ok (.putfield 1468, 3) := by decide +kernel
theorem zd_65_40 : decode prog_14_method_174_code 40 = .ok (.aload_n 0, 1) := by decide +kernel
theorem zd_65_41 : decode prog_14_method_174_code 41 = .ok (.iconst 0, 1) := by decide +kernel
theorem zd_65_42 : decode prog_14_method_174_code 42 = .ok (.putfield 1450, 3) := by decide +kernel
theorem zd_65_45 : decode prog_14_method_174_code 45 = .ok (.aload_n 0, 1) := by decide +kernel
theorem zd_65_46 : decode prog_14_method_174_code 46 = .ok (.iconst 0, 1) := by decide +kernel
theorem zd_65_47 : decode prog_14_method_174_code 47 = .ok (.putfield 1444, 3) := by decide +kernel
theorem zd_65_50 : decode prog_14_method_174_code 50 = .ok (.aload_n 0, 1) := by decide +kernel
theorem zd_65_51 : decode prog_14_method_174_code 51 = .ok (.iconst 0, 1) := by decide +kernel
theorem zd_65_52 : decode prog_14_method_174_code 52 = .ok (.putfield 1231, 3) := by decide +kernel
theorem zd_65_55 : decode prog_14_method_174_code 55 = .ok (.aload_n 0, 1) := by decide +kernel
theorem zd_65_56 : decode prog_14_method_174_code 56 = .ok (.iconst 0, 1) := by decide +kernel
theorem zd_65_57 : decode prog_14_method_174_code 57 = .ok (.putfield 1401, 3) := by decide +kernel
theorem zd_65_60 : decode prog_14_method_174_code 60 = .ok (.aload_n 0, 1) := by decide +kernel
theorem zd_65_61 : decode prog_14_method_174_code 61 = .ok (.iconst 0, 1) := by decide +kernel
theorem zd_65_62 : decode prog_14_method_174_code 62 = .ok (.putfield 1392, 3) := by decide +kernel
theorem zd_65_65 : decode prog_14_method_174_code 65 = .ok (.aload_n 0, 1) := by decide +kernel
theorem zd_65_66 : decode prog_14_method_174_code 66 = .ok (.iconst 0, 1) := by decide +kernel
theorem zd_65_67 : decode prog_14_method_174_code 67 = .ok (.putfield 1389, 3) := by decide +kernel
theorem zd_65_70 : decode prog_14_method_174_code 70 = .ok (.aload_n 0, 1) := by decide +kernel
theorem zd_65_71 : decode prog_14_method_174_code 71 = .ok (.iconst 0, 1) := by decide +kernel
theorem zd_65_72 : decode prog_14_method_174_code 72 = .ok (.putfield 1281, 3) := by decide +kernel
theorem zd_65_75 : decode prog_14_method_174_code 75 = .ok (.aload_n 0, 1) := by decide +kernel
theorem zd_65_76 : decode prog_14_method_174_code 76 = .ok (.iconst 0, 1) := by decide +kernel
theorem zd_65_77 : decode prog_14_method_174_code 77 = .ok (.putfield 1275, 3) := by decide +kernel
theorem zd_65_80 : decode prog_14_method_174_code 80 = .ok (.aload_n 0, 1) := by decide +kernel
theorem zd_65_81 : decode prog_14_method_174_code 81 = .ok (.iconst 1, 1) := by decide +kernel
theorem zd_65_82 : decode prog_14_method_174_code 82 = .ok (.putfield 1287, 3) := by decide +kernel
theorem zd_65_85 : decode prog_14_method_174_code 85 = .ok (.aload_n 0, 1) := by decide +kernel
theorem zd_65_86 : decode prog_14_method_174_code 86 = .ok (.getfield 44, 3) := by decide +kernel
theorem zd_65_89 : decode prog_14_method_174_code 89 = .ok (.iload_n 1, 1) := by decide +kernel
theorem zd_65_90 : decode prog_14_method_174_code 90 = .ok (.iconst 0, 1) := by decide +kernel
theorem zd_65_91 : decode prog_14_method_174_code 91 = .ok (.iastore, 1) := by decide +kernel
theorem zd_65_92 : decode prog_14_method_174_code 92 = .ok (.aload_n 0, 1) := by decide +kernel
theorem zd_65_93 : decode prog_14_method_174_code 93 = .ok (.getfield 72, 3) := by decide +kernel
theorem zd_65_96 : decode prog_14_method_174_code 96 = .ok (.iload_n 1, 1) := by decide +kernel
theorem zd_65_97 : decode prog_14_method_174_code 97 = .ok (.iconst 0, 1) := by decide +kernel
theorem zd_65_98 : decode prog_14_method_174_code 98 = .ok (.iastore, 1) := by decide +kernel
theorem zd_65_99 : decode prog_14_method_174_code 99 = .ok (.aload_n 0, 1) := by decide +kernel
theorem zd_65_100 : decode prog_14_method_174_code 100 = .ok (.getfield 93, 3) := by decide +kernel
theorem zd_65_103 : decode prog_14_method_174_code 103 = .ok (.iload_n 1, 1) := by decide +kernel
theorem zd_65_104 : decode prog_14_method_174_code 104 = .ok (.iconst 0, 1) := by decide +kernel
theorem zd_65_105 : decode prog_14_method_174_code 105 = .ok (.iastore, 1) := by decide +kernel
theorem zd_65_106 : decode prog_14_method_174_code 106 = .ok (.aload_n 0, 1) := by decide +kernel
theorem zd_65_107 : decode prog_14_method_174_code 107 = .ok (.getfield 117, 3) := by decide +kernel
theorem zd_65_110 : decode prog_14_method_174_code 110 = .ok (.iload_n 1, 1) := by decide +kernel
theorem zd_65_111 : decode prog_14_method_174_code 111 = .ok (.iconst 0, 1) := by decide +kernel
theorem zd_65_112 : decode prog_14_method_174_code 112 = .ok (.iastore, 1) := by decide +kernel
theorem zd_65_113 : decode prog_14_method_174_code 113 = .ok (.iconst 0, 1) := by decide +kernel
theorem zd_65_114 : decode prog_14_method_174_code 114 = .ok (.istore_n 2, 1) := by decide +kernel
theorem zd_65_115 : decode prog_14_method_174_code 115 = .ok (.iload_n 2, 1) := by decide +kernel
theorem zd_65_116 : decode prog_14_method_174_code 116 = .ok (.bipush 10, 2) := by decide +kernel
theorem zd_65_118 : decode prog_14_method_174_code 118 = .ok (.if_icmp .ge 23, 3) := by decide +kernel
theorem zd_65_121 : decode prog_14_method_174_code 121 = .ok (.aload_n 0, 1) := by decide +kernel
theorem zd_65_122 : decode prog_14_method_174_code 122 = .ok (.getfield 401, 3) := by decide +kernel
theorem zd_65_125 : decode prog_14_method_174_code 125 = .ok (.iload_n 2, 1) := by decide +kernel
theorem zd_65_126 : decode prog_14_method_174_code 126 = .ok (.iconst (-1), 1) := by decide +kernel
theorem zd_65_127 : decode prog_14_method_174_code 127 = .ok (.iastore, 1) := by decide +kernel
theorem zd_65_128 : decode prog_14_method_174_code 128 = .ok (.aload_n 0, 1) := by decide +kernel
theorem zd_65_129 : decode prog_14_method_174_code 129 = .ok (.getfield 404, 3) := by decide +kernel
theorem zd_65_132 : decode prog_14_method_174_code 132 = .ok (.iload_n 2, 1) := by decide +kernel
theorem zd_65_133 : decode prog_14_method_174_code 133 = .ok (.iconst 0, 1) := by decide +kernel
theorem zd_65_134 : decode prog_14_method_174_code 134 = .ok (.iastore, 1) := by decide +kernel
theorem zd_65_135 : decode prog_14_method_174_code 135 = .ok (.iinc 2 1, 3) := by decide +kernel
theorem zd_65_138 : decode prog_14_method_174_code 138 = .ok (.goto (-23), 3) := by decide +kernel
theorem zd_65_141 : decode prog_14_method_174_code 141 = .ok (.aload_n 0, 1) := by decide +kernel
theorem zd_65_142 : decode prog_14_method_174_code 142 = .ok (.aload_n 0, 1) := by decide +kernel
theorem zd_65_143 : decode prog_14_method_174_code 143 = .ok (.ldc2_w 1381, 3) := by decide +kernel
theorem zd_65_146 : decode prog_14_method_174_code 146 = .ok (.lconst 0, 1) := by decide +kernel
theorem zd_65_147 : decode prog_14_method_174_code 147 = .ok (.invokevirtual 536, 3) := by decide +kernel
theorem zd_65_150 : decode prog_14_method_174_code 150 = .ok (.iconst 0, 1) := by decide +kernel
theorem zd_65_151 : decode prog_14_method_174_code 151 = .ok (.invokevirtual 1386, 3) := by decide +kernel
theorem zd_66_0 : decode prog_14_method_101_code 0 = .ok (.aload_n 0, 1) := by decide +kernel
theorem zd_66_1 : decode prog_14_method_101_code 1 = .ok (.iconst 0, 1) := by decide +kernel
theorem zd_66_2 : decode prog_14_method_101_code 2 = .ok (.putfield 1189, 3) := by decide +kernel
theorem zd_66_5 : decode prog_14_method_101_code 5 = .ok (.iconst 0, 1) := by decide +kernel
theorem zd_66_6 : decode prog_14_method_101_code 6 = .ok (.istore_n 1, 1) := by decide +kernel
theorem zd_66_7 : decode prog_14_method_101_code 7 = .ok (.iconst 0, 1) := by decide +kernel
theorem zd_66_8 : decode prog_14_method_101_code 8 = .ok (.istore_n 2, 1) := by decide +kernel
theorem zd_66_9 : decode prog_14_method_101_code 9 = .ok (.iload_n 2, 1) := by decide +kernel
theorem zd_66_10 : decode prog_14_method_101_code 10 = .ok (.aload_n 0, 1) := by decide +kernel
theorem zd_66_11 : decode prog_14_method_101_code 11 = .ok (.getfield 1192, 3) := by decide +kernel
theorem zd_66_14 : decode prog_14_method_101_code 14 = .ok (.if_icmp .gt 84, 3) := by decide +kernel
theorem zd_66_17 : decode prog_14_method_101_code 17 = .ok (.iload_n 2, 1) := by decide +kernel
theorem zd_66_18 : decode prog_14_method_101_code 18 = .ok (.aload_n 0, 1) := by decide +kernel
theorem zd_66_19 : decode prog_14_method_101_code 19 = .ok (.getfield 1192, 3) := by decide +kernel
theorem zd_66_22 : decode prog_14_method_101_code 22 = .ok (.if_icmp .eq 13, 3) := by decide +kernel
theorem zd_66_25 : decode prog_14_method_101_code 25 = .ok (.aload_n 0, 1) := by decide +kernel
theorem zd_66_26 : decode prog_14_method_101_code 26 = .ok (.iload_n 2, 1) := by decide +kernel
theorem zd_66_27 : decode prog_14_method_101_code 27 = .ok (.invokevirtual 1195, 3) := by decide +kernel
theorem zd_66_30 : decode prog_14_method_101_code 30 = .ok (.bipush 10, 2) := by decide +kernel
theorem zd_66_32 : decode prog_14_method_101_code 32 = .ok (.if_icmp .ne 60, 3) := by decide +kernel
theorem zd_66_35 : decode prog_14_method_101_code 35 = .ok (.iload_n 1, 1) := by decide +kernel
theorem zd_66_36 : decode prog_14_method_101_code 36 = .ok (.istore_n 3, 1) := by decide +kernel
theorem zd_66_37 : decode prog_14_method_101_code 37 = .ok (.iload_n 3, 1) := by decide +kernel
theorem zd_66_38 : decode prog_14_method_101_code 38 = .ok (.iload_n 2, 1) := by decide +kernel
theorem zd_66_39 : decode prog_14_method_101_code 39 = .ok (.if_icmp .ge 19, 3) := by decide +kernel
theorem zd_66_42 : decode prog_14_method_101_code 42 = .ok (.aload_n 0, 1) := by decide +kernel
theorem zd_66_43 : decode prog_14_method_101_code 43 = .ok (.iload_n 3, 1) := by decide +kernel
theorem zd_66_44 : decode prog_14_method_101_code 44 = .ok (.invokevirtual 1195, 3) := by decide +kernel
theorem zd_66_47 : decode prog_14_method_101_code 47 = .ok (.bipush 35, 2) := by decide +kernel
theorem zd_66_49 : decode prog_14_method_101_code 49 = .ok (.if_icmp .eq 9, 3) := by decide +kernel
theorem zd_66_52 : decode prog_14_method_101_code 52 = .ok (.iinc 3 1, 3) := by decide +kernel
theorem zd_66_55 : decode prog_14_method_101_code 55 = .ok (.goto (-18), 3) := by decide +kernel
theorem zd_66_58 : decode prog_14_method_101_code 58 = .ok (.aload_n 0, 1) := by decide +kernel
theorem zd_66_59 : decode prog_14_method_101_code 59 = .ok (.getfield 292, 3) := by decide +kernel
theorem zd_66_62 : decode prog_14_method_101_code 62 = .ok (.aload_n 0, 1) := by decide +kernel
theorem zd_66_63 : decode prog_14_method_101_code 63 = .ok (.getfield 1189, 3) := by decide +kernel
theorem zd_66_66 : decode prog_14_method_101_code 66 = .ok (.iload_n 1, 1) := by decide +kernel
theorem zd_66_67 : decode prog_14_method_101_code 67 = .ok (.iastore, 1) := by decide +kernel
theorem zd_66_68 : decode prog_14_method_101_code 68 = .ok (.aload_n 0, 1) := by decide +kernel
theorem zd_66_69 : decode prog_14_method_101_code 69 = .ok (.getfield 295, 3) := by decide +kernel
theorem zd_66_72 : decode prog_14_method_101_code 72 = .ok (.aload_n 0, 1) := by decide +kernel
theorem zd_66_73 : decode prog_14_method_101_code 73 = .ok (.getfield 1189, 3) := by decide +kernel
theorem zd_66_76 : decode prog_14_method_101_code 76 = .ok (.iload_n 3, 1) := by decide +kernel
theorem zd_66_77 : decode prog_14_method_101_code 77 = .ok (.iastore, 1) := by decide +kernel
theorem zd_66_78 : decode prog_14_method_101_code 78 = .ok (.aload_n 0, 1) := by decide +kernel
theorem zd_66_79 : decode prog_14_method_101_code 79 = .ok (.dup, 1) := by decide +kernel
theorem zd_66_80 : decode prog_14_method_101_code 80 = .ok (.getfield 1189, 3) := by decide +kernel
theorem zd_66_83 : decode prog_14_method_101_code 83 = .ok (.iconst 1, 1) := by decide +kernel
theorem zd_66_84 : decode prog_14_method_101_code 84 = .ok (.iadd, 1) := by decide +kernel
theorem zd_66_85 : decode prog_14_method_101_code 85 = .ok (.putfield 1189, 3) := by decide +kernel
theorem zd_66_88 : decode prog_14_method_101_code 88 = .ok (.iload_n 2, 1) := by decide +kernel
theorem zd_66_89 : decode prog_14_method_101_code 89 = .ok (.iconst 1, 1) := by decide +kernel
theorem zd_66_90 : decode prog_14_method_101_code 90 = .ok (.iadd, 1) := by decide +kernel
theorem zd_66_91 : decode prog_14_method_101_code 91 = .ok (.istore_n 1, 1) := by decide +kernel
theorem zd_66_92 : decode prog_14_method_101_code 92 = .ok (.iinc 2 1, 3) := by decide +kernel
theorem zd_66_95 : decode prog_14_method_101_code 95 = .ok (.goto (-86), 3) := by decide +kernel
theorem zd_67_0 : decode prog_14_method_166_code 0 = .ok (.aload_n 0, 1) := by decide +kernel
theorem zd_67_1 : decode prog_14_method_166_code 1 = .ok (.getfield 301, 3) := by decide +kernel
theorem zd_67_4 : decode prog_14_method_166_code 4 = .ok (.aload_n 0, 1) := by decide +kernel
theorem zd_67_5 : decode prog_14_method_166_code 5 = .ok (.getfield 1447, 3) := by decide +kernel
theorem zd_67_8 : decode prog_14_method_166_code 8 = .ok (.iload_n 1, 1) := by decide +kernel
theorem zd_67_9 : decode prog_14_method_166_code 9 = .ok (.iastore, 1) := by decide +kernel
theorem zd_67_10 : decode prog_14_method_166_code 10 = .ok (.aload_n 0, 1) := by decide +kernel
theorem zd_67_11 : decode prog_14_method_166_code 11 = .ok (.getfield 304, 3) := by decide +kernel
theorem zd_67_14 : decode prog_14_method_166_code 14 = .ok (.aload_n 0, 1) := by decide +kernel
theorem zd_67_15 : decode prog_14_method_166_code 15 = .ok (.getfield 1447, 3) := by decide +kernel
theorem zd_67_18 : decode prog_14_method_166_code 18 = .ok (.iload_n 2, 1) := by decide +kernel
theorem zd_67_19 : decode prog_14_method_166_code 19 = .ok (.iastore, 1) := by decide +kernel
theorem zd_67_20 : decode prog_14_method_166_code 20 = .ok (.aload_n 0, 1) := by decide +kernel
theorem zd_67_21 : decode prog_14_method_166_code 21 = .ok (.getfield 307, 3) := by decide +kernel
theorem zd_67_24 : decode prog_14_method_166_code 24 = .ok (.aload_n 0, 1) := by decide +kernel
theorem zd_67_25 : decode prog_14_method_166_code 25 = .ok (.getfield 1447, 3) := by decide +kernel
theorem zd_67_28 : decode prog_14_method_166_code 28 = .ok (.iload_n 1, 1) := by decide +kernel
theorem zd_67_29 : decode prog_14_method_166_code 29 = .ok (.iastore, 1) := by decide +kernel
theorem zd_67_30 : decode prog_14_method_166_code 30 = .ok (.aload_n 0, 1) := by decide +kernel
theorem zd_67_31 : decode prog_14_method_166_code 31 = .ok (.getfield 310, 3) := by decide +kernel
theorem zd_67_34 : decode prog_14_method_166_code 34 = .ok (.aload_n 0, 1) := by decide +kernel
theorem zd_67_35 : decode prog_14_method_166_code 35 = .ok (.getfield 1447, 3) := by decide +kernel
theorem zd_67_38 : decode prog_14_method_166_code 38 = .ok (.iload_n 3, 1) := by decide +kernel
theorem zd_67_39 : decode prog_14_method_166_code 39 = .ok (.iastore, 1) := by decide +kernel
theorem zd_67_40 : decode prog_14_method_166_code 40 = .ok (.aload_n 0, 1) := by decide +kernel
theorem zd_67_41 : decode prog_14_method_166_code 41 = .ok (.getfield 313, 3) := by decide +kernel
theorem zd_67_44 : decode prog_14_method_166_code 44 = .ok (.aload_n 0, 1) := by decide +kernel
theorem zd_67_45 : decode prog_14_method_166_code 45 = .ok (.getfield 1447, 3) := by decide +kernel
theorem zd_67_48 : decode prog_14_method_166_code 48 = .ok (.iload 4, 2) := by decide +kernel
theorem zd_67_50 : decode prog_14_method_166_code 50 = .ok (.iastore, 1) := by decide +kernel
theorem zd_67_51 : decode prog_14_method_166_code 51 = .ok (.aload_n 0, 1) := by decide +kernel
theorem zd_67_52 : decode prog_14_method_166_code 52 = .ok (.getfield 316, 3) := by decide +kernel
theorem zd_67_55 : decode prog_14_method_166_code 55 = .ok (.aload_n 0, 1) := by decide +kernel
theorem zd_67_56 : decode prog_14_method_166_code 56 = .ok (.getfield 1447, 3) := by decide +kernel
theorem zd_67_59 : decode prog_14_method_166_code 59 = .ok (.aload_n 0, 1) := by decide +kernel
theorem zd_67_60 : decode prog_14_method_166_code 60 = .ok (.getfield 1465, 3) := by decide +kernel
theorem zd_67_63 : decode prog_14_method_166_code 63 = .ok (.iastore, 1) := by decide +kernel
theorem zd_67_64 : decode prog_14_method_166_code 64 = .ok (.aload_n 0, 1) := by decide +kernel
theorem zd_67_65 : decode prog_14_method_166_code 65 = .ok (.getfield 319, 3) := by decide +kernel
theorem zd_67_68 : decode prog_14_method_166_code 68 = .ok (.aload_n 0, 1) := by decide +kernel
theorem zd_67_69 : decode prog_14_method_166_code 69 = .ok (.getfield 1447, 3) := by decide +kernel
theorem zd_67_72 : decode prog_14_method_166_code 72 = .ok (.iload 5, 2) := by decide +kernel
theorem zd_67_74 : decode prog_14_method_166_code 74 = .ok (.iastore, 1) := by decide +kernel
theorem zd_67_75 : decode prog_14_method_166_code 75 = .ok (.aload_n 0, 1) := by decide +kernel
theorem zd_67_76 : decode prog_14_method_166_code 76 = .ok (.getfield 322, 3) := by decide +kernel
theorem zd_67_79 : decode prog_14_method_166_code 79 = .ok (.aload_n 0, 1) := by decide +kernel
theorem zd_67_80 : decode prog_14_method_166_code 80 = .ok (.getfield 1447, 3) := by decide +kernel
theorem zd_67_83 : decode prog_14_method_166_code 83 = .ok (.aload_n 0, 1) := by decide +kernel
theorem zd_67_84 : decode prog_14_method_166_code 84 = .ok (.getfield 1444, 3) := by decide +kernel
theorem zd_67_87 : decode prog_14_method_166_code 87 = .ok (.iastore, 1) := by decide +kernel
theorem zd_67_88 : decode prog_14_method_166_code 88 = .ok (.aload_n 0, 1) := by decide +kernel
theorem zd_67_89 : decode prog_14_method_166_code 89 = .ok (.dup, 1) := by decide +kernel
theorem zd_67_90 : decode prog_14_method_166_code 90 = .ok (.getfield 1447, 3) := by decide +kernel
theorem zd_67_93 : decode prog_14_method_166_code 93 = .ok (.iconst 1, 1) := by decide +kernel
theorem zd_67_94 : decode prog_14_method_166_code 94 = .ok (.iadd, 1) := by decide +kernel
theorem zd_67_95 : decode prog_14_method_166_code 95 = .ok (.putfield 1447, 3) := by decide +kernel
theorem zd_68_0 : decode prog_14_method_173_code 0 = .ok (.aload_n 0, 1) := by decide +kernel
theorem zd_68_1 : decode prog_14_method_173_code 1 = .ok (.getfield 1447, 3) := by decide +kernel
theorem zd_68_4 : decode prog_14_method_173_code 4 = .ok (.iconst 1, 1) := by decide +kernel
theorem zd_68_5 : decode prog_14_method_173_code 5 = .ok (.isub, 1) := by decide +kernel
theorem zd_68_6 : decode prog_14_method_173_code 6 = .ok (.istore_n 1, 1) := by decide +kernel
theorem zd_68_7 : decode prog_14_method_173_code 7 = .ok (.aload_n 0, 1) := by decide +kernel
theorem zd_68_8 : decode prog_14_method_173_code 8 = .ok (.getfield 307, 3) := by decide +kernel
theorem zd_68_11 : decode prog_14_method_173_code 11 = .ok (.iload_n 1, 1) := by decide +kernel
theorem zd_68_12 : decode prog_14_method_173_code 12 = .ok (.iaload, 1) := by decide +kernel
theorem zd_68_13 : decode prog_14_method_173_code 13 = .ok (.aload_n 0, 1) := by decide +kernel
theorem zd_68_14 : decode prog_14_method_173_code 14 = .ok (.getfield 304, 3) := by decide +kernel
theorem zd_68_17 : decode prog_14_method_173_code 17 = .ok (.iload_n 1, 1) := by decide +kernel
theorem zd_68_18 : decode prog_14_method_173_code 18 = .ok (.iaload, 1) := by decide +kernel
theorem zd_68_19 : decode prog_14_method_173_code 19 = .ok (.if_icmp .ne 9, 3) := by decide +kernel
theorem zd_68_22 : decode prog_14_method_173_code 22 = .ok (.aload_n 0, 1) := by decide +kernel
theorem zd_68_23 : decode prog_14_method_173_code 23 = .ok (.iload_n 1, 1) := by decide +kernel
theorem zd_68_24 : decode prog_14_method_173_code 24 = .ok (.invokevirtual 1492, 3) := by decide +kernel
theorem zd_68_28 : decode prog_14_method_173_code 28 = .ok (.aload_n 0, 1) := by decide +kernel
theorem zd_68_29 : decode prog_14_method_173_code 29 = .ok (.getfield 307, 3) := by decide +kernel
theorem zd_68_32 : decode prog_14_method_173_code 32 = .ok (.iload_n 1, 1) := by decide +kernel
theorem zd_68_33 : decode prog_14_method_173_code 33 = .ok (.iaload, 1) := by decide +kernel
theorem zd_68_34 : decode prog_14_method_173_code 34 = .ok (.istore_n 2, 1) := by decide +kernel
theorem zd_68_35 : decode prog_14_method_173_code 35 = .ok (.aload_n 0, 1) := by decide +kernel
theorem zd_68_36 : decode prog_14_method_173_code 36 = .ok (.getfield 307, 3) := by decide +kernel
theorem zd_68_39 : decode prog_14_method_173_code 39 = .ok (.iload_n 1, 1) := by decide +kernel
theorem zd_68_40 : decode prog_14_method_173_code 40 = .ok (.dup2, 1) := by decide +kernel
theorem zd_68_41 : decode prog_14_method_173_code 41 = .ok (.iaload, 1) := by decide +kernel
theorem zd_68_42 : decode prog_14_method_173_code 42 = .ok (.iconst 1, 1) := by decide +kernel
theorem zd_68_43 : decode prog_14_method_173_code 43 = .ok (.iadd, 1) := by decide +kernel
theorem zd_68_44 : decode prog_14_method_173_code 44 = .ok (.iastore, 1) := by decide +kernel
theorem zd_68_45 : decode prog_14_method_173_code 45 = .ok (.aload_n 0, 1) := by decide +kernel
theorem zd_68_46 : decode prog_14_method_173_code 46 = .ok (.iload_n 1, 1) := by decide +kernel
theorem zd_68_47 : decode prog_14_method_173_code 47 = .ok (.ifCond .ne 7, 3) := by decide +kernel
theorem zd_68_50 : decode prog_14_method_173_code 50 = .ok (.iload_n 2, 1) := by decide +kernel
theorem zd_68_51 : decode prog_14_method_173_code 51 = .ok (.goto 7, 3) := by decide +kernel
theorem zd_68_58 : decode prog_14_method_173_code 58 = .ok (.putfield 1177, 3) := by decide +kernel
theorem zd_68_61 : decode prog_14_method_173_code 61 = .ok (.aload_n 0, 1) := by decide +kernel
theorem zd_68_62 : decode prog_14_method_173_code 62 = .ok (.iload_n 2, 1) := by decide +kernel
theorem zd_68_63 : decode prog_14_method_173_code 63 = .ok (.invokevirtual 1459, 3) := by decide +kernel
theorem zd_68_66 : decode prog_14_method_173_code 66 = .ok (.aload_n 0, 1) := by decide +kernel
theorem zd_68_67 : decode prog_14_method_173_code 67 = .ok (.getfield 1183, 3) := by decide +kernel
theorem zd_68_70 : decode prog_14_method_173_code 70 = .ok (.ifCond .le 4, 3) := by decide +kernel
theorem zd_68_74 : decode prog_14_method_173_code 74 = .ok (.aload_n 0, 1) := by decide +kernel
theorem zd_68_75 : decode prog_14_method_173_code 75 = .ok (.getfield 1444, 3) := by decide +kernel
theorem zd_68_78 : decode prog_14_method_173_code 78 = .ok (.ifCond .le 27, 3) := by decide +kernel
theorem zd_68_105 : decode prog_14_method_173_code 105 = .ok (.aload_n 0, 1) := by decide +kernel
theorem zd_68_106 : decode prog_14_method_173_code 106 = .ok (.iload_n 2, 1) := by decide +kernel
theorem zd_68_107 : decode prog_14_method_173_code 107 = .ok (.iload_n 1, 1) := by decide +kernel
theorem zd_68_108 : decode prog_14_method_173_code 108 = .ok (.invokevirtual 1498, 3) := by decide +kernel
theorem zd_68_111 : decode prog_14_method_173_code 111 = .ok (.aload_n 0, 1) := by decide +kernel
theorem zd_68_112 : decode prog_14_method_173_code 112 = .ok (.getfield 1183, 3) := by decide +kernel
theorem zd_68_115 : decode prog_14_method_173_code 115 = .ok (.ifCond .ne 7, 3) := by decide +kernel
theorem zd_68_118 : decode prog_14_method_173_code 118 = .ok (.aload_n 0, 1) := by decide +kernel
theorem zd_68_119 : decode prog_14_method_173_code 119 = .ok (.invokevirtual 1501, 3) := by decide +kernel
theorem zd_69_0 : decode prog_14_method_176_code 0 = .ok (.sipush 16384, 3) := by decide +kernel
theorem zd_69_3 : decode prog_14_method_176_code 3 = .ok (.aload_n 0, 1) := by decide +kernel
theorem zd_69_4 : decode prog_14_method_176_code 4 = .ok (.getfield 1174, 3) := by decide +kernel
theorem zd_69_7 : decode prog_14_method_176_code 7 = .ok (.imul, 1) := by decide +kernel
theorem zd_69_8 : decode prog_14_method_176_code 8 = .ok (.istore_n 1, 1) := by decide +kernel
theorem zd_69_9 : decode prog_14_method_176_code 9 = .ok (.iconst 0, 1) := by decide +kernel
theorem zd_69_10 : decode prog_14_method_176_code 10 = .ok (.istore_n 2, 1) := by decide +kernel
theorem zd_69_11 : decode prog_14_method_176_code 11 = .ok (.iload_n 2, 1) := by decide +kernel
theorem zd_69_12 : decode prog_14_method_176_code 12 = .ok (.aload_n 0, 1) := by decide +kernel
theorem zd_69_13 : decode prog_14_method_176_code 13 = .ok (.getfield 44, 3) := by decide +kernel
theorem zd_69_16 : decode prog_14_method_176_code 16 = .ok (.aload_n 0, 1) := by decide +kernel
theorem zd_69_17 : decode prog_14_method_176_code 17 = .ok (.getfield 1174, 3) := by decide +kernel
theorem zd_69_20 : decode prog_14_method_176_code 20 = .ok (.iaload, 1) := by decide +kernel
theorem zd_69_21 : decode prog_14_method_176_code 21 = .ok (.if_icmp .ge 48, 3) := by decide +kernel
theorem zd_69_24 : decode prog_14_method_176_code 24 = .ok (.aload_n 0, 1) := by decide +kernel
theorem zd_69_25 : decode prog_14_method_176_code 25 = .ok (.getfield 59, 3) := by decide +kernel
theorem zd_69_28 : decode prog_14_method_176_code 28 = .ok (.bipush 64, 2) := by decide +kernel
theorem zd_69_30 : decode prog_14_method_176_code 30 = .ok (.aload_n 0, 1) := by decide +kernel
theorem zd_69_31 : decode prog_14_method_176_code 31 = .ok (.getfield 1174, 3) := by decide +kernel
theorem zd_69_34 : decode prog_14_method_176_code 34 = .ok (.imul, 1) := by decide +kernel
theorem zd_69_35 : decode prog_14_method_176_code 35 = .ok (.iload_n 2, 1) := by decide +kernel
theorem zd_69_36 : decode prog_14_method_176_code 36 = .ok (.iadd, 1) := by decide +kernel
theorem zd_69_37 : decode prog_14_method_176_code 37 = .ok (.iload_n 1, 1) := by decide +kernel
theorem zd_69_38 : decode prog_14_method_176_code 38 = .ok (.iastore, 1) := by decide +kernel
theorem zd_69_39 : decode prog_14_method_176_code 39 = .ok (.aload_n 0, 1) := by decide +kernel
theorem zd_69_40 : decode prog_14_method_176_code 40 = .ok (.getfield 449, 3) := by decide +kernel
theorem zd_69_43 : decode prog_14_method_176_code 43 = .ok (.iload_n 2, 1) := by decide +kernel
theorem zd_69_44 : decode prog_14_method_176_code 44 = .ok (.iload_n 1, 1) := by decide +kernel
theorem zd_69_45 : decode prog_14_method_176_code 45 = .ok (.iastore, 1) := by decide +kernel
theorem zd_69_46 : decode prog_14_method_176_code 46 = .ok (.iload_n 1, 1) := by decide +kernel
theorem zd_69_47 : decode prog_14_method_176_code 47 = .ok (.aload_n 0, 1) := by decide +kernel
theorem zd_69_48 : decode prog_14_method_176_code 48 = .ok (.getfield 53, 3) := by decide +kernel
theorem zd_69_51 : decode prog_14_method_176_code 51 = .ok (.bipush 64, 2) := by decide +kernel
theorem zd_69_53 : decode prog_14_method_176_code 53 = .ok (.aload_n 0, 1) := by decide +kernel
theorem zd_69_54 : decode prog_14_method_176_code 54 = .ok (.getfield 1174, 3) := by decide +kernel
theorem zd_69_57 : decode prog_14_method_176_code 57 = .ok (.imul, 1) := by decide +kernel
theorem zd_69_58 : decode prog_14_method_176_code 58 = .ok (.iload_n 2, 1) := by decide +kernel
theorem zd_69_59 : decode prog_14_method_176_code 59 = .ok (.iadd, 1) := by decide +kernel
theorem zd_69_60 : decode prog_14_method_176_code 60 = .ok (.iaload, 1) := by decide +kernel
theorem zd_69_61 : decode prog_14_method_176_code 61 = .ok (.iadd, 1) := by decide +kernel
theorem zd_69_62 : decode prog_14_method_176_code 62 = .ok (.istore_n 1, 1) := by decide +kernel
theorem zd_69_63 : decode prog_14_method_176_code 63 = .ok (.iinc 2 1, 3) := by decide +kernel
theorem zd_69_66 : decode prog_14_method_176_code 66 = .ok (.goto (-55), 3) := by decide +kernel
theorem zd_69_69 : decode prog_14_method_176_code 69 = .ok (.iconst 0, 1) := by decide +kernel
theorem zd_69_70 : decode prog_14_method_176_code 70 = .ok (.istore_n 2, 1) := by decide +kernel
theorem zd_69_71 : decode prog_14_method_176_code 71 = .ok (.iload_n 2, 1) := by decide +kernel
theorem zd_69_72 : decode prog_14_method_176_code 72 = .ok (.aload_n 0, 1) := by decide +kernel
theorem zd_69_73 : decode prog_14_method_176_code 73 = .ok (.getfield 1275, 3) := by decide +kernel
theorem zd_69_76 : decode prog_14_method_176_code 76 = .ok (.if_icmp .ge 47, 3) := by decide +kernel
theorem zd_69_79 : decode prog_14_method_176_code 79 = .ok (.aload_n 0, 1) := by decide +kernel
theorem zd_69_80 : decode prog_14_method_176_code 80 = .ok (.getfield 69, 3) := by decide +kernel
theorem zd_69_83 : decode prog_14_method_176_code 83 = .ok (.aload_n 0, 1) := by decide +kernel
theorem zd_69_84 : decode prog_14_method_176_code 84 = .ok (.getfield 449, 3) := by decide +kernel
theorem zd_69_87 : decode prog_14_method_176_code 87 = .ok (.aload_n 0, 1) := by decide +kernel
theorem zd_69_88 : decode prog_14_method_176_code 88 = .ok (.getfield 380, 3) := by decide +kernel
theorem zd_69_91 : decode prog_14_method_176_code 91 = .ok (.iload_n 2, 1) := by decide +kernel
theorem zd_69_92 : decode prog_14_method_176_code 92 = .ok (.iaload, 1) := by decide +kernel
theorem zd_69_93 : decode prog_14_method_176_code 93 = .ok (.iaload, 1) := by decide +kernel
theorem zd_69_94 : decode prog_14_method_176_code 94 = .ok (.aload_n 0, 1) := by decide +kernel
theorem zd_69_95 : decode prog_14_method_176_code 95 = .ok (.getfield 377, 3) := by decide +kernel
theorem zd_69_98 : decode prog_14_method_176_code 98 = .ok (.iload_n 2, 1) := by decide +kernel
theorem zd_69_99 : decode prog_14_method_176_code 99 = .ok (.iaload, 1) := by decide +kernel
theorem zd_69_100 : decode prog_14_method_176_code 100 = .ok (.i2b, 1) := by decide +kernel
theorem zd_69_101 : decode prog_14_method_176_code 101 = .ok (.bastore, 1) := by decide +kernel
theorem zd_69_102 : decode prog_14_method_176_code 102 = .ok (.aload_n 0, 1) := by decide +kernel
theorem zd_69_103 : decode prog_14_method_176_code 103 = .ok (.getfield 449, 3) := by decide +kernel
theorem zd_69_106 : decode prog_14_method_176_code 106 = .ok (.aload_n 0, 1) := by decide +kernel
theorem zd_69_107 : decode prog_14_method_176_code 107 = .ok (.getfield 380, 3) := by decide +kernel
theorem zd_69_110 : decode prog_14_method_176_code 110 = .ok (.iload_n 2, 1) := by decide +kernel
theorem zd_69_111 : decode prog_14_method_176_code 111 = .ok (.iaload, 1) := by decide +kernel
theorem zd_69_112 : decode prog_14_method_176_code 112 = .ok (.dup2, 1) := by decide +kernel
theorem zd_69_113 : decode prog_14_method_176_code 113 = .ok (.iaload, 1) := by decide +kernel
theorem zd_69_114 : decode prog_14_method_176_code 114 = .ok (.iconst 1, 1) := by decide +kernel
theorem zd_69_115 : decode prog_14_method_176_code 115 = .ok (.iadd, 1) := by decide +kernel
theorem zd_69_116 : decode prog_14_method_176_code 116 = .ok (.iastore, 1) := by decide +kernel
theorem zd_69_117 : decode prog_14_method_176_code 117 = .ok (.iinc 2 1, 3) := by decide +kernel
theorem zd_69_120 : decode prog_14_method_176_code 120 = .ok (.goto (-49), 3) := by decide +kernel
theorem zd_70_0 : decode prog_14_method_178_code 0 = .ok (.iconst 0, 1) := by decide +kernel
theorem zd_70_1 : decode prog_14_method_178_code 1 = .ok (.istore_n 1, 1) := by decide +kernel
theorem zd_70_2 : decode prog_14_method_178_code 2 = .ok (.iload_n 1, 1) := by decide +kernel
theorem zd_70_3 : decode prog_14_method_178_code 3 = .ok (.aload_n 0, 1) := by decide +kernel
theorem zd_70_4 : decode prog_14_method_178_code 4 = .ok (.getfield 1281, 3) := by decide +kernel
theorem zd_70_7 : decode prog_14_method_178_code 7 = .ok (.if_icmp .ge 21, 3) := by decide +kernel
theorem zd_70_10 : decode prog_14_method_178_code 10 = .ok (.aload_n 0, 1) := by decide +kernel
theorem zd_70_11 : decode prog_14_method_178_code 11 = .ok (.getfield 1183, 3) := by decide +kernel
theorem zd_70_14 : decode prog_14_method_178_code 14 = .ok (.ifCond .ne 14, 3) := by decide +kernel
theorem zd_70_17 : decode prog_14_method_178_code 17 = .ok (.aload_n 0, 1) := by decide +kernel
theorem zd_70_18 : decode prog_14_method_178_code 18 = .ok (.iload_n 1, 1) := by decide +kernel
theorem zd_70_19 : decode prog_14_method_178_code 19 = .ok (.invokevirtual 1519, 3) := by decide +kernel
theorem zd_70_22 : decode prog_14_method_178_code 22 = .ok (.iinc 1 1, 3) := by decide +kernel
theorem zd_70_25 : decode prog_14_method_178_code 25 = .ok (.goto (-23), 3) := by decide +kernel
theorem zd_70_28 : decode prog_14_method_178_code 28 = .ok (.iconst 0, 1) := by decide +kernel
theorem zd_70_29 : decode prog_14_method_178_code 29 = .ok (.istore_n 1, 1) := by decide +kernel
theorem zd_70_30 : decode prog_14_method_178_code 30 = .ok (.iload_n 1, 1) := by decide +kernel
theorem zd_70_31 : decode prog_14_method_178_code 31 = .ok (.aload_n 0, 1) := by decide +kernel
theorem zd_70_32 : decode prog_14_method_178_code 32 = .ok (.getfield 72, 3) := by decide +kernel
theorem zd_70_35 : decode prog_14_method_178_code 35 = .ok (.aload_n 0, 1) := by decide +kernel
theorem zd_70_36 : decode prog_14_method_178_code 36 = .ok (.getfield 1174, 3) := by decide +kernel
theorem zd_70_39 : decode prog_14_method_178_code 39 = .ok (.iaload, 1) := by decide +kernel
theorem zd_70_40 : decode prog_14_method_178_code 40 = .ok (.if_icmp .ge 67, 3) := by decide +kernel
theorem zd_70_43 : decode prog_14_method_178_code 43 = .ok (.sipush 600, 3) := by decide +kernel
theorem zd_70_46 : decode prog_14_method_178_code 46 = .ok (.aload_n 0, 1) := by decide +kernel
theorem zd_70_47 : decode prog_14_method_178_code 47 = .ok (.getfield 1174, 3) := by decide +kernel
theorem zd_70_50 : decode prog_14_method_178_code 50 = .ok (.imul, 1) := by decide +kernel
theorem zd_70_51 : decode prog_14_method_178_code 51 = .ok (.iload_n 1, 1) := by decide +kernel
theorem zd_70_52 : decode prog_14_method_178_code 52 = .ok (.iadd, 1) := by decide +kernel
theorem zd_70_53 : decode prog_14_method_178_code 53 = .ok (.istore_n 2, 1) := by decide +kernel
theorem zd_70_54 : decode prog_14_method_178_code 54 = .ok (.aload_n 0, 1) := by decide +kernel
theorem zd_70_55 : decode prog_14_method_178_code 55 = .ok (.aload_n 0, 1) := by decide +kernel
theorem zd_70_56 : decode prog_14_method_178_code 56 = .ok (.getfield 75, 3) := by decide +kernel
theorem zd_70_59 : decode prog_14_method_178_code 59 = .ok (.iload_n 2, 1) := by decide +kernel
theorem zd_70_60 : decode prog_14_method_178_code 60 = .ok (.iaload, 1) := by decide +kernel
theorem zd_70_61 : decode prog_14_method_178_code 61 = .ok (.invokevirtual 1398, 3) := by decide +kernel
theorem zd_70_64 : decode prog_14_method_178_code 64 = .ok (.istore_n 3, 1) := by decide +kernel
theorem zd_70_65 : decode prog_14_method_178_code 65 = .ok (.aload_n 0, 1) := by decide +kernel
theorem zd_70_66 : decode prog_14_method_178_code 66 = .ok (.getfield 87, 3) := by decide +kernel
theorem zd_70_69 : decode prog_14_method_178_code 69 = .ok (.iload_n 2, 1) := by decide +kernel
theorem zd_70_70 : decode prog_14_method_178_code 70 = .ok (.aload_n 0, 1) := by decide +kernel
theorem zd_70_71 : decode prog_14_method_178_code 71 = .ok (.aload_n 0, 1) := by decide +kernel
theorem zd_70_72 : decode prog_14_method_178_code 72 = .ok (.getfield 75, 3) := by decide +kernel
theorem zd_70_75 : decode prog_14_method_178_code 75 = .ok (.iload_n 2, 1) := by decide +kernel
theorem zd_70_76 : decode prog_14_method_178_code 76 = .ok (.iaload, 1) := by decide +kernel
theorem zd_70_77 : decode prog_14_method_178_code 77 = .ok (.invokevirtual 1395, 3) := by decide +kernel
theorem zd_70_80 : decode prog_14_method_178_code 80 = .ok (.bastore, 1) := by decide +kernel
theorem zd_70_81 : decode prog_14_method_178_code 81 = .ok (.aload_n 0, 1) := by decide +kernel
theorem zd_70_82 : decode prog_14_method_178_code 82 = .ok (.getfield 90, 3) := by decide +kernel
theorem zd_70_85 : decode prog_14_method_178_code 85 = .ok (.iload_n 2, 1) := by decide +kernel
theorem zd_70_86 : decode prog_14_method_178_code 86 = .ok (.iload_n 3, 1) := by decide +kernel
theorem zd_70_87 : decode prog_14_method_178_code 87 = .ok (.ifCond .ge 7, 3) := by decide +kernel
theorem zd_70_90 : decode prog_14_method_178_code 90 = .ok (.iconst 0, 1) := by decide +kernel
theorem zd_70_91 : decode prog_14_method_178_code 91 = .ok (.goto 9, 3) := by decide +kernel
theorem zd_70_100 : decode prog_14_method_178_code 100 = .ok (.iastore, 1) := by decide +kernel
theorem zd_70_101 : decode prog_14_method_178_code 101 = .ok (.iinc 1 1, 3) := by decide +kernel
theorem zd_70_104 : decode prog_14_method_178_code 104 = .ok (.goto (-74), 3) := by decide +kernel
theorem zd_71_0 : decode prog_37_method_11_code 0 = .ok (.iload_n 0, 1) := by decide +kernel
theorem zd_71_1 : decode prog_37_method_11_code 1 = .ok (.ifCond .lt 8, 3) := by decide +kernel
theorem zd_71_4 : decode prog_37_method_11_code 4 = .ok (.iload_n 0, 1) := by decide +kernel
theorem zd_71_5 : decode prog_37_method_11_code 5 = .ok (.iload_n 1, 1) := by decide +kernel
theorem zd_71_6 : decode prog_37_method_11_code 6 = .ok (.if_icmp .lt 10, 3) := by decide +kernel
theorem zd_71_16 : decode prog_37_method_11_code 16 = .ok (.iload_n 0, 1) := by decide +kernel
theorem zd_72_0 : decode prog_5_method_22_code 0 = .ok (.aload_n 0, 1) := by decide +kernel
theorem zd_72_1 : decode prog_5_method_22_code 1 = .ok (.getfield 122, 3) := by decide +kernel
theorem zd_72_4 : decode prog_5_method_22_code 4 = .ok (.aload_n 0, 1) := by decide +kernel
theorem zd_72_5 : decode prog_5_method_22_code 5 = .ok (.getfield 11, 3) := by decide +kernel
theorem zd_72_8 : decode prog_5_method_22_code 8 = .ok (.arraylength, 1) := by decide +kernel
theorem zd_72_9 : decode prog_5_method_22_code 9 = .ok (.if_icmp .ge 13, 3) := by decide +kernel
theorem zd_72_12 : decode prog_5_method_22_code 12 = .ok (.aload_n 0, 1) := by decide +kernel
theorem zd_72_13 : decode prog_5_method_22_code 13 = .ok (.getfield 11, 3) := by decide +kernel
theorem zd_72_16 : decode prog_5_method_22_code 16 = .ok (.aload_n 0, 1) := by decide +kernel
theorem zd_72_17 : decode prog_5_method_22_code 17 = .ok (.getfield 122, 3) := by decide +kernel
theorem zd_72_20 : decode prog_5_method_22_code 20 = .ok (.iload_n 1, 1) := by decide +kernel
theorem zd_72_21 : decode prog_5_method_22_code 21 = .ok (.bastore, 1) := by decide +kernel
theorem zd_72_22 : decode prog_5_method_22_code 22 = .ok (.aload_n 0, 1) := by decide +kernel
theorem zd_72_23 : decode prog_5_method_22_code 23 = .ok (.dup, 1) := by decide +kernel
theorem zd_72_24 : decode prog_5_method_22_code 24 = .ok (.getfield 122, 3) := by decide +kernel
theorem zd_72_27 : decode prog_5_method_22_code 27 = .ok (.iconst 1, 1) := by decide +kernel
theorem zd_72_28 : decode prog_5_method_22_code 28 = .ok (.iadd, 1) := by decide +kernel
theorem zd_72_29 : decode prog_5_method_22_code 29 = .ok (.putfield 122, 3) := by decide +kernel
theorem zd_73_0 : decode prog_24_method_69_code 0 = .ok (.iload_n 0, 1) := by decide +kernel
theorem zd_73_1 : decode prog_24_method_69_code 1 = .ok (.iload_n 1, 1) := by decide +kernel
theorem zd_73_2 : decode prog_24_method_69_code 2 = .ok (.if_icmp .gt 7, 3) := by decide +kernel
theorem zd_73_5 : decode prog_24_method_69_code 5 = .ok (.iload_n 0, 1) := by decide +kernel
theorem zd_73_6 : decode prog_24_method_69_code 6 = .ok (.goto 4, 3) := by decide +kernel
theorem zd_74_0 : decode prog_11_method_3_code 0 = .ok (.aload_n 0, 1) := by decide +kernel
theorem zd_74_1 : decode prog_11_method_3_code 1 = .ok (.getfield 32, 3) := by decide +kernel
theorem zd_74_4 : decode prog_11_method_3_code 4 = .ok (.iload_n 2, 1) := by decide +kernel
theorem zd_74_5 : decode prog_11_method_3_code 5 = .ok (.baload, 1) := by decide +kernel
theorem zd_74_6 : decode prog_11_method_3_code 6 = .ok (.istore_n 3, 1) := by decide +kernel
theorem zd_74_7 : decode prog_11_method_3_code 7 = .ok (.iload_n 3, 1) := by decide +kernel
theorem zd_74_8 : decode prog_11_method_3_code 8 = .ok (.invokestatic 55, 3) := by decide +kernel
theorem zd_74_11 : decode prog_11_method_3_code 11 = .ok (.ifCond .eq 10, 3) := by decide +kernel
theorem zd_74_14 : decode prog_11_method_3_code 14 = .ok (.aload_n 0, 1) := by decide +kernel
theorem zd_74_15 : decode prog_11_method_3_code 15 = .ok (.iload_n 1, 1) := by decide +kernel
theorem zd_74_16 : decode prog_11_method_3_code 16 = .ok (.iload_n 2, 1) := by decide +kernel
theorem zd_74_17 : decode prog_11_method_3_code 17 = .ok (.invokevirtual 59, 3) := by decide +kernel
theorem zd_74_21 : decode prog_11_method_3_code 21 = .ok (.iload_n 3, 1) := by decide +kernel
theorem zd_74_22 : decode prog_11_method_3_code 22 = .ok (.invokestatic 62, 3) := by decide +kernel
theorem zd_74_25 : decode prog_11_method_3_code 25 = .ok (.ifCond .eq 93, 3) := by decide +kernel
theorem zd_74_28 : decode prog_11_method_3_code 28 = .ok (.aload_n 0, 1) := by decide +kernel
theorem zd_74_29 : decode prog_11_method_3_code 29 = .ok (.iload_n 2, 1) := by decide +kernel
theorem zd_74_30 : decode prog_11_method_3_code 30 = .ok (.invokevirtual 65, 3) := by decide +kernel
theorem zd_74_33 : decode prog_11_method_3_code 33 = .ok (.istore 4, 2) := by decide +kernel
theorem zd_74_35 : decode prog_11_method_3_code 35 = .ok (.aload_n 0, 1) := by decide +kernel
theorem zd_74_36 : decode prog_11_method_3_code 36 = .ok (.getfield 9, 3) := by decide +kernel
theorem zd_74_39 : decode prog_11_method_3_code 39 = .ok (.iload_n 1, 1) := by decide +kernel
theorem zd_74_40 : decode prog_11_method_3_code 40 = .ok (.iload 4, 2) := by decide +kernel
theorem zd_74_42 : decode prog_11_method_3_code 42 = .ok (.iload_n 2, 1) := by decide +kernel
theorem zd_74_43 : decode prog_11_method_3_code 43 = .ok (.isub, 1) := by decide +kernel
theorem zd_74_44 : decode prog_11_method_3_code 44 = .ok (.bipush 16, 2) := by decide +kernel
theorem zd_74_46 : decode prog_11_method_3_code 46 = .ok (.if_icmp .le 7, 3) := by decide +kernel
theorem zd_74_53 : decode prog_11_method_3_code 53 = .ok (.iconst 2, 1) := by decide +kernel
theorem zd_74_54 : decode prog_11_method_3_code 54 = .ok (.iastore, 1) := by decide +kernel
theorem zd_74_55 : decode prog_11_method_3_code 55 = .ok (.aload_n 0, 1) := by decide +kernel
theorem zd_74_56 : decode prog_11_method_3_code 56 = .ok (.getfield 21, 3) := by decide +kernel
theorem zd_74_59 : decode prog_11_method_3_code 59 = .ok (.iload_n 1, 1) := by decide +kernel
theorem zd_74_60 : decode prog_11_method_3_code 60 = .ok (.aload_n 0, 1) := by decide +kernel
theorem zd_74_61 : decode prog_11_method_3_code 61 = .ok (.getfield 32, 3) := by decide +kernel
theorem zd_74_64 : decode prog_11_method_3_code 64 = .ok (.iload_n 2, 1) := by decide +kernel
theorem zd_74_65 : decode prog_11_method_3_code 65 = .ok (.iload 4, 2) := by decide +kernel
theorem zd_74_67 : decode prog_11_method_3_code 67 = .ok (.invokestatic 69, 3) := by decide +kernel
theorem zd_74_70 : decode prog_11_method_3_code 70 = .ok (.lastore, 1) := by decide +kernel
theorem zd_74_71 : decode prog_11_method_3_code 71 = .ok (.aload_n 0, 1) := by decide +kernel
theorem zd_74_72 : decode prog_11_method_3_code 72 = .ok (.getfield 25, 3) := by decide +kernel
theorem zd_74_75 : decode prog_11_method_3_code 75 = .ok (.iload_n 1, 1) := by decide +kernel
theorem zd_74_76 : decode prog_11_method_3_code 76 = .ok (.aload_n 0, 1) := by decide +kernel
theorem zd_74_77 : decode prog_11_method_3_code 77 = .ok (.getfield 32, 3) := by decide +kernel
theorem zd_74_80 : decode prog_11_method_3_code 80 = .ok (.iload_n 2, 1) := by decide +kernel
theorem zd_74_81 : decode prog_11_method_3_code 81 = .ok (.bipush 8, 2) := by decide +kernel
theorem zd_74_83 : decode prog_11_method_3_code 83 = .ok (.iadd, 1) := by decide +kernel
theorem zd_74_84 : decode prog_11_method_3_code 84 = .ok (.iload 4, 2) := by decide +kernel
theorem zd_74_86 : decode prog_11_method_3_code 86 = .ok (.invokestatic 69, 3) := by decide +kernel
theorem zd_74_89 : decode prog_11_method_3_code 89 = .ok (.lastore, 1) := by decide +kernel
theorem zd_74_90 : decode prog_11_method_3_code 90 = .ok (.aload_n 0, 1) := by decide +kernel
theorem zd_74_91 : decode prog_11_method_3_code 91 = .ok (.getfield 15, 3) := by decide +kernel
theorem zd_74_94 : decode prog_11_method_3_code 94 = .ok (.iload_n 1, 1) := by decide +kernel
theorem zd_74_95 : decode prog_11_method_3_code 95 = .ok (.aload_n 0, 1) := by decide +kernel
theorem zd_74_96 : decode prog_11_method_3_code 96 = .ok (.getfield 28, 3) := by decide +kernel
theorem zd_74_99 : decode prog_11_method_3_code 99 = .ok (.aload_n 0, 1) := by decide +kernel
theorem zd_74_100 : decode prog_11_method_3_code 100 = .ok (.getfield 21, 3) := by decide +kernel
theorem zd_74_103 : decode prog_11_method_3_code 103 = .ok (.iload_n 1, 1) := by decide +kernel
theorem zd_74_104 : decode prog_11_method_3_code 104 = .ok (.laload, 1) := by decide +kernel
theorem zd_74_105 : decode prog_11_method_3_code 105 = .ok (.aload_n 0, 1) := by decide +kernel
theorem zd_74_106 : decode prog_11_method_3_code 106 = .ok (.getfield 25, 3) := by decide +kernel
theorem zd_74_109 : decode prog_11_method_3_code 109 = .ok (.iload_n 1, 1) := by decide +kernel
theorem zd_74_110 : decode prog_11_method_3_code 110 = .ok (.laload, 1) := by decide +kernel
theorem zd_74_111 : decode prog_11_method_3_code 111 = .ok (.invokevirtual 75, 3) := by decide +kernel
theorem zd_74_114 : decode prog_11_method_3_code 114 = .ok (.iastore, 1) := by decide +kernel
theorem zd_74_115 : decode prog_11_method_3_code 115 = .ok (.iload 4, 2) := by decide +kernel
theorem zd_74_118 : decode prog_11_method_3_code 118 = .ok (.iload_n 3, 1) := by decide +kernel
theorem zd_74_119 : decode prog_11_method_3_code 119 = .ok (.bipush 36, 2) := by decide +kernel
theorem zd_74_121 : decode prog_11_method_3_code 121 = .ok (.if_icmp .ne 10, 3) := by decide +kernel
theorem zd_74_124 : decode prog_11_method_3_code 124 = .ok (.aload_n 0, 1) := by decide +kernel
theorem zd_74_125 : decode prog_11_method_3_code 125 = .ok (.iload_n 1, 1) := by decide +kernel
theorem zd_74_126 : decode prog_11_method_3_code 126 = .ok (.iload_n 2, 1) := by decide +kernel
theorem zd_74_127 : decode prog_11_method_3_code 127 = .ok (.invokevirtual 79, 3) := by decide +kernel
theorem zd_74_131 : decode prog_11_method_3_code 131 = .ok (.iload_n 3, 1) := by decide +kernel
theorem zd_74_132 : decode prog_11_method_3_code 132 = .ok (.bipush 37, 2) := by decide +kernel
theorem zd_74_134 : decode prog_11_method_3_code 134 = .ok (.if_icmp .ne 133, 3) := by decide +kernel
theorem zd_74_267 : decode prog_11_method_3_code 267 = .ok (.aload_n 0, 1) := by decide +kernel
theorem zd_74_268 : decode prog_11_method_3_code 268 = .ok (.getfield 9, 3) := by decide +kernel
theorem zd_74_271 : decode prog_11_method_3_code 271 = .ok (.iload_n 1, 1) := by decide +kernel
theorem zd_74_272 : decode prog_11_method_3_code 272 = .ok (.ldc 82, 2) := by decide +kernel
theorem zd_74_274 : decode prog_11_method_3_code 274 = .ok (.iload_n 3, 1) := by decide +kernel
theorem zd_74_275 : decode prog_11_method_3_code 275 = .ok (.i2c, 1) := by decide +kernel
theorem zd_74_276 : decode prog_11_method_3_code 276 = .ok (.invokevirtual 84, 3) := by decide +kernel
theorem zd_74_279 : decode prog_11_method_3_code 279 = .ok (.ifCond .lt 7, 3) := by decide +kernel
theorem zd_74_282 : decode prog_11_method_3_code 282 = .ok (.iload_n 3, 1) := by decide +kernel
theorem zd_74_283 : decode prog_11_method_3_code 283 = .ok (.goto 4, 3) := by decide +kernel
theorem zd_74_287 : decode prog_11_method_3_code 287 = .ok (.iastore, 1) := by decide +kernel
theorem zd_74_288 : decode prog_11_method_3_code 288 = .ok (.iload_n 2, 1) := by decide +kernel
theorem zd_74_289 : decode prog_11_method_3_code 289 = .ok (.iconst 1, 1) := by decide +kernel
theorem zd_74_290 : decode prog_11_method_3_code 290 = .ok (.iadd, 1) := by decide +kernel
theorem zd_75_0 : decode prog_2_method_20_code 0 = .ok (.iload_n 1, 1) := by decide +kernel
theorem zd_75_1 : decode prog_2_method_20_code 1 = .ok (.ifCond .eq 9, 3) := by decide +kernel
theorem zd_75_10 : decode prog_2_method_20_code 10 = .ok (.ldc 92, 2) := by decide +kernel
theorem zd_75_12 : decode prog_2_method_20_code 12 = .ok (.invokestatic 94, 3) := by decide +kernel
theorem zd_75_15 : decode prog_2_method_20_code 15 = .ok (.lstore_n 2, 1) := by decide +kernel
theorem zd_75_16 : decode prog_2_method_20_code 16 = .ok (.lconst 0, 1) := by decide +kernel
theorem zd_75_17 : decode prog_2_method_20_code 17 = .ok (.lstore 4, 2) := by decide +kernel
theorem zd_75_19 : decode prog_2_method_20_code 19 = .ok (.aload_n 0, 1) := by decide +kernel
theorem zd_75_20 : decode prog_2_method_20_code 20 = .ok (.getfield 52, 3) := by decide +kernel
theorem zd_75_23 : decode prog_2_method_20_code 23 = .ok (.invokevirtual 159, 3) := by decide +kernel
theorem zd_75_26 : decode prog_2_method_20_code 26 = .ok (.iconst 2, 1) := by decide +kernel
theorem zd_75_27 : decode prog_2_method_20_code 27 = .ok (.if_icmp .ne 27, 3) := by decide +kernel
theorem zd_75_30 : decode prog_2_method_20_code 30 = .ok (.aload_n 0, 1) := by decide +kernel
theorem zd_75_31 : decode prog_2_method_20_code 31 = .ok (.getfield 52, 3) := by decide +kernel
theorem zd_75_34 : decode prog_2_method_20_code 34 = .ok (.invokevirtual 162, 3) := by decide +kernel
theorem zd_75_37 : decode prog_2_method_20_code 37 = .ok (.lstore_n 2, 1) := by decide +kernel
theorem zd_75_38 : decode prog_2_method_20_code 38 = .ok (.aload_n 0, 1) := by decide +kernel
theorem zd_75_39 : decode prog_2_method_20_code 39 = .ok (.getfield 52, 3) := by decide +kernel
theorem zd_75_42 : decode prog_2_method_20_code 42 = .ok (.invokevirtual 166, 3) := by decide +kernel
theorem zd_75_45 : decode prog_2_method_20_code 45 = .ok (.lstore 4, 2) := by decide +kernel
theorem zd_75_47 : decode prog_2_method_20_code 47 = .ok (.aload_n 0, 1) := by decide +kernel
theorem zd_75_48 : decode prog_2_method_20_code 48 = .ok (.getfield 52, 3) := by decide +kernel
theorem zd_75_51 : decode prog_2_method_20_code 51 = .ok (.invokevirtual 156, 3) := by decide +kernel
theorem zd_75_54 : decode prog_2_method_20_code 54 = .ok (.aload_n 0, 1) := by decide +kernel
theorem zd_75_55 : decode prog_2_method_20_code 55 = .ok (.getfield 52, 3) := by decide +kernel
theorem zd_75_58 : decode prog_2_method_20_code 58 = .ok (.invokevirtual 255, 3) := by decide +kernel
theorem zd_75_61 : decode prog_2_method_20_code 61 = .ok (.aload_n 0, 1) := by decide +kernel
theorem zd_75_62 : decode prog_2_method_20_code 62 = .ok (.getfield 52, 3) := by decide +kernel
theorem zd_75_65 : decode prog_2_method_20_code 65 = .ok (.getfield 147, 3) := by decide +kernel
theorem zd_75_68 : decode prog_2_method_20_code 68 = .ok (.ifCond .ne 11, 3) := by decide +kernel
theorem zd_75_71 : decode prog_2_method_20_code 71 = .ok (.aload_n 0, 1) := by decide +kernel
theorem zd_75_72 : decode prog_2_method_20_code 72 = .ok (.lload_n 2, 1) := by decide +kernel
theorem zd_75_73 : decode prog_2_method_20_code 73 = .ok (.lload 4, 2) := by decide +kernel
theorem zd_75_75 : decode prog_2_method_20_code 75 = .ok (.iload_n 1, 1) := by decide +kernel
theorem zd_75_76 : decode prog_2_method_20_code 76 = .ok (.invokevirtual 98, 3) := by decide +kernel
theorem zd_76_0 : decode prog_2_method_22_code 0 = .ok (.aload_n 0, 1) := by decide +kernel
theorem zd_76_1 : decode prog_2_method_22_code 1 = .ok (.getfield 52, 3) := by decide +kernel
theorem zd_76_4 : decode prog_2_method_22_code 4 = .ok (.invokevirtual 162, 3) := by decide +kernel
theorem zd_76_7 : decode prog_2_method_22_code 7 = .ok (.lstore_n 3, 1) := by decide +kernel
theorem zd_76_8 : decode prog_2_method_22_code 8 = .ok (.aload_n 0, 1) := by decide +kernel
theorem zd_76_9 : decode prog_2_method_22_code 9 = .ok (.getfield 52, 3) := by decide +kernel
theorem zd_76_12 : decode prog_2_method_22_code 12 = .ok (.invokevirtual 166, 3) := by decide +kernel
theorem zd_76_15 : decode prog_2_method_22_code 15 = .ok (.lstore 5, 2) := by decide +kernel
theorem zd_76_17 : decode prog_2_method_22_code 17 = .ok (.aload_n 0, 1) := by decide +kernel
theorem zd_76_18 : decode prog_2_method_22_code 18 = .ok (.getfield 52, 3) := by decide +kernel
theorem zd_76_21 : decode prog_2_method_22_code 21 = .ok (.iconst 2, 1) := by decide +kernel
theorem zd_76_22 : decode prog_2_method_22_code 22 = .ok (.invokevirtual 298, 3) := by decide +kernel
theorem zd_76_25 : decode prog_2_method_22_code 25 = .ok (.iload_n 2, 1) := by decide +kernel
theorem zd_76_26 : decode prog_2_method_22_code 26 = .ok (.ifCond .eq 16, 3) := by decide +kernel
theorem zd_76_42 : decode prog_2_method_22_code 42 = .ok (.iconst 0, 1) := by decide +kernel
theorem zd_76_43 : decode prog_2_method_22_code 43 = .ok (.istore 7, 2) := by decide +kernel
theorem zd_76_45 : decode prog_2_method_22_code 45 = .ok (.aload_n 0, 1) := by decide +kernel
theorem zd_76_46 : decode prog_2_method_22_code 46 = .ok (.getfield 52, 3) := by decide +kernel
theorem zd_76_49 : decode prog_2_method_22_code 49 = .ok (.invokevirtual 255, 3) := by decide +kernel
theorem zd_76_52 : decode prog_2_method_22_code 52 = .ok (.aload_n 0, 1) := by decide +kernel
theorem zd_76_53 : decode prog_2_method_22_code 53 = .ok (.getfield 52, 3) := by decide +kernel
theorem zd_76_56 : decode prog_2_method_22_code 56 = .ok (.getfield 147, 3) := by decide +kernel
theorem zd_76_59 : decode prog_2_method_22_code 59 = .ok (.ifCond .eq 4, 3) := by decide +kernel
theorem zd_76_63 : decode prog_2_method_22_code 63 = .ok (.aload_n 0, 1) := by decide +kernel
theorem zd_76_64 : decode prog_2_method_22_code 64 = .ok (.getfield 36, 3) := by decide +kernel
theorem zd_76_67 : decode prog_2_method_22_code 67 = .ok (.lload_n 3, 1) := by decide +kernel
theorem zd_76_68 : decode prog_2_method_22_code 68 = .ok (.lload 5, 2) := by decide +kernel
theorem zd_76_70 : decode prog_2_method_22_code 70 = .ok (.invokevirtual 216, 3) := by decide +kernel
theorem zd_76_73 : decode prog_2_method_22_code 73 = .ok (.istore 8, 2) := by decide +kernel
theorem zd_76_75 : decode prog_2_method_22_code 75 = .ok (.iload 8, 2) := by decide +kernel
theorem zd_76_77 : decode prog_2_method_22_code 77 = .ok (.ifCond .lt 18, 3) := by decide +kernel
theorem zd_76_95 : decode prog_2_method_22_code 95 = .ok (.aload_n 0, 1) := by decide +kernel
theorem zd_76_96 : decode prog_2_method_22_code 96 = .ok (.getfield 76, 3) := by decide +kernel
theorem zd_76_99 : decode prog_2_method_22_code 99 = .ok (.sipush 600, 3) := by decide +kernel
theorem zd_76_102 : decode prog_2_method_22_code 102 = .ok (.if_icmp .lt 13, 3) := by decide +kernel
theorem zd_76_115 : decode prog_2_method_22_code 115 = .ok (.aload_n 0, 1) := by decide +kernel
theorem zd_76_116 : decode prog_2_method_22_code 116 = .ok (.dup, 1) := by decide +kernel
theorem zd_76_117 : decode prog_2_method_22_code 117 = .ok (.getfield 76, 3) := by decide +kernel
theorem zd_76_120 : decode prog_2_method_22_code 120 = .ok (.iconst 1, 1) := by decide +kernel
theorem zd_76_121 : decode prog_2_method_22_code 121 = .ok (.iadd, 1) := by decide +kernel
theorem zd_76_122 : decode prog_2_method_22_code 122 = .ok (.putfield 76, 3) := by decide +kernel
theorem zd_76_125 : decode prog_2_method_22_code 125 = .ok (.aload_n 0, 1) := by decide +kernel
theorem zd_76_126 : decode prog_2_method_22_code 126 = .ok (.getfield 36, 3) := by decide +kernel
theorem zd_76_129 : decode prog_2_method_22_code 129 = .ok (.lload_n 3, 1) := by decide +kernel
theorem zd_76_130 : decode prog_2_method_22_code 130 = .ok (.lload 5, 2) := by decide +kernel
theorem zd_76_132 : decode prog_2_method_22_code 132 = .ok (.invokevirtual 228, 3) := by decide +kernel
theorem zd_76_135 : decode prog_2_method_22_code 135 = .ok (.istore 8, 2) := by decide +kernel
theorem zd_76_137 : decode prog_2_method_22_code 137 = .ok (.iload 8, 2) := by decide +kernel
theorem zd_76_139 : decode prog_2_method_22_code 139 = .ok (.ifCond .ge 4, 3) := by decide +kernel
theorem zd_76_143 : decode prog_2_method_22_code 143 = .ok (.aload_n 0, 1) := by decide +kernel
theorem zd_76_144 : decode prog_2_method_22_code 144 = .ok (.getfield 36, 3) := by decide +kernel
theorem zd_76_147 : decode prog_2_method_22_code 147 = .ok (.getfield 222, 3) := by decide +kernel
theorem zd_76_150 : decode prog_2_method_22_code 150 = .ok (.iload 8, 2) := by decide +kernel
theorem zd_76_152 : decode prog_2_method_22_code 152 = .ok (.dup2, 1) := by decide +kernel
theorem zd_76_153 : decode prog_2_method_22_code 153 = .ok (.iaload, 1) := by decide +kernel
theorem zd_76_154 : decode prog_2_method_22_code 154 = .ok (.iconst 2, 1) := by decide +kernel
theorem zd_76_155 : decode prog_2_method_22_code 155 = .ok (.iload_n 1, 1) := by decide +kernel
theorem zd_76_156 : decode prog_2_method_22_code 156 = .ok (.ior, 1) := by decide +kernel
theorem zd_76_157 : decode prog_2_method_22_code 157 = .ok (.ior, 1) := by decide +kernel
theorem zd_76_158 : decode prog_2_method_22_code 158 = .ok (.iastore, 1) := by decide +kernel
theorem zd_76_159 : decode prog_2_method_22_code 159 = .ok (.iload_n 2, 1) := by decide +kernel
theorem zd_76_160 : decode prog_2_method_22_code 160 = .ok (.ifCond .eq 32, 3) := by decide +kernel
theorem zd_77_0 : decode prog_2_method_23_code 0 = .ok (.aload_n 0, 1) := by decide +kernel
theorem zd_77_1 : decode prog_2_method_23_code 1 = .ok (.getfield 52, 3) := by decide +kernel
theorem zd_77_4 : decode prog_2_method_23_code 4 = .ok (.invokevirtual 162, 3) := by decide +kernel
theorem zd_77_7 : decode prog_2_method_23_code 7 = .ok (.lstore_n 1, 1) := by decide +kernel
theorem zd_77_8 : decode prog_2_method_23_code 8 = .ok (.aload_n 0, 1) := by decide +kernel
theorem zd_77_9 : decode prog_2_method_23_code 9 = .ok (.getfield 52, 3) := by decide +kernel
theorem zd_77_12 : decode prog_2_method_23_code 12 = .ok (.invokevirtual 166, 3) := by decide +kernel
theorem zd_77_15 : decode prog_2_method_23_code 15 = .ok (.lstore_n 3, 1) := by decide +kernel
theorem zd_77_16 : decode prog_2_method_23_code 16 = .ok (.aload_n 0, 1) := by decide +kernel
theorem zd_77_17 : decode prog_2_method_23_code 17 = .ok (.getfield 52, 3) := by decide +kernel
theorem zd_77_20 : decode prog_2_method_23_code 20 = .ok (.iconst 2, 1) := by decide +kernel
theorem zd_77_21 : decode prog_2_method_23_code 21 = .ok (.invokevirtual 298, 3) := by decide +kernel
theorem zd_77_24 : decode prog_2_method_23_code 24 = .ok (.aload_n 0, 1) := by decide +kernel
theorem zd_77_25 : decode prog_2_method_23_code 25 = .ok (.getfield 52, 3) := by decide +kernel
theorem zd_77_28 : decode prog_2_method_23_code 28 = .ok (.iconst 0, 1) := by decide +kernel
theorem zd_77_29 : decode prog_2_method_23_code 29 = .ok (.bipush 15, 2) := by decide +kernel
theorem zd_77_31 : decode prog_2_method_23_code 31 = .ok (.invokevirtual 281, 3) := by decide +kernel
theorem zd_77_34 : decode prog_2_method_23_code 34 = .ok (.istore 5, 2) := by decide +kernel
theorem zd_77_36 : decode prog_2_method_23_code 36 = .ok (.aload_n 0, 1) := by decide +kernel
theorem zd_77_37 : decode prog_2_method_23_code 37 = .ok (.getfield 52, 3) := by decide +kernel
theorem zd_77_40 : decode prog_2_method_23_code 40 = .ok (.invokevirtual 255, 3) := by decide +kernel
theorem zd_77_43 : decode prog_2_method_23_code 43 = .ok (.aload_n 0, 1) := by decide +kernel
theorem zd_77_44 : decode prog_2_method_23_code 44 = .ok (.getfield 52, 3) := by decide +kernel
theorem zd_77_47 : decode prog_2_method_23_code 47 = .ok (.getfield 147, 3) := by decide +kernel
theorem zd_77_50 : decode prog_2_method_23_code 50 = .ok (.ifCond .ne 33, 3) := by decide +kernel
theorem zd_77_53 : decode prog_2_method_23_code 53 = .ok (.aload_n 0, 1) := by decide +kernel
theorem zd_77_54 : decode prog_2_method_23_code 54 = .ok (.getfield 65, 3) := by decide +kernel
theorem zd_77_57 : decode prog_2_method_23_code 57 = .ok (.lload_n 1, 1) := by decide +kernel
theorem zd_77_58 : decode prog_2_method_23_code 58 = .ok (.lload_n 3, 1) := by decide +kernel
theorem zd_77_59 : decode prog_2_method_23_code 59 = .ok (.iload 5, 2) := by decide +kernel
theorem zd_77_61 : decode prog_2_method_23_code 61 = .ok (.aload_n 0, 1) := by decide +kernel
theorem zd_77_62 : decode prog_2_method_23_code 62 = .ok (.getfield 45, 3) := by decide +kernel
theorem zd_77_65 : decode prog_2_method_23_code 65 = .ok (.getfield 113, 3) := by decide +kernel
theorem zd_77_68 : decode prog_2_method_23_code 68 = .ok (.invokevirtual 401, 3) := by decide +kernel
theorem zd_77_71 : decode prog_2_method_23_code 71 = .ok (.ifCond .ne 12, 3) := by decide +kernel
theorem zd_78_0 : decode prog_12_method_8_code 0 = .ok (.aload_n 0, 1) := by decide +kernel
theorem zd_78_1 : decode prog_12_method_8_code 1 = .ok (.getfield 19, 3) := by decide +kernel
theorem zd_78_4 : decode prog_12_method_8_code 4 = .ok (.iload_n 1, 1) := by decide +kernel
theorem zd_78_5 : decode prog_12_method_8_code 5 = .ok (.bipush 6, 2) := by decide +kernel
theorem zd_78_7 : decode prog_12_method_8_code 7 = .ok (.imul, 1) := by decide +kernel
theorem zd_78_8 : decode prog_12_method_8_code 8 = .ok (.iconst 1, 1) := by decide +kernel
theorem zd_78_9 : decode prog_12_method_8_code 9 = .ok (.iadd, 1) := by decide +kernel
theorem zd_78_10 : decode prog_12_method_8_code 10 = .ok (.iaload, 1) := by decide +kernel
theorem zd_79_0 : decode prog_2_method_6_code 0 = .ok (.aload_n 0, 1) := by decide +kernel
theorem zd_79_1 : decode prog_2_method_6_code 1 = .ok (.getfield 36, 3) := by decide +kernel
theorem zd_79_4 : decode prog_2_method_6_code 4 = .ok (.aload_n 0, 1) := by decide +kernel
theorem zd_79_5 : decode prog_2_method_6_code 5 = .ok (.getfield 52, 3) := by decide +kernel
theorem zd_79_8 : decode prog_2_method_6_code 8 = .ok (.invokevirtual 162, 3) := by decide +kernel
theorem zd_79_11 : decode prog_2_method_6_code 11 = .ok (.aload_n 0, 1) := by decide +kernel
theorem zd_79_12 : decode prog_2_method_6_code 12 = .ok (.getfield 52, 3) := by decide +kernel
theorem zd_79_15 : decode prog_2_method_6_code 15 = .ok (.invokevirtual 166, 3) := by decide +kernel
theorem zd_79_18 : decode prog_2_method_6_code 18 = .ok (.invokevirtual 216, 3) := by decide +kernel
theorem zd_79_21 : decode prog_2_method_6_code 21 = .ok (.istore_n 1, 1) := by decide +kernel
theorem zd_79_22 : decode prog_2_method_6_code 22 = .ok (.iload_n 1, 1) := by decide +kernel
theorem zd_79_23 : decode prog_2_method_6_code 23 = .ok (.ifCond .lt 38, 3) := by decide +kernel
theorem zd_79_26 : decode prog_2_method_6_code 26 = .ok (.aload_n 0, 1) := by decide +kernel
theorem zd_79_27 : decode prog_2_method_6_code 27 = .ok (.getfield 36, 3) := by decide +kernel
theorem zd_79_30 : decode prog_2_method_6_code 30 = .ok (.getfield 219, 3) := by decide +kernel
theorem zd_79_33 : decode prog_2_method_6_code 33 = .ok (.iload_n 1, 1) := by decide +kernel
theorem zd_79_34 : decode prog_2_method_6_code 34 = .ok (.iaload, 1) := by decide +kernel
theorem zd_79_35 : decode prog_2_method_6_code 35 = .ok (.ifCond .ge 17, 3) := by decide +kernel
theorem zd_79_38 : decode prog_2_method_6_code 38 = .ok (.aload_n 0, 1) := by decide +kernel
theorem zd_79_39 : decode prog_2_method_6_code 39 = .ok (.getfield 36, 3) := by decide +kernel
theorem zd_79_42 : decode prog_2_method_6_code 42 = .ok (.getfield 222, 3) := by decide +kernel
theorem zd_79_45 : decode prog_2_method_6_code 45 = .ok (.iload_n 1, 1) := by decide +kernel
theorem zd_79_46 : decode prog_2_method_6_code 46 = .ok (.iaload, 1) := by decide +kernel
theorem zd_79_47 : decode prog_2_method_6_code 47 = .ok (.iconst 1, 1) := by decide +kernel
theorem zd_79_48 : decode prog_2_method_6_code 48 = .ok (.iand, 1) := by decide +kernel
theorem zd_79_49 : decode prog_2_method_6_code 49 = .ok (.ifCond .eq 12, 3) := by decide +kernel
theorem zd_79_61 : decode prog_2_method_6_code 61 = .ok (.aload_n 0, 1) := by decide +kernel
theorem zd_79_62 : decode prog_2_method_6_code 62 = .ok (.getfield 65, 3) := by decide +kernel
theorem zd_79_65 : decode prog_2_method_6_code 65 = .ok (.aload_n 0, 1) := by decide +kernel
theorem zd_79_66 : decode prog_2_method_6_code 66 = .ok (.getfield 52, 3) := by decide +kernel
theorem zd_79_69 : decode prog_2_method_6_code 69 = .ok (.invokevirtual 162, 3) := by decide +kernel
theorem zd_79_72 : decode prog_2_method_6_code 72 = .ok (.aload_n 0, 1) := by decide +kernel
theorem zd_79_73 : decode prog_2_method_6_code 73 = .ok (.getfield 52, 3) := by decide +kernel
theorem zd_79_76 : decode prog_2_method_6_code 76 = .ok (.invokevirtual 166, 3) := by decide +kernel
theorem zd_79_79 : decode prog_2_method_6_code 79 = .ok (.aload_n 0, 1) := by decide +kernel
theorem zd_79_80 : decode prog_2_method_6_code 80 = .ok (.getfield 196, 3) := by decide +kernel
theorem zd_79_83 : decode prog_2_method_6_code 83 = .ok (.aload_n 0, 1) := by decide +kernel
theorem zd_79_84 : decode prog_2_method_6_code 84 = .ok (.getfield 45, 3) := by decide +kernel
theorem zd_79_87 : decode prog_2_method_6_code 87 = .ok (.getfield 113, 3) := by decide +kernel
theorem zd_79_90 : decode prog_2_method_6_code 90 = .ok (.invokevirtual 225, 3) := by decide +kernel
theorem zd_79_93 : decode prog_2_method_6_code 93 = .ok (.ifCond .ne 13, 3) := by decide +kernel
theorem zd_79_106 : decode prog_2_method_6_code 106 = .ok (.aload_n 0, 1) := by decide +kernel
theorem zd_79_107 : decode prog_2_method_6_code 107 = .ok (.getfield 36, 3) := by decide +kernel
theorem zd_79_110 : decode prog_2_method_6_code 110 = .ok (.aload_n 0, 1) := by decide +kernel
theorem zd_79_111 : decode prog_2_method_6_code 111 = .ok (.getfield 52, 3) := by decide +kernel
theorem zd_79_114 : decode prog_2_method_6_code 114 = .ok (.invokevirtual 162, 3) := by decide +kernel
theorem zd_79_117 : decode prog_2_method_6_code 117 = .ok (.aload_n 0, 1) := by decide +kernel
theorem zd_79_118 : decode prog_2_method_6_code 118 = .ok (.getfield 52, 3) := by decide +kernel
theorem zd_79_121 : decode prog_2_method_6_code 121 = .ok (.invokevirtual 166, 3) := by decide +kernel
theorem zd_79_124 : decode prog_2_method_6_code 124 = .ok (.invokevirtual 228, 3) := by decide +kernel
theorem zd_79_127 : decode prog_2_method_6_code 127 = .ok (.istore_n 1, 1) := by decide +kernel
theorem zd_79_128 : decode prog_2_method_6_code 128 = .ok (.iload_n 1, 1) := by decide +kernel
theorem zd_79_129 : decode prog_2_method_6_code 129 = .ok (.ifCond .lt 21, 3) := by decide +kernel
theorem zd_79_132 : decode prog_2_method_6_code 132 = .ok (.aload_n 0, 1) := by decide +kernel
theorem zd_79_133 : decode prog_2_method_6_code 133 = .ok (.getfield 36, 3) := by decide +kernel
theorem zd_79_136 : decode prog_2_method_6_code 136 = .ok (.getfield 219, 3) := by decide +kernel
theorem zd_79_139 : decode prog_2_method_6_code 139 = .ok (.iload_n 1, 1) := by decide +kernel
theorem zd_79_140 : decode prog_2_method_6_code 140 = .ok (.aload_n 0, 1) := by decide +kernel
theorem zd_79_141 : decode prog_2_method_6_code 141 = .ok (.getfield 65, 3) := by decide +kernel
theorem zd_79_144 : decode prog_2_method_6_code 144 = .ok (.getfield 231, 3) := by decide +kernel
theorem zd_79_147 : decode prog_2_method_6_code 147 = .ok (.iconst 1, 1) := by decide +kernel
theorem zd_79_148 : decode prog_2_method_6_code 148 = .ok (.isub, 1) := by decide +kernel
theorem zd_79_149 : decode prog_2_method_6_code 149 = .ok (.iastore, 1) := by decide +kernel
theorem zd_80_0 : decode prog_2_method_9_code 0 = .ok (.getstatic 258, 3) := by decide +kernel
theorem zd_80_3 : decode prog_2_method_9_code 3 = .ok (.iload_n 1, 1) := by decide +kernel
theorem zd_80_4 : decode prog_2_method_9_code 4 = .ok (.iaload, 1) := by decide +kernel
theorem zd_80_5 : decode prog_2_method_9_code 5 = .ok (.istore_n 3, 1) := by decide +kernel
theorem zd_80_6 : decode prog_2_method_9_code 6 = .ok (.iload_n 2, 1) := by decide +kernel
theorem zd_80_7 : decode prog_2_method_9_code 7 = .ok (.tableswitch 384 0 14 #[73, 105, 141, 173, 195, 207, 384, 219, 236, 270, 304, 384, 326, 353, 370], 73) := by decide +kernel
theorem zd_80_226 : decode prog_2_method_9_code 226 = .ok (.iload_n 3, 1) := by decide +kernel
theorem zd_80_227 : decode prog_2_method_9_code 227 = .ok (.aload_n 0, 1) := by decide +kernel
theorem zd_80_228 : decode prog_2_method_9_code 228 = .ok (.getfield 52, 3) := by decide +kernel
theorem zd_80_231 : decode prog_2_method_9_code 231 = .ok (.iconst 0, 1) := by decide +kernel
theorem zd_80_232 : decode prog_2_method_9_code 232 = .ok (.sipush 1023, 3) := by decide +kernel
theorem zd_80_235 : decode prog_2_method_9_code 235 = .ok (.invokevirtual 284, 3) := by decide +kernel
theorem zd_80_238 : decode prog_2_method_9_code 238 = .ok (.bipush 16, 2) := by decide +kernel
theorem zd_80_240 : decode prog_2_method_9_code 240 = .ok (.ishl, 1) := by decide +kernel
theorem zd_80_241 : decode prog_2_method_9_code 241 = .ok (.ior, 1) := by decide +kernel
theorem zd_80_377 : decode prog_2_method_9_code 377 = .ok (.aload_n 0, 1) := by decide +kernel
theorem zd_80_378 : decode prog_2_method_9_code 378 = .ok (.getfield 52, 3) := by decide +kernel
theorem zd_80_381 : decode prog_2_method_9_code 381 = .ok (.invokevirtual 295, 3) := by decide +kernel
theorem zd_80_384 : decode prog_2_method_9_code 384 = .ok (.aload_n 0, 1) := by decide +kernel
theorem zd_80_385 : decode prog_2_method_9_code 385 = .ok (.iconst 3, 1) := by decide +kernel
theorem zd_80_386 : decode prog_2_method_9_code 386 = .ok (.putfield 240, 3) := by decide +kernel
theorem zd_80_389 : decode prog_2_method_9_code 389 = .ok (.iload_n 3, 1) := by decide +kernel
theorem zd_80_391 : decode prog_2_method_9_code 391 = .ok (.iload_n 3, 1) := by decide +kernel
theorem zd_81_0 : decode prog_11_method_17_code 0 = .ok (.aload_n 0, 1) := by decide +kernel
theorem zd_81_1 : decode prog_11_method_17_code 1 = .ok (.getfield 9, 3) := by decide +kernel
theorem zd_81_4 : decode prog_11_method_17_code 4 = .ok (.aload_n 0, 1) := by decide +kernel
theorem zd_81_5 : decode prog_11_method_17_code 5 = .ok (.getfield 49, 3) := by decide +kernel
theorem zd_81_8 : decode prog_11_method_17_code 8 = .ok (.iaload, 1) := by decide +kernel
theorem zd_81_9 : decode prog_11_method_17_code 9 = .ok (.ifCond .eq 8, 3) := by decide +kernel
theorem zd_82_0 : decode prog_2_method_16_code 0 = .ok (.aload_n 0, 1) := by decide +kernel
theorem zd_82_1 : decode prog_2_method_16_code 1 = .ok (.getfield 65, 3) := by decide +kernel
theorem zd_82_4 : decode prog_2_method_16_code 4 = .ok (.aload_n 0, 1) := by decide +kernel
theorem zd_82_5 : decode prog_2_method_16_code 5 = .ok (.getfield 196, 3) := by decide +kernel
theorem zd_82_8 : decode prog_2_method_16_code 8 = .ok (.invokevirtual 199, 3) := by decide +kernel
theorem zd_82_11 : decode prog_2_method_16_code 11 = .ok (.istore 4, 2) := by decide +kernel
theorem zd_82_13 : decode prog_2_method_16_code 13 = .ok (.iload 4, 2) := by decide +kernel
theorem zd_82_15 : decode prog_2_method_16_code 15 = .ok (.iconst 3, 1) := by decide +kernel
theorem zd_82_16 : decode prog_2_method_16_code 16 = .ok (.iand, 1) := by decide +kernel
theorem zd_82_17 : decode prog_2_method_16_code 17 = .ok (.ifCond .eq 12, 3) := by decide +kernel
theorem zd_82_29 : decode prog_2_method_16_code 29 = .ok (.aload_n 0, 1) := by decide +kernel
theorem zd_82_30 : decode prog_2_method_16_code 30 = .ok (.getfield 72, 3) := by decide +kernel
theorem zd_82_33 : decode prog_2_method_16_code 33 = .ok (.ifCond .eq 14, 3) := by decide +kernel
theorem zd_82_36 : decode prog_2_method_16_code 36 = .ok (.iload_n 1, 1) := by decide +kernel
theorem zd_82_37 : decode prog_2_method_16_code 37 = .ok (.invokestatic 315, 3) := by decide +kernel
theorem zd_82_40 : decode prog_2_method_16_code 40 = .ok (.ifCond .eq 7, 3) := by decide +kernel
theorem zd_82_43 : decode prog_2_method_16_code 43 = .ok (.iconst 1, 1) := by decide +kernel
theorem zd_82_44 : decode prog_2_method_16_code 44 = .ok (.goto 4, 3) := by decide +kernel
theorem zd_82_47 : decode prog_2_method_16_code 47 = .ok (.iconst 0, 1) := by decide +kernel
theorem zd_82_48 : decode prog_2_method_16_code 48 = .ok (.istore 5, 2) := by decide +kernel
theorem zd_82_50 : decode prog_2_method_16_code 50 = .ok (.iload 5, 2) := by decide +kernel
theorem zd_82_52 : decode prog_2_method_16_code 52 = .ok (.ifCond .eq 18, 3) := by decide +kernel
theorem zd_82_55 : decode prog_2_method_16_code 55 = .ok (.aload_n 0, 1) := by decide +kernel
theorem zd_82_56 : decode prog_2_method_16_code 56 = .ok (.iload_n 1, 1) := by decide +kernel
theorem zd_82_57 : decode prog_2_method_16_code 57 = .ok (.iload_n 2, 1) := by decide +kernel
theorem zd_82_58 : decode prog_2_method_16_code 58 = .ok (.iload 4, 2) := by decide +kernel
theorem zd_82_60 : decode prog_2_method_16_code 60 = .ok (.invokevirtual 321, 3) := by decide +kernel
theorem zd_82_63 : decode prog_2_method_16_code 63 = .ok (.ifCond .eq 7, 3) := by decide +kernel
theorem zd_82_70 : decode prog_2_method_16_code 70 = .ok (.iconst 0, 1) := by decide +kernel
theorem zd_82_71 : decode prog_2_method_16_code 71 = .ok (.istore 6, 2) := by decide +kernel
theorem zd_82_73 : decode prog_2_method_16_code 73 = .ok (.iload 6, 2) := by decide +kernel
theorem zd_82_75 : decode prog_2_method_16_code 75 = .ok (.ifCond .eq 10, 3) := by decide +kernel
theorem zd_82_85 : decode prog_2_method_16_code 85 = .ok (.iload 4, 2) := by decide +kernel
theorem zd_82_87 : decode prog_2_method_16_code 87 = .ok (.istore 7, 2) := by decide +kernel
theorem zd_82_89 : decode prog_2_method_16_code 89 = .ok (.iload_n 3, 1) := by decide +kernel
theorem zd_82_90 : decode prog_2_method_16_code 90 = .ok (.iconst (-1), 1) := by decide +kernel
theorem zd_82_91 : decode prog_2_method_16_code 91 = .ok (.if_icmp .ne 7, 3) := by decide +kernel
theorem zd_82_94 : decode prog_2_method_16_code 94 = .ok (.iconst (-1), 1) := by decide +kernel
theorem zd_82_95 : decode prog_2_method_16_code 95 = .ok (.goto 10, 3) := by decide +kernel
theorem zd_82_98 : decode prog_2_method_16_code 98 = .ok (.aload_n 0, 1) := by decide +kernel
theorem zd_82_99 : decode prog_2_method_16_code 99 = .ok (.iload_n 3, 1) := by decide +kernel
theorem zd_82_100 : decode prog_2_method_16_code 100 = .ok (.iload 7, 2) := by decide +kernel
theorem zd_82_102 : decode prog_2_method_16_code 102 = .ok (.invokevirtual 325, 3) := by decide +kernel
theorem zd_82_105 : decode prog_2_method_16_code 105 = .ok (.istore 8, 2) := by decide +kernel
theorem zd_82_107 : decode prog_2_method_16_code 107 = .ok (.aload_n 0, 1) := by decide +kernel
theorem zd_82_108 : decode prog_2_method_16_code 108 = .ok (.getfield 65, 3) := by decide +kernel
theorem zd_82_111 : decode prog_2_method_16_code 111 = .ok (.aload_n 0, 1) := by decide +kernel
theorem zd_82_112 : decode prog_2_method_16_code 112 = .ok (.getfield 196, 3) := by decide +kernel
theorem zd_82_115 : decode prog_2_method_16_code 115 = .ok (.iload 5, 2) := by decide +kernel
theorem zd_82_117 : decode prog_2_method_16_code 117 = .ok (.ifCond .eq 13, 3) := by decide +kernel
theorem zd_82_120 : decode prog_2_method_16_code 120 = .ok (.iload 6, 2) := by decide +kernel
theorem zd_82_122 : decode prog_2_method_16_code 122 = .ok (.ifCond .ne 8, 3) := by decide +kernel
theorem zd_82_125 : decode prog_2_method_16_code 125 = .ok (.bipush 8, 2) := by decide +kernel
theorem zd_82_127 : decode prog_2_method_16_code 127 = .ok (.goto 4, 3) := by decide +kernel
theorem zd_82_130 : decode prog_2_method_16_code 130 = .ok (.iconst 4, 1) := by decide +kernel
theorem zd_82_131 : decode prog_2_method_16_code 131 = .ok (.invokevirtual 328, 3) := by decide +kernel
theorem zd_82_134 : decode prog_2_method_16_code 134 = .ok (.ifCond .ne 13, 3) := by decide +kernel
theorem zd_82_147 : decode prog_2_method_16_code 147 = .ok (.iload 6, 2) := by decide +kernel
theorem zd_82_149 : decode prog_2_method_16_code 149 = .ok (.ifCond .eq 67, 3) := by decide +kernel
theorem zd_82_216 : decode prog_2_method_16_code 216 = .ok (.aload_n 0, 1) := by decide +kernel
theorem zd_82_217 : decode prog_2_method_16_code 217 = .ok (.getfield 65, 3) := by decide +kernel
theorem zd_82_220 : decode prog_2_method_16_code 220 = .ok (.aload_n 0, 1) := by decide +kernel
theorem zd_82_221 : decode prog_2_method_16_code 221 = .ok (.getfield 196, 3) := by decide +kernel
theorem zd_82_224 : decode prog_2_method_16_code 224 = .ok (.iload 7, 2) := by decide +kernel
theorem zd_82_226 : decode prog_2_method_16_code 226 = .ok (.iload_n 2, 1) := by decide +kernel
theorem zd_82_227 : decode prog_2_method_16_code 227 = .ok (.iconst 4, 1) := by decide +kernel
theorem zd_82_228 : decode prog_2_method_16_code 228 = .ok (.invokevirtual 335, 3) := by decide +kernel
theorem zd_82_231 : decode prog_2_method_16_code 231 = .ok (.aload_n 0, 1) := by decide +kernel
theorem zd_82_232 : decode prog_2_method_16_code 232 = .ok (.getfield 72, 3) := by decide +kernel
theorem zd_82_235 : decode prog_2_method_16_code 235 = .ok (.ifCond .eq 24, 3) := by decide +kernel
theorem zd_82_238 : decode prog_2_method_16_code 238 = .ok (.iload 5, 2) := by decide +kernel
theorem zd_82_240 : decode prog_2_method_16_code 240 = .ok (.ifCond .ne 19, 3) := by decide +kernel
theorem zd_82_243 : decode prog_2_method_16_code 243 = .ok (.iload_n 1, 1) := by decide +kernel
theorem zd_82_244 : decode prog_2_method_16_code 244 = .ok (.bipush 8, 2) := by decide +kernel
theorem zd_82_246 : decode prog_2_method_16_code 246 = .ok (.if_icmp .eq 13, 3) := by decide +kernel
theorem zd_82_249 : decode prog_2_method_16_code 249 = .ok (.iload_n 1, 1) := by decide +kernel
theorem zd_82_250 : decode prog_2_method_16_code 250 = .ok (.bipush 9, 2) := by decide +kernel
theorem zd_82_252 : decode prog_2_method_16_code 252 = .ok (.if_icmp .eq 7, 3) := by decide +kernel
theorem zd_82_255 : decode prog_2_method_16_code 255 = .ok (.iconst 1, 1) := by decide +kernel
theorem zd_82_256 : decode prog_2_method_16_code 256 = .ok (.goto 4, 3) := by decide +kernel
theorem zd_82_259 : decode prog_2_method_16_code 259 = .ok (.iconst 0, 1) := by decide +kernel
theorem zd_82_260 : decode prog_2_method_16_code 260 = .ok (.istore 9, 2) := by decide +kernel
theorem zd_82_262 : decode prog_2_method_16_code 262 = .ok (.aload_n 0, 1) := by decide +kernel
theorem zd_82_263 : decode prog_2_method_16_code 263 = .ok (.getfield 24, 3) := by decide +kernel
theorem zd_82_266 : decode prog_2_method_16_code 266 = .ok (.aload_n 0, 1) := by decide +kernel
theorem zd_82_267 : decode prog_2_method_16_code 267 = .ok (.getfield 196, 3) := by decide +kernel
theorem zd_82_270 : decode prog_2_method_16_code 270 = .ok (.iload 9, 2) := by decide +kernel
theorem zd_82_272 : decode prog_2_method_16_code 272 = .ok (.ifCond .eq 8, 3) := by decide +kernel
theorem zd_82_275 : decode prog_2_method_16_code 275 = .ok (.iload 4, 2) := by decide +kernel
theorem zd_82_277 : decode prog_2_method_16_code 277 = .ok (.goto 4, 3) := by decide +kernel
theorem zd_82_280 : decode prog_2_method_16_code 280 = .ok (.iconst (-1), 1) := by decide +kernel
theorem zd_82_281 : decode prog_2_method_16_code 281 = .ok (.iastore, 1) := by decide +kernel
theorem zd_82_282 : decode prog_2_method_16_code 282 = .ok (.aload_n 0, 1) := by decide +kernel
theorem zd_82_283 : decode prog_2_method_16_code 283 = .ok (.getfield 27, 3) := by decide +kernel
theorem zd_82_286 : decode prog_2_method_16_code 286 = .ok (.aload_n 0, 1) := by decide +kernel
theorem zd_82_287 : decode prog_2_method_16_code 287 = .ok (.getfield 196, 3) := by decide +kernel
theorem zd_82_290 : decode prog_2_method_16_code 290 = .ok (.iload_n 1, 1) := by decide +kernel
theorem zd_82_291 : decode prog_2_method_16_code 291 = .ok (.iastore, 1) := by decide +kernel
theorem zd_82_292 : decode prog_2_method_16_code 292 = .ok (.aload_n 0, 1) := by decide +kernel
theorem zd_82_293 : decode prog_2_method_16_code 293 = .ok (.getfield 30, 3) := by decide +kernel
theorem zd_82_296 : decode prog_2_method_16_code 296 = .ok (.aload_n 0, 1) := by decide +kernel
theorem zd_82_297 : decode prog_2_method_16_code 297 = .ok (.getfield 196, 3) := by decide +kernel
theorem zd_82_300 : decode prog_2_method_16_code 300 = .ok (.iload 8, 2) := by decide +kernel
theorem zd_82_302 : decode prog_2_method_16_code 302 = .ok (.iastore, 1) := by decide +kernel
theorem zd_83_0 : decode prog_2_method_13_code 0 = .ok (.iload_n 1, 1) := by decide +kernel
theorem zd_83_1 : decode prog_2_method_13_code 1 = .ok (.tableswitch 191 51 61 #[59, 61, 61, 81, 101, 127, 142, 151, 151, 166, 166], 59) := by decide +kernel
theorem zd_83_62 : decode prog_2_method_13_code 62 = .ok (.aload_n 0, 1) := by decide +kernel
theorem zd_83_63 : decode prog_2_method_13_code 63 = .ok (.getfield 52, 3) := by decide +kernel
theorem zd_83_66 : decode prog_2_method_13_code 66 = .ok (.bipush 11, 2) := by decide +kernel
theorem zd_83_68 : decode prog_2_method_13_code 68 = .ok (.invokevirtual 275, 3) := by decide +kernel
theorem zd_83_71 : decode prog_2_method_13_code 71 = .ok (.aload_n 0, 1) := by decide +kernel
theorem zd_83_72 : decode prog_2_method_13_code 72 = .ok (.getfield 52, 3) := by decide +kernel
theorem zd_83_75 : decode prog_2_method_13_code 75 = .ok (.bipush 21, 2) := by decide +kernel
theorem zd_83_77 : decode prog_2_method_13_code 77 = .ok (.invokevirtual 278, 3) := by decide +kernel
theorem zd_83_80 : decode prog_2_method_13_code 80 = .ok (.ior, 1) := by decide +kernel
theorem zd_83_102 : decode prog_2_method_13_code 102 = .ok (.aload_n 0, 1) := by decide +kernel
theorem zd_83_103 : decode prog_2_method_13_code 103 = .ok (.getfield 52, 3) := by decide +kernel
theorem zd_83_106 : decode prog_2_method_13_code 106 = .ok (.bipush 16, 2) := by decide +kernel
theorem zd_83_108 : decode prog_2_method_13_code 108 = .ok (.invokevirtual 275, 3) := by decide +kernel
theorem zd_83_111 : decode prog_2_method_13_code 111 = .ok (.istore_n 2, 1) := by decide +kernel
theorem zd_83_112 : decode prog_2_method_13_code 112 = .ok (.aload_n 0, 1) := by decide +kernel
theorem zd_83_113 : decode prog_2_method_13_code 113 = .ok (.getfield 52, 3) := by decide +kernel
theorem zd_83_116 : decode prog_2_method_13_code 116 = .ok (.ldc_w 313, 3) := by decide +kernel
theorem zd_83_119 : decode prog_2_method_13_code 119 = .ok (.ldc_w 314, 3) := by decide +kernel
theorem zd_83_122 : decode prog_2_method_13_code 122 = .ok (.invokevirtual 281, 3) := by decide +kernel
theorem zd_83_125 : decode prog_2_method_13_code 125 = .ok (.pop, 1) := by decide +kernel
theorem zd_83_126 : decode prog_2_method_13_code 126 = .ok (.iload_n 2, 1) := by decide +kernel
theorem zd_84_0 : decode prog_2_method_14_code 0 = .ok (.iload_n 1, 1) := by decide +kernel
theorem zd_84_1 : decode prog_2_method_14_code 1 = .ok (.tableswitch 188 51 59 #[51, 61, 79, 97, 188, 115, 152, 152, 170], 51) := by decide +kernel
theorem zd_84_62 : decode prog_2_method_14_code 62 = .ok (.aload_n 0, 1) := by decide +kernel
theorem zd_84_63 : decode prog_2_method_14_code 63 = .ok (.bipush 18, 2) := by decide +kernel
theorem zd_84_65 : decode prog_2_method_14_code 65 = .ok (.getstatic 258, 3) := by decide +kernel
theorem zd_84_68 : decode prog_2_method_14_code 68 = .ok (.bipush 18, 2) := by decide +kernel
theorem zd_84_70 : decode prog_2_method_14_code 70 = .ok (.iaload, 1) := by decide +kernel
theorem zd_84_71 : decode prog_2_method_14_code 71 = .ok (.iload_n 2, 1) := by decide +kernel
theorem zd_84_72 : decode prog_2_method_14_code 72 = .ok (.ior, 1) := by decide +kernel
theorem zd_84_73 : decode prog_2_method_14_code 73 = .ok (.iconst (-1), 1) := by decide +kernel
theorem zd_84_74 : decode prog_2_method_14_code 74 = .ok (.invokevirtual 262, 3) := by decide +kernel
theorem zd_84_77 : decode prog_2_method_14_code 77 = .ok (.goto 166, 3) := by decide +kernel
theorem zd_85_0 : decode prog_2_method_15_code 0 = .ok (.iload_n 2, 1) := by decide +kernel
theorem zd_85_1 : decode prog_2_method_15_code 1 = .ok (.sipush (-32768), 3) := by decide +kernel
theorem zd_85_4 : decode prog_2_method_15_code 4 = .ok (.if_icmp .lt 34, 3) := by decide +kernel
theorem zd_85_7 : decode prog_2_method_15_code 7 = .ok (.iload_n 2, 1) := by decide +kernel
theorem zd_85_8 : decode prog_2_method_15_code 8 = .ok (.sipush 32767, 3) := by decide +kernel
theorem zd_85_11 : decode prog_2_method_15_code 11 = .ok (.if_icmp .gt 27, 3) := by decide +kernel
theorem zd_85_14 : decode prog_2_method_15_code 14 = .ok (.aload_n 0, 1) := by decide +kernel
theorem zd_85_15 : decode prog_2_method_15_code 15 = .ok (.bipush 36, 2) := by decide +kernel
theorem zd_85_17 : decode prog_2_method_15_code 17 = .ok (.getstatic 258, 3) := by decide +kernel
theorem zd_85_20 : decode prog_2_method_15_code 20 = .ok (.bipush 36, 2) := by decide +kernel
theorem zd_85_22 : decode prog_2_method_15_code 22 = .ok (.iaload, 1) := by decide +kernel
theorem zd_85_23 : decode prog_2_method_15_code 23 = .ok (.iload_n 1, 1) := by decide +kernel
theorem zd_85_24 : decode prog_2_method_15_code 24 = .ok (.ior, 1) := by decide +kernel
theorem zd_85_25 : decode prog_2_method_15_code 25 = .ok (.iload_n 2, 1) := by decide +kernel
theorem zd_85_26 : decode prog_2_method_15_code 26 = .ok (.ldc_w 291, 3) := by decide +kernel
theorem zd_85_29 : decode prog_2_method_15_code 29 = .ok (.iand, 1) := by decide +kernel
theorem zd_85_30 : decode prog_2_method_15_code 30 = .ok (.ior, 1) := by decide +kernel
theorem zd_85_31 : decode prog_2_method_15_code 31 = .ok (.iconst (-1), 1) := by decide +kernel
theorem zd_85_32 : decode prog_2_method_15_code 32 = .ok (.invokevirtual 262, 3) := by decide +kernel
theorem zd_85_35 : decode prog_2_method_15_code 35 = .ok (.goto 87, 3) := by decide +kernel
theorem zd_86_0 : decode prog_14_method_149_code 0 = .ok (.bipush 64, 2) := by decide +kernel
theorem zd_86_2 : decode prog_14_method_149_code 2 = .ok (.aload_n 0, 1) := by decide +kernel
theorem zd_86_3 : decode prog_14_method_149_code 3 = .ok (.getfield 1174, 3) := by decide +kernel
theorem zd_86_6 : decode prog_14_method_149_code 6 = .ok (.imul, 1) := by decide +kernel
theorem zd_86_7 : decode prog_14_method_149_code 7 = .ok (.aload_n 0, 1) := by decide +kernel
theorem zd_86_8 : decode prog_14_method_149_code 8 = .ok (.getfield 44, 3) := by decide +kernel
theorem zd_86_11 : decode prog_14_method_149_code 11 = .ok (.aload_n 0, 1) := by decide +kernel
theorem zd_86_12 : decode prog_14_method_149_code 12 = .ok (.getfield 1174, 3) := by decide +kernel
theorem zd_86_15 : decode prog_14_method_149_code 15 = .ok (.iaload, 1) := by decide +kernel
theorem zd_86_16 : decode prog_14_method_149_code 16 = .ok (.iadd, 1) := by decide +kernel
theorem zd_86_17 : decode prog_14_method_149_code 17 = .ok (.istore_n 3, 1) := by decide +kernel
theorem zd_86_18 : decode prog_14_method_149_code 18 = .ok (.aload_n 0, 1) := by decide +kernel
theorem zd_86_19 : decode prog_14_method_149_code 19 = .ok (.getfield 47, 3) := by decide +kernel
theorem zd_86_22 : decode prog_14_method_149_code 22 = .ok (.iload_n 3, 1) := by decide +kernel
theorem zd_86_23 : decode prog_14_method_149_code 23 = .ok (.iload_n 1, 1) := by decide +kernel
theorem zd_86_24 : decode prog_14_method_149_code 24 = .ok (.iastore, 1) := by decide +kernel
theorem zd_86_25 : decode prog_14_method_149_code 25 = .ok (.aload_n 0, 1) := by decide +kernel
theorem zd_86_26 : decode prog_14_method_149_code 26 = .ok (.getfield 50, 3) := by decide +kernel
theorem zd_86_29 : decode prog_14_method_149_code 29 = .ok (.iload_n 3, 1) := by decide +kernel
theorem zd_86_30 : decode prog_14_method_149_code 30 = .ok (.iload_n 2, 1) := by decide +kernel
theorem zd_86_31 : decode prog_14_method_149_code 31 = .ok (.bastore, 1) := by decide +kernel
theorem zd_86_32 : decode prog_14_method_149_code 32 = .ok (.aload_n 0, 1) := by decide +kernel
theorem zd_86_33 : decode prog_14_method_149_code 33 = .ok (.getfield 53, 3) := by decide +kernel
theorem zd_86_36 : decode prog_14_method_149_code 36 = .ok (.iload_n 3, 1) := by decide +kernel
theorem zd_86_37 : decode prog_14_method_149_code 37 = .ok (.iconst 0, 1) := by decide +kernel
theorem zd_86_38 : decode prog_14_method_149_code 38 = .ok (.iastore, 1) := by decide +kernel
theorem zd_86_39 : decode prog_14_method_149_code 39 = .ok (.aload_n 0, 1) := by decide +kernel
theorem zd_86_40 : decode prog_14_method_149_code 40 = .ok (.getfield 56, 3) := by decide +kernel
theorem zd_86_43 : decode prog_14_method_149_code 43 = .ok (.iload_n 3, 1) := by decide +kernel
theorem zd_86_44 : decode prog_14_method_149_code 44 = .ok (.iconst 4, 1) := by decide +kernel
theorem zd_86_45 : decode prog_14_method_149_code 45 = .ok (.iastore, 1) := by decide +kernel
theorem zd_86_46 : decode prog_14_method_149_code 46 = .ok (.aload_n 0, 1) := by decide +kernel
theorem zd_86_47 : decode prog_14_method_149_code 47 = .ok (.aload_n 0, 1) := by decide +kernel
theorem zd_86_48 : decode prog_14_method_149_code 48 = .ok (.getfield 44, 3) := by decide +kernel
theorem zd_86_51 : decode prog_14_method_149_code 51 = .ok (.aload_n 0, 1) := by decide +kernel
theorem zd_86_52 : decode prog_14_method_149_code 52 = .ok (.getfield 1174, 3) := by decide +kernel
theorem zd_86_55 : decode prog_14_method_149_code 55 = .ok (.iaload, 1) := by decide +kernel
theorem zd_86_56 : decode prog_14_method_149_code 56 = .ok (.putfield 1272, 3) := by decide +kernel
theorem zd_86_59 : decode prog_14_method_149_code 59 = .ok (.aload_n 0, 1) := by decide +kernel
theorem zd_86_60 : decode prog_14_method_149_code 60 = .ok (.getfield 44, 3) := by decide +kernel
theorem zd_86_63 : decode prog_14_method_149_code 63 = .ok (.aload_n 0, 1) := by decide +kernel
theorem zd_86_64 : decode prog_14_method_149_code 64 = .ok (.getfield 1174, 3) := by decide +kernel
theorem zd_86_67 : decode prog_14_method_149_code 67 = .ok (.dup2, 1) := by decide +kernel
theorem zd_86_68 : decode prog_14_method_149_code 68 = .ok (.iaload, 1) := by decide +kernel
theorem zd_86_69 : decode prog_14_method_149_code 69 = .ok (.iconst 1, 1) := by decide +kernel
theorem zd_86_70 : decode prog_14_method_149_code 70 = .ok (.iadd, 1) := by decide +kernel
theorem zd_86_71 : decode prog_14_method_149_code 71 = .ok (.iastore, 1) := by decide +kernel
theorem zd_86_72 : decode prog_14_method_149_code 72 = .ok (.aload_n 0, 1) := by decide +kernel
theorem zd_86_73 : decode prog_14_method_149_code 73 = .ok (.getfield 383, 3) := by decide +kernel
theorem zd_86_76 : decode prog_14_method_149_code 76 = .ok (.aload_n 0, 1) := by decide +kernel
theorem zd_86_77 : decode prog_14_method_149_code 77 = .ok (.getfield 1272, 3) := by decide +kernel
theorem zd_86_80 : decode prog_14_method_149_code 80 = .ok (.iconst (-1), 1) := by decide +kernel
theorem zd_86_81 : decode prog_14_method_149_code 81 = .ok (.iastore, 1) := by decide +kernel
theorem zd_86_82 : decode prog_14_method_149_code 82 = .ok (.aload_n 0, 1) := by decide +kernel
theorem zd_86_83 : decode prog_14_method_149_code 83 = .ok (.getfield 386, 3) := by decide +kernel
theorem zd_86_86 : decode prog_14_method_149_code 86 = .ok (.aload_n 0, 1) := by decide +kernel
theorem zd_86_87 : decode prog_14_method_149_code 87 = .ok (.getfield 1272, 3) := by decide +kernel
theorem zd_86_90 : decode prog_14_method_149_code 90 = .ok (.iconst 0, 1) := by decide +kernel
theorem zd_86_91 : decode prog_14_method_149_code 91 = .ok (.bastore, 1) := by decide +kernel
theorem zd_87_0 : decode prog_14_method_98_code 0 = .ok (.aload_n 0, 1) := by decide +kernel
theorem zd_87_1 : decode prog_14_method_98_code 1 = .ok (.getfield 1171, 3) := by decide +kernel
theorem zd_87_4 : decode prog_14_method_98_code 4 = .ok (.ifCond .eq 21, 3) := by decide +kernel
theorem zd_87_25 : decode prog_14_method_98_code 25 = .ok (.aload_n 0, 1) := by decide +kernel
theorem zd_87_26 : decode prog_14_method_98_code 26 = .ok (.getfield 7, 3) := by decide +kernel
theorem zd_87_29 : decode prog_14_method_98_code 29 = .ok (.iload_n 1, 1) := by decide +kernel
theorem zd_87_30 : decode prog_14_method_98_code 30 = .ok (.iaload, 1) := by decide +kernel
theorem zd_88_0 : decode prog_14_method_164_code 0 = .ok (.aload_n 0, 1) := by decide +kernel
theorem zd_88_1 : decode prog_14_method_164_code 1 = .ok (.dup, 1) := by decide +kernel
theorem zd_88_2 : decode prog_14_method_164_code 2 = .ok (.getfield 1453, 3) := by decide +kernel
theorem zd_88_5 : decode prog_14_method_164_code 5 = .ok (.iconst 1, 1) := by decide +kernel
theorem zd_88_6 : decode prog_14_method_164_code 6 = .ok (.iadd, 1) := by decide +kernel
