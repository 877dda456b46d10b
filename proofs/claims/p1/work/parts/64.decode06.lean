/-! decode rows, by program -/
theorem zd_170_18 : decode prog_15_method_31_code 18 = .ok (.invokestatic 191, 3) := by decide +kernel
theorem zd_170_21 : decode prog_15_method_31_code 21 = .ok (.ifCond .eq 24, 3) := by decide +kernel
theorem zd_170_24 : decode prog_15_method_31_code 24 = .ok (.aload_n 0, 1) := by decide +kernel
theorem zd_170_25 : decode prog_15_method_31_code 25 = .ok (.getfield 15, 3) := by decide +kernel
theorem zd_170_28 : decode prog_15_method_31_code 28 = .ok (.aload_n 0, 1) := by decide +kernel
theorem zd_170_29 : decode prog_15_method_31_code 29 = .ok (.dup, 1) := by decide +kernel
theorem zd_170_30 : decode prog_15_method_31_code 30 = .ok (.getfield 79, 3) := by decide +kernel
theorem zd_170_33 : decode prog_15_method_31_code 33 = .ok (.dup_x1, 1) := by decide +kernel
theorem zd_170_34 : decode prog_15_method_31_code 34 = .ok (.iconst 1, 1) := by decide +kernel
theorem zd_170_35 : decode prog_15_method_31_code 35 = .ok (.iadd, 1) := by decide +kernel
theorem zd_170_36 : decode prog_15_method_31_code 36 = .ok (.putfield 79, 3) := by decide +kernel
theorem zd_170_39 : decode prog_15_method_31_code 39 = .ok (.iload_n 1, 1) := by decide +kernel
theorem zd_170_40 : decode prog_15_method_31_code 40 = .ok (.i2b, 1) := by decide +kernel
theorem zd_170_41 : decode prog_15_method_31_code 41 = .ok (.bastore, 1) := by decide +kernel
theorem zd_170_42 : decode prog_15_method_31_code 42 = .ok (.goto 33, 3) := by decide +kernel
theorem zd_170_75 : decode prog_15_method_31_code 75 = .ok (.aload_n 0, 1) := by decide +kernel
theorem zd_171_0 : decode prog_15_method_6_code 0 = .ok (.aload_n 0, 1) := by decide +kernel
theorem zd_171_1 : decode prog_15_method_6_code 1 = .ok (.getfield 79, 3) := by decide +kernel
theorem zd_172_0 : decode prog_15_method_14_code 0 = .ok (.aload_n 0, 1) := by decide +kernel
theorem zd_172_1 : decode prog_15_method_14_code 1 = .ok (.getfield 22, 3) := by decide +kernel
theorem zd_172_4 : decode prog_15_method_14_code 4 = .ok (.istore_n 2, 1) := by decide +kernel
theorem zd_172_5 : decode prog_15_method_14_code 5 = .ok (.aload_n 0, 1) := by decide +kernel
theorem zd_172_6 : decode prog_15_method_14_code 6 = .ok (.getfield 15, 3) := by decide +kernel
theorem zd_172_9 : decode prog_15_method_14_code 9 = .ok (.astore_n 3, 1) := by decide +kernel
theorem zd_172_10 : decode prog_15_method_14_code 10 = .ok (.aload_n 0, 1) := by decide +kernel
theorem zd_172_11 : decode prog_15_method_14_code 11 = .ok (.getfield 79, 3) := by decide +kernel
theorem zd_172_14 : decode prog_15_method_14_code 14 = .ok (.aload_n 3, 1) := by decide +kernel
theorem zd_172_15 : decode prog_15_method_14_code 15 = .ok (.arraylength, 1) := by decide +kernel
theorem zd_172_16 : decode prog_15_method_14_code 16 = .ok (.iload_n 2, 1) := by decide +kernel
theorem zd_172_17 : decode prog_15_method_14_code 17 = .ok (.ishr, 1) := by decide +kernel
theorem zd_172_18 : decode prog_15_method_14_code 18 = .ok (.invokestatic 138, 3) := by decide +kernel
theorem zd_172_21 : decode prog_15_method_14_code 21 = .ok (.istore 4, 2) := by decide +kernel
theorem zd_172_23 : decode prog_15_method_14_code 23 = .ok (.iload_n 1, 1) := by decide +kernel
theorem zd_172_24 : decode prog_15_method_14_code 24 = .ok (.iload 4, 2) := by decide +kernel
theorem zd_172_26 : decode prog_15_method_14_code 26 = .ok (.invokestatic 144, 3) := by decide +kernel
theorem zd_172_29 : decode prog_15_method_14_code 29 = .ok (.iload_n 2, 1) := by decide +kernel
theorem zd_172_30 : decode prog_15_method_14_code 30 = .ok (.ifCond .ne 12, 3) := by decide +kernel
theorem zd_172_33 : decode prog_15_method_14_code 33 = .ok (.aload_n 3, 1) := by decide +kernel
theorem zd_172_34 : decode prog_15_method_14_code 34 = .ok (.iload_n 1, 1) := by decide +kernel
theorem zd_172_35 : decode prog_15_method_14_code 35 = .ok (.baload, 1) := by decide +kernel
theorem zd_172_36 : decode prog_15_method_14_code 36 = .ok (.sipush 255, 3) := by decide +kernel
theorem zd_172_39 : decode prog_15_method_14_code 39 = .ok (.iand, 1) := by decide +kernel
theorem zd_172_40 : decode prog_15_method_14_code 40 = .ok (.i2c, 1) := by decide +kernel
theorem zd_173_0 : decode prog_15_method_22_code 0 = .ok (.aload_n 1, 1) := by decide +kernel
theorem zd_173_1 : decode prog_15_method_22_code 1 = .ok (.ifnonnull 8, 3) := by decide +kernel
theorem zd_173_9 : decode prog_15_method_22_code 9 = .ok (.aload_n 1, 1) := by decide +kernel
theorem zd_173_10 : decode prog_15_method_22_code 10 = .ok (.invokevirtual 32, 3) := by decide +kernel
theorem zd_173_13 : decode prog_15_method_22_code 13 = .ok (.istore_n 2, 1) := by decide +kernel
theorem zd_173_14 : decode prog_15_method_22_code 14 = .ok (.aload_n 0, 1) := by decide +kernel
theorem zd_173_15 : decode prog_15_method_22_code 15 = .ok (.aload_n 0, 1) := by decide +kernel
theorem zd_173_16 : decode prog_15_method_22_code 16 = .ok (.getfield 79, 3) := by decide +kernel
theorem zd_173_19 : decode prog_15_method_22_code 19 = .ok (.iload_n 2, 1) := by decide +kernel
theorem zd_173_20 : decode prog_15_method_22_code 20 = .ok (.iadd, 1) := by decide +kernel
theorem zd_173_21 : decode prog_15_method_22_code 21 = .ok (.invokevirtual 100, 3) := by decide +kernel
theorem zd_173_24 : decode prog_15_method_22_code 24 = .ok (.aload_n 0, 1) := by decide +kernel
theorem zd_173_25 : decode prog_15_method_22_code 25 = .ok (.aload_n 0, 1) := by decide +kernel
theorem zd_173_26 : decode prog_15_method_22_code 26 = .ok (.getfield 79, 3) := by decide +kernel
theorem zd_173_29 : decode prog_15_method_22_code 29 = .ok (.aload_n 1, 1) := by decide +kernel
theorem zd_173_30 : decode prog_15_method_22_code 30 = .ok (.invokevirtual 208, 3) := by decide +kernel
theorem zd_173_33 : decode prog_15_method_22_code 33 = .ok (.aload_n 0, 1) := by decide +kernel
theorem zd_173_34 : decode prog_15_method_22_code 34 = .ok (.dup, 1) := by decide +kernel
theorem zd_173_35 : decode prog_15_method_22_code 35 = .ok (.getfield 79, 3) := by decide +kernel
theorem zd_173_38 : decode prog_15_method_22_code 38 = .ok (.iload_n 2, 1) := by decide +kernel
theorem zd_173_39 : decode prog_15_method_22_code 39 = .ok (.iadd, 1) := by decide +kernel
theorem zd_173_40 : decode prog_15_method_22_code 40 = .ok (.putfield 79, 3) := by decide +kernel
theorem zd_173_43 : decode prog_15_method_22_code 43 = .ok (.aload_n 0, 1) := by decide +kernel
theorem zd_174_0 : decode prog_15_method_32_code 0 = .ok (.aload_n 0, 1) := by decide +kernel
theorem zd_174_1 : decode prog_15_method_32_code 1 = .ok (.getfield 79, 3) := by decide +kernel
theorem zd_174_4 : decode prog_15_method_32_code 4 = .ok (.istore_n 2, 1) := by decide +kernel
theorem zd_174_5 : decode prog_15_method_32_code 5 = .ok (.iload_n 2, 1) := by decide +kernel
theorem zd_174_6 : decode prog_15_method_32_code 6 = .ok (.iload_n 1, 1) := by decide +kernel
theorem zd_174_7 : decode prog_15_method_32_code 7 = .ok (.invokestatic 245, 3) := by decide +kernel
theorem zd_174_10 : decode prog_15_method_32_code 10 = .ok (.iadd, 1) := by decide +kernel
theorem zd_174_11 : decode prog_15_method_32_code 11 = .ok (.istore_n 3, 1) := by decide +kernel
theorem zd_174_12 : decode prog_15_method_32_code 12 = .ok (.aload_n 0, 1) := by decide +kernel
theorem zd_174_13 : decode prog_15_method_32_code 13 = .ok (.iload_n 3, 1) := by decide +kernel
theorem zd_174_14 : decode prog_15_method_32_code 14 = .ok (.invokevirtual 100, 3) := by decide +kernel
theorem zd_174_17 : decode prog_15_method_32_code 17 = .ok (.aload_n 0, 1) := by decide +kernel
theorem zd_174_18 : decode prog_15_method_32_code 18 = .ok (.invokevirtual 83, 3) := by decide +kernel
theorem zd_174_21 : decode prog_15_method_32_code 21 = .ok (.ifCond .eq 16, 3) := by decide +kernel
theorem zd_174_24 : decode prog_15_method_32_code 24 = .ok (.iload_n 1, 1) := by decide +kernel
theorem zd_174_25 : decode prog_15_method_32_code 25 = .ok (.iload_n 3, 1) := by decide +kernel
theorem zd_174_26 : decode prog_15_method_32_code 26 = .ok (.aload_n 0, 1) := by decide +kernel
theorem zd_174_27 : decode prog_15_method_32_code 27 = .ok (.getfield 15, 3) := by decide +kernel
theorem zd_174_30 : decode prog_15_method_32_code 30 = .ok (.invokestatic 248, 3) := by decide +kernel
theorem zd_174_33 : decode prog_15_method_32_code 33 = .ok (.pop, 1) := by decide +kernel
theorem zd_174_34 : decode prog_15_method_32_code 34 = .ok (.goto 14, 3) := by decide +kernel
theorem zd_174_48 : decode prog_15_method_32_code 48 = .ok (.aload_n 0, 1) := by decide +kernel
theorem zd_174_49 : decode prog_15_method_32_code 49 = .ok (.iload_n 3, 1) := by decide +kernel
theorem zd_174_50 : decode prog_15_method_32_code 50 = .ok (.putfield 79, 3) := by decide +kernel
theorem zd_174_53 : decode prog_15_method_32_code 53 = .ok (.aload_n 0, 1) := by decide +kernel
theorem zd_175_0 : decode prog_37_method_11_code 0 = .ok (.iload_n 0, 1) := by decide +kernel
theorem zd_175_1 : decode prog_37_method_11_code 1 = .ok (.ifCond .lt 8, 3) := by decide +kernel
theorem zd_175_4 : decode prog_37_method_11_code 4 = .ok (.iload_n 0, 1) := by decide +kernel
theorem zd_175_5 : decode prog_37_method_11_code 5 = .ok (.iload_n 1, 1) := by decide +kernel
theorem zd_175_6 : decode prog_37_method_11_code 6 = .ok (.if_icmp .lt 10, 3) := by decide +kernel
theorem zd_175_16 : decode prog_37_method_11_code 16 = .ok (.iload_n 0, 1) := by decide +kernel
theorem zd_176_0 : decode prog_5_method_22_code 0 = .ok (.aload_n 0, 1) := by decide +kernel
theorem zd_176_1 : decode prog_5_method_22_code 1 = .ok (.getfield 122, 3) := by decide +kernel
theorem zd_176_4 : decode prog_5_method_22_code 4 = .ok (.aload_n 0, 1) := by decide +kernel
theorem zd_176_5 : decode prog_5_method_22_code 5 = .ok (.getfield 11, 3) := by decide +kernel
theorem zd_176_8 : decode prog_5_method_22_code 8 = .ok (.arraylength, 1) := by decide +kernel
theorem zd_176_9 : decode prog_5_method_22_code 9 = .ok (.if_icmp .ge 13, 3) := by decide +kernel
theorem zd_176_12 : decode prog_5_method_22_code 12 = .ok (.aload_n 0, 1) := by decide +kernel
theorem zd_176_13 : decode prog_5_method_22_code 13 = .ok (.getfield 11, 3) := by decide +kernel
theorem zd_176_16 : decode prog_5_method_22_code 16 = .ok (.aload_n 0, 1) := by decide +kernel
theorem zd_176_17 : decode prog_5_method_22_code 17 = .ok (.getfield 122, 3) := by decide +kernel
theorem zd_176_20 : decode prog_5_method_22_code 20 = .ok (.iload_n 1, 1) := by decide +kernel
theorem zd_176_21 : decode prog_5_method_22_code 21 = .ok (.bastore, 1) := by decide +kernel
theorem zd_176_22 : decode prog_5_method_22_code 22 = .ok (.aload_n 0, 1) := by decide +kernel
theorem zd_176_23 : decode prog_5_method_22_code 23 = .ok (.dup, 1) := by decide +kernel
theorem zd_176_24 : decode prog_5_method_22_code 24 = .ok (.getfield 122, 3) := by decide +kernel
theorem zd_176_27 : decode prog_5_method_22_code 27 = .ok (.iconst 1, 1) := by decide +kernel
theorem zd_176_28 : decode prog_5_method_22_code 28 = .ok (.iadd, 1) := by decide +kernel
theorem zd_176_29 : decode prog_5_method_22_code 29 = .ok (.putfield 122, 3) := by decide +kernel
theorem zd_177_0 : decode prog_24_method_69_code 0 = .ok (.iload_n 0, 1) := by decide +kernel
theorem zd_177_1 : decode prog_24_method_69_code 1 = .ok (.iload_n 1, 1) := by decide +kernel
theorem zd_177_2 : decode prog_24_method_69_code 2 = .ok (.if_icmp .gt 7, 3) := by decide +kernel
theorem zd_177_5 : decode prog_24_method_69_code 5 = .ok (.iload_n 0, 1) := by decide +kernel
theorem zd_177_6 : decode prog_24_method_69_code 6 = .ok (.goto 4, 3) := by decide +kernel
theorem zd_178_0 : decode prog_11_method_3_code 0 = .ok (.aload_n 0, 1) := by decide +kernel
theorem zd_178_1 : decode prog_11_method_3_code 1 = .ok (.getfield 32, 3) := by decide +kernel
theorem zd_178_4 : decode prog_11_method_3_code 4 = .ok (.iload_n 2, 1) := by decide +kernel
theorem zd_178_5 : decode prog_11_method_3_code 5 = .ok (.baload, 1) := by decide +kernel
theorem zd_178_6 : decode prog_11_method_3_code 6 = .ok (.istore_n 3, 1) := by decide +kernel
theorem zd_178_7 : decode prog_11_method_3_code 7 = .ok (.iload_n 3, 1) := by decide +kernel
theorem zd_178_8 : decode prog_11_method_3_code 8 = .ok (.invokestatic 55, 3) := by decide +kernel
theorem zd_178_11 : decode prog_11_method_3_code 11 = .ok (.ifCond .eq 10, 3) := by decide +kernel
theorem zd_178_14 : decode prog_11_method_3_code 14 = .ok (.aload_n 0, 1) := by decide +kernel
theorem zd_178_15 : decode prog_11_method_3_code 15 = .ok (.iload_n 1, 1) := by decide +kernel
theorem zd_178_16 : decode prog_11_method_3_code 16 = .ok (.iload_n 2, 1) := by decide +kernel
theorem zd_178_17 : decode prog_11_method_3_code 17 = .ok (.invokevirtual 59, 3) := by decide +kernel
theorem zd_178_21 : decode prog_11_method_3_code 21 = .ok (.iload_n 3, 1) := by decide +kernel
theorem zd_178_22 : decode prog_11_method_3_code 22 = .ok (.invokestatic 62, 3) := by decide +kernel
theorem zd_178_25 : decode prog_11_method_3_code 25 = .ok (.ifCond .eq 93, 3) := by decide +kernel
theorem zd_178_28 : decode prog_11_method_3_code 28 = .ok (.aload_n 0, 1) := by decide +kernel
theorem zd_178_29 : decode prog_11_method_3_code 29 = .ok (.iload_n 2, 1) := by decide +kernel
theorem zd_178_30 : decode prog_11_method_3_code 30 = .ok (.invokevirtual 65, 3) := by decide +kernel
theorem zd_178_33 : decode prog_11_method_3_code 33 = .ok (.istore 4, 2) := by decide +kernel
theorem zd_178_35 : decode prog_11_method_3_code 35 = .ok (.aload_n 0, 1) := by decide +kernel
theorem zd_178_36 : decode prog_11_method_3_code 36 = .ok (.getfield 9, 3) := by decide +kernel
theorem zd_178_39 : decode prog_11_method_3_code 39 = .ok (.iload_n 1, 1) := by decide +kernel
theorem zd_178_40 : decode prog_11_method_3_code 40 = .ok (.iload 4, 2) := by decide +kernel
theorem zd_178_42 : decode prog_11_method_3_code 42 = .ok (.iload_n 2, 1) := by decide +kernel
theorem zd_178_43 : decode prog_11_method_3_code 43 = .ok (.isub, 1) := by decide +kernel
theorem zd_178_44 : decode prog_11_method_3_code 44 = .ok (.bipush 16, 2) := by decide +kernel
theorem zd_178_46 : decode prog_11_method_3_code 46 = .ok (.if_icmp .le 7, 3) := by decide +kernel
theorem zd_178_53 : decode prog_11_method_3_code 53 = .ok (.iconst 2, 1) := by decide +kernel
theorem zd_178_54 : decode prog_11_method_3_code 54 = .ok (.iastore, 1) := by decide +kernel
theorem zd_178_55 : decode prog_11_method_3_code 55 = .ok (.aload_n 0, 1) := by decide +kernel
theorem zd_178_56 : decode prog_11_method_3_code 56 = .ok (.getfield 21, 3) := by decide +kernel
theorem zd_178_59 : decode prog_11_method_3_code 59 = .ok (.iload_n 1, 1) := by decide +kernel
theorem zd_178_60 : decode prog_11_method_3_code 60 = .ok (.aload_n 0, 1) := by decide +kernel
theorem zd_178_61 : decode prog_11_method_3_code 61 = .ok (.getfield 32, 3) := by decide +kernel
theorem zd_178_64 : decode prog_11_method_3_code 64 = .ok (.iload_n 2, 1) := by decide +kernel
theorem zd_178_65 : decode prog_11_method_3_code 65 = .ok (.iload 4, 2) := by decide +kernel
theorem zd_178_67 : decode prog_11_method_3_code 67 = .ok (.invokestatic 69, 3) := by decide +kernel
theorem zd_178_70 : decode prog_11_method_3_code 70 = .ok (.lastore, 1) := by decide +kernel
theorem zd_178_71 : decode prog_11_method_3_code 71 = .ok (.aload_n 0, 1) := by decide +kernel
theorem zd_178_72 : decode prog_11_method_3_code 72 = .ok (.getfield 25, 3) := by decide +kernel
theorem zd_178_75 : decode prog_11_method_3_code 75 = .ok (.iload_n 1, 1) := by decide +kernel
theorem zd_178_76 : decode prog_11_method_3_code 76 = .ok (.aload_n 0, 1) := by decide +kernel
theorem zd_178_77 : decode prog_11_method_3_code 77 = .ok (.getfield 32, 3) := by decide +kernel
theorem zd_178_80 : decode prog_11_method_3_code 80 = .ok (.iload_n 2, 1) := by decide +kernel
theorem zd_178_81 : decode prog_11_method_3_code 81 = .ok (.bipush 8, 2) := by decide +kernel
theorem zd_178_83 : decode prog_11_method_3_code 83 = .ok (.iadd, 1) := by decide +kernel
theorem zd_178_84 : decode prog_11_method_3_code 84 = .ok (.iload 4, 2) := by decide +kernel
theorem zd_178_86 : decode prog_11_method_3_code 86 = .ok (.invokestatic 69, 3) := by decide +kernel
theorem zd_178_89 : decode prog_11_method_3_code 89 = .ok (.lastore, 1) := by decide +kernel
theorem zd_178_90 : decode prog_11_method_3_code 90 = .ok (.aload_n 0, 1) := by decide +kernel
theorem zd_178_91 : decode prog_11_method_3_code 91 = .ok (.getfield 15, 3) := by decide +kernel
theorem zd_178_94 : decode prog_11_method_3_code 94 = .ok (.iload_n 1, 1) := by decide +kernel
theorem zd_178_95 : decode prog_11_method_3_code 95 = .ok (.aload_n 0, 1) := by decide +kernel
theorem zd_178_96 : decode prog_11_method_3_code 96 = .ok (.getfield 28, 3) := by decide +kernel
theorem zd_178_99 : decode prog_11_method_3_code 99 = .ok (.aload_n 0, 1) := by decide +kernel
theorem zd_178_100 : decode prog_11_method_3_code 100 = .ok (.getfield 21, 3) := by decide +kernel
theorem zd_178_103 : decode prog_11_method_3_code 103 = .ok (.iload_n 1, 1) := by decide +kernel
theorem zd_178_104 : decode prog_11_method_3_code 104 = .ok (.laload, 1) := by decide +kernel
theorem zd_178_105 : decode prog_11_method_3_code 105 = .ok (.aload_n 0, 1) := by decide +kernel
theorem zd_178_106 : decode prog_11_method_3_code 106 = .ok (.getfield 25, 3) := by decide +kernel
theorem zd_178_109 : decode prog_11_method_3_code 109 = .ok (.iload_n 1, 1) := by decide +kernel
theorem zd_178_110 : decode prog_11_method_3_code 110 = .ok (.laload, 1) := by decide +kernel
theorem zd_178_111 : decode prog_11_method_3_code 111 = .ok (.invokevirtual 75, 3) := by decide +kernel
theorem zd_178_114 : decode prog_11_method_3_code 114 = .ok (.iastore, 1) := by decide +kernel
theorem zd_178_115 : decode prog_11_method_3_code 115 = .ok (.iload 4, 2) := by decide +kernel
theorem zd_178_118 : decode prog_11_method_3_code 118 = .ok (.iload_n 3, 1) := by decide +kernel
theorem zd_178_119 : decode prog_11_method_3_code 119 = .ok (.bipush 36, 2) := by decide +kernel
theorem zd_178_121 : decode prog_11_method_3_code 121 = .ok (.if_icmp .ne 10, 3) := by decide +kernel
theorem zd_178_124 : decode prog_11_method_3_code 124 = .ok (.aload_n 0, 1) := by decide +kernel
theorem zd_178_125 : decode prog_11_method_3_code 125 = .ok (.iload_n 1, 1) := by decide +kernel
theorem zd_178_126 : decode prog_11_method_3_code 126 = .ok (.iload_n 2, 1) := by decide +kernel
theorem zd_178_127 : decode prog_11_method_3_code 127 = .ok (.invokevirtual 79, 3) := by decide +kernel
theorem zd_178_131 : decode prog_11_method_3_code 131 = .ok (.iload_n 3, 1) := by decide +kernel
theorem zd_178_132 : decode prog_11_method_3_code 132 = .ok (.bipush 37, 2) := by decide +kernel
theorem zd_178_134 : decode prog_11_method_3_code 134 = .ok (.if_icmp .ne 133, 3) := by decide +kernel
theorem zd_178_267 : decode prog_11_method_3_code 267 = .ok (.aload_n 0, 1) := by decide +kernel
theorem zd_178_268 : decode prog_11_method_3_code 268 = .ok (.getfield 9, 3) := by decide +kernel
theorem zd_178_271 : decode prog_11_method_3_code 271 = .ok (.iload_n 1, 1) := by decide +kernel
theorem zd_178_272 : decode prog_11_method_3_code 272 = .ok (.ldc 82, 2) := by decide +kernel
theorem zd_178_274 : decode prog_11_method_3_code 274 = .ok (.iload_n 3, 1) := by decide +kernel
theorem zd_178_275 : decode prog_11_method_3_code 275 = .ok (.i2c, 1) := by decide +kernel
theorem zd_178_276 : decode prog_11_method_3_code 276 = .ok (.invokevirtual 84, 3) := by decide +kernel
theorem zd_178_279 : decode prog_11_method_3_code 279 = .ok (.ifCond .lt 7, 3) := by decide +kernel
theorem zd_178_282 : decode prog_11_method_3_code 282 = .ok (.iload_n 3, 1) := by decide +kernel
theorem zd_178_283 : decode prog_11_method_3_code 283 = .ok (.goto 4, 3) := by decide +kernel
theorem zd_178_287 : decode prog_11_method_3_code 287 = .ok (.iastore, 1) := by decide +kernel
theorem zd_178_288 : decode prog_11_method_3_code 288 = .ok (.iload_n 2, 1) := by decide +kernel
theorem zd_178_289 : decode prog_11_method_3_code 289 = .ok (.iconst 1, 1) := by decide +kernel
theorem zd_178_290 : decode prog_11_method_3_code 290 = .ok (.iadd, 1) := by decide +kernel
theorem zd_179_0 : decode prog_2_method_20_code 0 = .ok (.iload_n 1, 1) := by decide +kernel
theorem zd_179_1 : decode prog_2_method_20_code 1 = .ok (.ifCond .eq 9, 3) := by decide +kernel
theorem zd_179_10 : decode prog_2_method_20_code 10 = .ok (.ldc 92, 2) := by decide +kernel
theorem zd_179_12 : decode prog_2_method_20_code 12 = .ok (.invokestatic 94, 3) := by decide +kernel
theorem zd_179_15 : decode prog_2_method_20_code 15 = .ok (.lstore_n 2, 1) := by decide +kernel
theorem zd_179_16 : decode prog_2_method_20_code 16 = .ok (.lconst 0, 1) := by decide +kernel
theorem zd_179_17 : decode prog_2_method_20_code 17 = .ok (.lstore 4, 2) := by decide +kernel
theorem zd_179_19 : decode prog_2_method_20_code 19 = .ok (.aload_n 0, 1) := by decide +kernel
theorem zd_179_20 : decode prog_2_method_20_code 20 = .ok (.getfield 52, 3) := by decide +kernel
theorem zd_179_23 : decode prog_2_method_20_code 23 = .ok (.invokevirtual 159, 3) := by decide +kernel
theorem zd_179_26 : decode prog_2_method_20_code 26 = .ok (.iconst 2, 1) := by decide +kernel
theorem zd_179_27 : decode prog_2_method_20_code 27 = .ok (.if_icmp .ne 27, 3) := by decide +kernel
theorem zd_179_30 : decode prog_2_method_20_code 30 = .ok (.aload_n 0, 1) := by decide +kernel
theorem zd_179_31 : decode prog_2_method_20_code 31 = .ok (.getfield 52, 3) := by decide +kernel
theorem zd_179_34 : decode prog_2_method_20_code 34 = .ok (.invokevirtual 162, 3) := by decide +kernel
theorem zd_179_37 : decode prog_2_method_20_code 37 = .ok (.lstore_n 2, 1) := by decide +kernel
theorem zd_179_38 : decode prog_2_method_20_code 38 = .ok (.aload_n 0, 1) := by decide +kernel
theorem zd_179_39 : decode prog_2_method_20_code 39 = .ok (.getfield 52, 3) := by decide +kernel
theorem zd_179_42 : decode prog_2_method_20_code 42 = .ok (.invokevirtual 166, 3) := by decide +kernel
theorem zd_179_45 : decode prog_2_method_20_code 45 = .ok (.lstore 4, 2) := by decide +kernel
theorem zd_179_47 : decode prog_2_method_20_code 47 = .ok (.aload_n 0, 1) := by decide +kernel
theorem zd_179_48 : decode prog_2_method_20_code 48 = .ok (.getfield 52, 3) := by decide +kernel
theorem zd_179_51 : decode prog_2_method_20_code 51 = .ok (.invokevirtual 156, 3) := by decide +kernel
theorem zd_179_54 : decode prog_2_method_20_code 54 = .ok (.aload_n 0, 1) := by decide +kernel
theorem zd_179_55 : decode prog_2_method_20_code 55 = .ok (.getfield 52, 3) := by decide +kernel
theorem zd_179_58 : decode prog_2_method_20_code 58 = .ok (.invokevirtual 255, 3) := by decide +kernel
theorem zd_179_61 : decode prog_2_method_20_code 61 = .ok (.aload_n 0, 1) := by decide +kernel
theorem zd_179_62 : decode prog_2_method_20_code 62 = .ok (.getfield 52, 3) := by decide +kernel
theorem zd_179_65 : decode prog_2_method_20_code 65 = .ok (.getfield 147, 3) := by decide +kernel
theorem zd_179_68 : decode prog_2_method_20_code 68 = .ok (.ifCond .ne 11, 3) := by decide +kernel
theorem zd_179_71 : decode prog_2_method_20_code 71 = .ok (.aload_n 0, 1) := by decide +kernel
theorem zd_179_72 : decode prog_2_method_20_code 72 = .ok (.lload_n 2, 1) := by decide +kernel
theorem zd_179_73 : decode prog_2_method_20_code 73 = .ok (.lload 4, 2) := by decide +kernel
theorem zd_179_75 : decode prog_2_method_20_code 75 = .ok (.iload_n 1, 1) := by decide +kernel
theorem zd_179_76 : decode prog_2_method_20_code 76 = .ok (.invokevirtual 98, 3) := by decide +kernel
theorem zd_180_0 : decode prog_2_method_22_code 0 = .ok (.aload_n 0, 1) := by decide +kernel
theorem zd_180_1 : decode prog_2_method_22_code 1 = .ok (.getfield 52, 3) := by decide +kernel
theorem zd_180_4 : decode prog_2_method_22_code 4 = .ok (.invokevirtual 162, 3) := by decide +kernel
theorem zd_180_7 : decode prog_2_method_22_code 7 = .ok (.lstore_n 3, 1) := by decide +kernel
theorem zd_180_8 : decode prog_2_method_22_code 8 = .ok (.aload_n 0, 1) := by decide +kernel
theorem zd_180_9 : decode prog_2_method_22_code 9 = .ok (.getfield 52, 3) := by decide +kernel
theorem zd_180_12 : decode prog_2_method_22_code 12 = .ok (.invokevirtual 166, 3) := by decide +kernel
theorem zd_180_15 : decode prog_2_method_22_code 15 = .ok (.lstore 5, 2) := by decide +kernel
theorem zd_180_17 : decode prog_2_method_22_code 17 = .ok (.aload_n 0, 1) := by decide +kernel
theorem zd_180_18 : decode prog_2_method_22_code 18 = .ok (.getfield 52, 3) := by decide +kernel
theorem zd_180_21 : decode prog_2_method_22_code 21 = .ok (.iconst 2, 1) := by decide +kernel
theorem zd_180_22 : decode prog_2_method_22_code 22 = .ok (.invokevirtual 298, 3) := by decide +kernel
theorem zd_180_25 : decode prog_2_method_22_code 25 = .ok (.iload_n 2, 1) := by decide +kernel
theorem zd_180_26 : decode prog_2_method_22_code 26 = .ok (.ifCond .eq 16, 3) := by decide +kernel
theorem zd_180_42 : decode prog_2_method_22_code 42 = .ok (.iconst 0, 1) := by decide +kernel
theorem zd_180_43 : decode prog_2_method_22_code 43 = .ok (.istore 7, 2) := by decide +kernel
theorem zd_180_45 : decode prog_2_method_22_code 45 = .ok (.aload_n 0, 1) := by decide +kernel
theorem zd_180_46 : decode prog_2_method_22_code 46 = .ok (.getfield 52, 3) := by decide +kernel
theorem zd_180_49 : decode prog_2_method_22_code 49 = .ok (.invokevirtual 255, 3) := by decide +kernel
theorem zd_180_52 : decode prog_2_method_22_code 52 = .ok (.aload_n 0, 1) := by decide +kernel
theorem zd_180_53 : decode prog_2_method_22_code 53 = .ok (.getfield 52, 3) := by decide +kernel
theorem zd_180_56 : decode prog_2_method_22_code 56 = .ok (.getfield 147, 3) := by decide +kernel
theorem zd_180_59 : decode prog_2_method_22_code 59 = .ok (.ifCond .eq 4, 3) := by decide +kernel
theorem zd_180_63 : decode prog_2_method_22_code 63 = .ok (.aload_n 0, 1) := by decide +kernel
theorem zd_180_64 : decode prog_2_method_22_code 64 = .ok (.getfield 36, 3) := by decide +kernel
theorem zd_180_67 : decode prog_2_method_22_code 67 = .ok (.lload_n 3, 1) := by decide +kernel
theorem zd_180_68 : decode prog_2_method_22_code 68 = .ok (.lload 5, 2) := by decide +kernel
theorem zd_180_70 : decode prog_2_method_22_code 70 = .ok (.invokevirtual 216, 3) := by decide +kernel
theorem zd_180_73 : decode prog_2_method_22_code 73 = .ok (.istore 8, 2) := by decide +kernel
theorem zd_180_75 : decode prog_2_method_22_code 75 = .ok (.iload 8, 2) := by decide +kernel
theorem zd_180_77 : decode prog_2_method_22_code 77 = .ok (.ifCond .lt 18, 3) := by decide +kernel
theorem zd_180_95 : decode prog_2_method_22_code 95 = .ok (.aload_n 0, 1) := by decide +kernel
theorem zd_180_96 : decode prog_2_method_22_code 96 = .ok (.getfield 76, 3) := by decide +kernel
theorem zd_180_99 : decode prog_2_method_22_code 99 = .ok (.sipush 600, 3) := by decide +kernel
theorem zd_180_102 : decode prog_2_method_22_code 102 = .ok (.if_icmp .lt 13, 3) := by decide +kernel
theorem zd_180_115 : decode prog_2_method_22_code 115 = .ok (.aload_n 0, 1) := by decide +kernel
theorem zd_180_116 : decode prog_2_method_22_code 116 = .ok (.dup, 1) := by decide +kernel
theorem zd_180_117 : decode prog_2_method_22_code 117 = .ok (.getfield 76, 3) := by decide +kernel
theorem zd_180_120 : decode prog_2_method_22_code 120 = .ok (.iconst 1, 1) := by decide +kernel
theorem zd_180_121 : decode prog_2_method_22_code 121 = .ok (.iadd, 1) := by decide +kernel
theorem zd_180_122 : decode prog_2_method_22_code 122 = .ok (.putfield 76, 3) := by decide +kernel
theorem zd_180_125 : decode prog_2_method_22_code 125 = .ok (.aload_n 0, 1) := by decide +kernel
theorem zd_180_126 : decode prog_2_method_22_code 126 = .ok (.getfield 36, 3) := by decide +kernel
theorem zd_180_129 : decode prog_2_method_22_code 129 = .ok (.lload_n 3, 1) := by decide +kernel
theorem zd_180_130 : decode prog_2_method_22_code 130 = .ok (.lload 5, 2) := by decide +kernel
theorem zd_180_132 : decode prog_2_method_22_code 132 = .ok (.invokevirtual 228, 3) := by decide +kernel
theorem zd_180_135 : decode prog_2_method_22_code 135 = .ok (.istore 8, 2) := by decide +kernel
theorem zd_180_137 : decode prog_2_method_22_code 137 = .ok (.iload 8, 2) := by decide +kernel
theorem zd_180_139 : decode prog_2_method_22_code 139 = .ok (.ifCond .ge 4, 3) := by decide +kernel
theorem zd_180_143 : decode prog_2_method_22_code 143 = .ok (.aload_n 0, 1) := by decide +kernel
theorem zd_180_144 : decode prog_2_method_22_code 144 = .ok (.getfield 36, 3) := by decide +kernel
theorem zd_180_147 : decode prog_2_method_22_code 147 = .ok (.getfield 222, 3) := by decide +kernel
theorem zd_180_150 : decode prog_2_method_22_code 150 = .ok (.iload 8, 2) := by decide +kernel
theorem zd_180_152 : decode prog_2_method_22_code 152 = .ok (.dup2, 1) := by decide +kernel
theorem zd_180_153 : decode prog_2_method_22_code 153 = .ok (.iaload, 1) := by decide +kernel
theorem zd_180_154 : decode prog_2_method_22_code 154 = .ok (.iconst 2, 1) := by decide +kernel
theorem zd_180_155 : decode prog_2_method_22_code 155 = .ok (.iload_n 1, 1) := by decide +kernel
theorem zd_180_156 : decode prog_2_method_22_code 156 = .ok (.ior, 1) := by decide +kernel
theorem zd_180_157 : decode prog_2_method_22_code 157 = .ok (.ior, 1) := by decide +kernel
theorem zd_180_158 : decode prog_2_method_22_code 158 = .ok (.iastore, 1) := by decide +kernel
theorem zd_180_159 : decode prog_2_method_22_code 159 = .ok (.iload_n 2, 1) := by decide +kernel
theorem zd_180_160 : decode prog_2_method_22_code 160 = .ok (.ifCond .eq 32, 3) := by decide +kernel
theorem zd_181_0 : decode prog_2_method_23_code 0 = .ok (.aload_n 0, 1) := by decide +kernel
theorem zd_181_1 : decode prog_2_method_23_code 1 = .ok (.getfield 52, 3) := by decide +kernel
theorem zd_181_4 : decode prog_2_method_23_code 4 = .ok (.invokevirtual 162, 3) := by decide +kernel
theorem zd_181_7 : decode prog_2_method_23_code 7 = .ok (.lstore_n 1, 1) := by decide +kernel
theorem zd_181_8 : decode prog_2_method_23_code 8 = .ok (.aload_n 0, 1) := by decide +kernel
theorem zd_181_9 : decode prog_2_method_23_code 9 = .ok (.getfield 52, 3) := by decide +kernel
theorem zd_181_12 : decode prog_2_method_23_code 12 = .ok (.invokevirtual 166, 3) := by decide +kernel
theorem zd_181_15 : decode prog_2_method_23_code 15 = .ok (.lstore_n 3, 1) := by decide +kernel
theorem zd_181_16 : decode prog_2_method_23_code 16 = .ok (.aload_n 0, 1) := by decide +kernel
theorem zd_181_17 : decode prog_2_method_23_code 17 = .ok (.getfield 52, 3) := by decide +kernel
theorem zd_181_20 : decode prog_2_method_23_code 20 = .ok (.iconst 2, 1) := by decide +kernel
theorem zd_181_21 : decode prog_2_method_23_code 21 = .ok (.invokevirtual 298, 3) := by decide +kernel
theorem zd_181_24 : decode prog_2_method_23_code 24 = .ok (.aload_n 0, 1) := by decide +kernel
theorem zd_181_25 : decode prog_2_method_23_code 25 = .ok (.getfield 52, 3) := by decide +kernel
theorem zd_181_28 : decode prog_2_method_23_code 28 = .ok (.iconst 0, 1) := by decide +kernel
theorem zd_181_29 : decode prog_2_method_23_code 29 = .ok (.bipush 15, 2) := by decide +kernel
theorem zd_181_31 : decode prog_2_method_23_code 31 = .ok (.invokevirtual 281, 3) := by decide +kernel
theorem zd_181_34 : decode prog_2_method_23_code 34 = .ok (.istore 5, 2) := by decide +kernel
theorem zd_181_36 : decode prog_2_method_23_code 36 = .ok (.aload_n 0, 1) := by decide +kernel
theorem zd_181_37 : decode prog_2_method_23_code 37 = .ok (.getfield 52, 3) := by decide +kernel
theorem zd_181_40 : decode prog_2_method_23_code 40 = .ok (.invokevirtual 255, 3) := by decide +kernel
theorem zd_181_43 : decode prog_2_method_23_code 43 = .ok (.aload_n 0, 1) := by decide +kernel
theorem zd_181_44 : decode prog_2_method_23_code 44 = .ok (.getfield 52, 3) := by decide +kernel
theorem zd_181_47 : decode prog_2_method_23_code 47 = .ok (.getfield 147, 3) := by decide +kernel
theorem zd_181_50 : decode prog_2_method_23_code 50 = .ok (.ifCond .ne 33, 3) := by decide +kernel
theorem zd_181_53 : decode prog_2_method_23_code 53 = .ok (.aload_n 0, 1) := by decide +kernel
theorem zd_181_54 : decode prog_2_method_23_code 54 = .ok (.getfield 65, 3) := by decide +kernel
theorem zd_181_57 : decode prog_2_method_23_code 57 = .ok (.lload_n 1, 1) := by decide +kernel
theorem zd_181_58 : decode prog_2_method_23_code 58 = .ok (.lload_n 3, 1) := by decide +kernel
theorem zd_181_59 : decode prog_2_method_23_code 59 = .ok (.iload 5, 2) := by decide +kernel
theorem zd_181_61 : decode prog_2_method_23_code 61 = .ok (.aload_n 0, 1) := by decide +kernel
theorem zd_181_62 : decode prog_2_method_23_code 62 = .ok (.getfield 45, 3) := by decide +kernel
theorem zd_181_65 : decode prog_2_method_23_code 65 = .ok (.getfield 113, 3) := by decide +kernel
theorem zd_181_68 : decode prog_2_method_23_code 68 = .ok (.invokevirtual 401, 3) := by decide +kernel
theorem zd_181_71 : decode prog_2_method_23_code 71 = .ok (.ifCond .ne 12, 3) := by decide +kernel
theorem zd_182_0 : decode prog_12_method_8_code 0 = .ok (.aload_n 0, 1) := by decide +kernel
theorem zd_182_1 : decode prog_12_method_8_code 1 = .ok (.getfield 19, 3) := by decide +kernel
theorem zd_182_4 : decode prog_12_method_8_code 4 = .ok (.iload_n 1, 1) := by decide +kernel
theorem zd_182_5 : decode prog_12_method_8_code 5 = .ok (.bipush 6, 2) := by decide +kernel
theorem zd_182_7 : decode prog_12_method_8_code 7 = .ok (.imul, 1) := by decide +kernel
theorem zd_182_8 : decode prog_12_method_8_code 8 = .ok (.iconst 1, 1) := by decide +kernel
theorem zd_182_9 : decode prog_12_method_8_code 9 = .ok (.iadd, 1) := by decide +kernel
theorem zd_182_10 : decode prog_12_method_8_code 10 = .ok (.iaload, 1) := by decide +kernel
theorem zd_183_0 : decode prog_2_method_6_code 0 = .ok (.aload_n 0, 1) := by decide +kernel
theorem zd_183_1 : decode prog_2_method_6_code 1 = .ok (.getfield 36, 3) := by decide +kernel
theorem zd_183_4 : decode prog_2_method_6_code 4 = .ok (.aload_n 0, 1) := by decide +kernel
theorem zd_183_5 : decode prog_2_method_6_code 5 = .ok (.getfield 52, 3) := by decide +kernel
theorem zd_183_8 : decode prog_2_method_6_code 8 = .ok (.invokevirtual 162, 3) := by decide +kernel
theorem zd_183_11 : decode prog_2_method_6_code 11 = .ok (.aload_n 0, 1) := by decide +kernel
theorem zd_183_12 : decode prog_2_method_6_code 12 = .ok (.getfield 52, 3) := by decide +kernel
theorem zd_183_15 : decode prog_2_method_6_code 15 = .ok (.invokevirtual 166, 3) := by decide +kernel
theorem zd_183_18 : decode prog_2_method_6_code 18 = .ok (.invokevirtual 216, 3) := by decide +kernel
theorem zd_183_21 : decode prog_2_method_6_code 21 = .ok (.istore_n 1, 1) := by decide +kernel
theorem zd_183_22 : decode prog_2_method_6_code 22 = .ok (.iload_n 1, 1) := by decide +kernel
theorem zd_183_23 : decode prog_2_method_6_code 23 = .ok (.ifCond .lt 38, 3) := by decide +kernel
theorem zd_183_26 : decode prog_2_method_6_code 26 = .ok (.aload_n 0, 1) := by decide +kernel
theorem zd_183_27 : decode prog_2_method_6_code 27 = .ok (.getfield 36, 3) := by decide +kernel
theorem zd_183_30 : decode prog_2_method_6_code 30 = .ok (.getfield 219, 3) := by decide +kernel
theorem zd_183_33 : decode prog_2_method_6_code 33 = .ok (.iload_n 1, 1) := by decide +kernel
theorem zd_183_34 : decode prog_2_method_6_code 34 = .ok (.iaload, 1) := by decide +kernel
theorem zd_183_35 : decode prog_2_method_6_code 35 = .ok (.ifCond .ge 17, 3) := by decide +kernel
theorem zd_183_38 : decode prog_2_method_6_code 38 = .ok (.aload_n 0, 1) := by decide +kernel
theorem zd_183_39 : decode prog_2_method_6_code 39 = .ok (.getfield 36, 3) := by decide +kernel
theorem zd_183_42 : decode prog_2_method_6_code 42 = .ok (.getfield 222, 3) := by decide +kernel
theorem zd_183_45 : decode prog_2_method_6_code 45 = .ok (.iload_n 1, 1) := by decide +kernel
theorem zd_183_46 : decode prog_2_method_6_code 46 = .ok (.iaload, 1) := by decide +kernel
theorem zd_183_47 : decode prog_2_method_6_code 47 = .ok (.iconst 1, 1) := by decide +kernel
theorem zd_183_48 : decode prog_2_method_6_code 48 = .ok (.iand, 1) := by decide +kernel
theorem zd_183_49 : decode prog_2_method_6_code 49 = .ok (.ifCond .eq 12, 3) := by decide +kernel
theorem zd_183_61 : decode prog_2_method_6_code 61 = .ok (.aload_n 0, 1) := by decide +kernel
theorem zd_183_62 : decode prog_2_method_6_code 62 = .ok (.getfield 65, 3) := by decide +kernel
theorem zd_183_65 : decode prog_2_method_6_code 65 = .ok (.aload_n 0, 1) := by decide +kernel
theorem zd_183_66 : decode prog_2_method_6_code 66 = .ok (.getfield 52, 3) := by decide +kernel
theorem zd_183_69 : decode prog_2_method_6_code 69 = .ok (.invokevirtual 162, 3) := by decide +kernel
theorem zd_183_72 : decode prog_2_method_6_code 72 = .ok (.aload_n 0, 1) := by decide +kernel
theorem zd_183_73 : decode prog_2_method_6_code 73 = .ok (.getfield 52, 3) := by decide +kernel
theorem zd_183_76 : decode prog_2_method_6_code 76 = .ok (.invokevirtual 166, 3) := by decide +kernel
theorem zd_183_79 : decode prog_2_method_6_code 79 = .ok (.aload_n 0, 1) := by decide +kernel
theorem zd_183_80 : decode prog_2_method_6_code 80 = .ok (.getfield 196, 3) := by decide +kernel
theorem zd_183_83 : decode prog_2_method_6_code 83 = .ok (.aload_n 0, 1) := by decide +kernel
theorem zd_183_84 : decode prog_2_method_6_code 84 = .ok (.getfield 45, 3) := by decide +kernel
theorem zd_183_87 : decode prog_2_method_6_code 87 = .ok (.getfield 113, 3) := by decide +kernel
theorem zd_183_90 : decode prog_2_method_6_code 90 = .ok (.invokevirtual 225, 3) := by decide +kernel
theorem zd_183_93 : decode prog_2_method_6_code 93 = .ok (.ifCond .ne 13, 3) := by decide +kernel
theorem zd_183_106 : decode prog_2_method_6_code 106 = .ok (.aload_n 0, 1) := by decide +kernel
theorem zd_183_107 : decode prog_2_method_6_code 107 = .ok (.getfield 36, 3) := by decide +kernel
theorem zd_183_110 : decode prog_2_method_6_code 110 = .ok (.aload_n 0, 1) := by decide +kernel
theorem zd_183_111 : decode prog_2_method_6_code 111 = .ok (.getfield 52, 3) := by decide +kernel
theorem zd_183_114 : decode prog_2_method_6_code 114 = .ok (.invokevirtual 162, 3) := by decide +kernel
theorem zd_183_117 : decode prog_2_method_6_code 117 = .ok (.aload_n 0, 1) := by decide +kernel
theorem zd_183_118 : decode prog_2_method_6_code 118 = .ok (.getfield 52, 3) := by decide +kernel
theorem zd_183_121 : decode prog_2_method_6_code 121 = .ok (.invokevirtual 166, 3) := by decide +kernel
theorem zd_183_124 : decode prog_2_method_6_code 124 = .ok (.invokevirtual 228, 3) := by decide +kernel
theorem zd_183_127 : decode prog_2_method_6_code 127 = .ok (.istore_n 1, 1) := by decide +kernel
theorem zd_183_128 : decode prog_2_method_6_code 128 = .ok (.iload_n 1, 1) := by decide +kernel
theorem zd_183_129 : decode prog_2_method_6_code 129 = .ok (.ifCond .lt 21, 3) := by decide +kernel
theorem zd_183_132 : decode prog_2_method_6_code 132 = .ok (.aload_n 0, 1) := by decide +kernel
theorem zd_183_133 : decode prog_2_method_6_code 133 = .ok (.getfield 36, 3) := by decide +kernel
theorem zd_183_136 : decode prog_2_method_6_code 136 = .ok (.getfield 219, 3) := by decide +kernel
theorem zd_183_139 : decode prog_2_method_6_code 139 = .ok (.iload_n 1, 1) := by decide +kernel
theorem zd_183_140 : decode prog_2_method_6_code 140 = .ok (.aload_n 0, 1) := by decide +kernel
theorem zd_183_141 : decode prog_2_method_6_code 141 = .ok (.getfield 65, 3) := by decide +kernel
theorem zd_183_144 : decode prog_2_method_6_code 144 = .ok (.getfield 231, 3) := by decide +kernel
theorem zd_183_147 : decode prog_2_method_6_code 147 = .ok (.iconst 1, 1) := by decide +kernel
theorem zd_183_148 : decode prog_2_method_6_code 148 = .ok (.isub, 1) := by decide +kernel
theorem zd_183_149 : decode prog_2_method_6_code 149 = .ok (.iastore, 1) := by decide +kernel
theorem zd_184_0 : decode prog_2_method_9_code 0 = .ok (.getstatic 258, 3) := by decide +kernel
theorem zd_184_3 : decode prog_2_method_9_code 3 = .ok (.iload_n 1, 1) := by decide +kernel
theorem zd_184_4 : decode prog_2_method_9_code 4 = .ok (.iaload, 1) := by decide +kernel
theorem zd_184_5 : decode prog_2_method_9_code 5 = .ok (.istore_n 3, 1) := by decide +kernel
theorem zd_184_6 : decode prog_2_method_9_code 6 = .ok (.iload_n 2, 1) := by decide +kernel
theorem zd_184_7 : decode prog_2_method_9_code 7 = .ok (.tableswitch 384 0 14 #[73, 105, 141, 173, 195, 207, 384, 219, 236, 270, 304, 384, 326, 353, 370], 73) := by decide +kernel
theorem zd_184_226 : decode prog_2_method_9_code 226 = .ok (.iload_n 3, 1) := by decide +kernel
theorem zd_184_227 : decode prog_2_method_9_code 227 = .ok (.aload_n 0, 1) := by decide +kernel
theorem zd_184_228 : decode prog_2_method_9_code 228 = .ok (.getfield 52, 3) := by decide +kernel
theorem zd_184_231 : decode prog_2_method_9_code 231 = .ok (.iconst 0, 1) := by decide +kernel
theorem zd_184_232 : decode prog_2_method_9_code 232 = .ok (.sipush 1023, 3) := by decide +kernel
theorem zd_184_235 : decode prog_2_method_9_code 235 = .ok (.invokevirtual 284, 3) := by decide +kernel
theorem zd_184_238 : decode prog_2_method_9_code 238 = .ok (.bipush 16, 2) := by decide +kernel
theorem zd_184_240 : decode prog_2_method_9_code 240 = .ok (.ishl, 1) := by decide +kernel
theorem zd_184_241 : decode prog_2_method_9_code 241 = .ok (.ior, 1) := by decide +kernel
theorem zd_184_377 : decode prog_2_method_9_code 377 = .ok (.aload_n 0, 1) := by decide +kernel
theorem zd_184_378 : decode prog_2_method_9_code 378 = .ok (.getfield 52, 3) := by decide +kernel
theorem zd_184_381 : decode prog_2_method_9_code 381 = .ok (.invokevirtual 295, 3) := by decide +kernel
theorem zd_184_384 : decode prog_2_method_9_code 384 = .ok (.aload_n 0, 1) := by decide +kernel
theorem zd_184_385 : decode prog_2_method_9_code 385 = .ok (.iconst 3, 1) := by decide +kernel
theorem zd_184_386 : decode prog_2_method_9_code 386 = .ok (.putfield 240, 3) := by decide +kernel
theorem zd_184_389 : decode prog_2_method_9_code 389 = .ok (.iload_n 3, 1) := by decide +kernel
theorem zd_184_391 : decode prog_2_method_9_code 391 = .ok (.iload_n 3, 1) := by decide +kernel
theorem zd_185_0 : decode prog_11_method_17_code 0 = .ok (.aload_n 0, 1) := by decide +kernel
theorem zd_185_1 : decode prog_11_method_17_code 1 = .ok (.getfield 9, 3) := by decide +kernel
theorem zd_185_4 : decode prog_11_method_17_code 4 = .ok (.aload_n 0, 1) := by decide +kernel
theorem zd_185_5 : decode prog_11_method_17_code 5 = .ok (.getfield 49, 3) := by decide +kernel
theorem zd_185_8 : decode prog_11_method_17_code 8 = .ok (.iaload, 1) := by decide +kernel
theorem zd_185_9 : decode prog_11_method_17_code 9 = .ok (.ifCond .eq 8, 3) := by decide +kernel
theorem zd_186_0 : decode prog_2_method_16_code 0 = .ok (.aload_n 0, 1) := by decide +kernel
theorem zd_186_1 : decode prog_2_method_16_code 1 = .ok (.getfield 65, 3) := by decide +kernel
theorem zd_186_4 : decode prog_2_method_16_code 4 = .ok (.aload_n 0, 1) := by decide +kernel
theorem zd_186_5 : decode prog_2_method_16_code 5 = .ok (.getfield 196, 3) := by decide +kernel
theorem zd_186_8 : decode prog_2_method_16_code 8 = .ok (.invokevirtual 199, 3) := by decide +kernel
theorem zd_186_11 : decode prog_2_method_16_code 11 = .ok (.istore 4, 2) := by decide +kernel
theorem zd_186_13 : decode prog_2_method_16_code 13 = .ok (.iload 4, 2) := by decide +kernel
theorem zd_186_15 : decode prog_2_method_16_code 15 = .ok (.iconst 3, 1) := by decide +kernel
theorem zd_186_16 : decode prog_2_method_16_code 16 = .ok (.iand, 1) := by decide +kernel
theorem zd_186_17 : decode prog_2_method_16_code 17 = .ok (.ifCond .eq 12, 3) := by decide +kernel
theorem zd_186_29 : decode prog_2_method_16_code 29 = .ok (.aload_n 0, 1) := by decide +kernel
theorem zd_186_30 : decode prog_2_method_16_code 30 = .ok (.getfield 72, 3) := by decide +kernel
theorem zd_186_33 : decode prog_2_method_16_code 33 = .ok (.ifCond .eq 14, 3) := by decide +kernel
theorem zd_186_36 : decode prog_2_method_16_code 36 = .ok (.iload_n 1, 1) := by decide +kernel
theorem zd_186_37 : decode prog_2_method_16_code 37 = .ok (.invokestatic 315, 3) := by decide +kernel
theorem zd_186_40 : decode prog_2_method_16_code 40 = .ok (.ifCond .eq 7, 3) := by decide +kernel
theorem zd_186_43 : decode prog_2_method_16_code 43 = .ok (.iconst 1, 1) := by decide +kernel
theorem zd_186_44 : decode prog_2_method_16_code 44 = .ok (.goto 4, 3) := by decide +kernel
theorem zd_186_47 : decode prog_2_method_16_code 47 = .ok (.iconst 0, 1) := by decide +kernel
theorem zd_186_48 : decode prog_2_method_16_code 48 = .ok (.istore 5, 2) := by decide +kernel
theorem zd_186_50 : decode prog_2_method_16_code 50 = .ok (.iload 5, 2) := by decide +kernel
theorem zd_186_52 : decode prog_2_method_16_code 52 = .ok (.ifCond .eq 18, 3) := by decide +kernel
theorem zd_186_55 : decode prog_2_method_16_code 55 = .ok (.aload_n 0, 1) := by decide +kernel
theorem zd_186_56 : decode prog_2_method_16_code 56 = .ok (.iload_n 1, 1) := by decide +kernel
theorem zd_186_57 : decode prog_2_method_16_code 57 = .ok (.iload_n 2, 1) := by decide +kernel
theorem zd_186_58 : decode prog_2_method_16_code 58 = .ok (.iload 4, 2) := by decide +kernel
theorem zd_186_60 : decode prog_2_method_16_code 60 = .ok (.invokevirtual 321, 3) := by decide +kernel
theorem zd_186_63 : decode prog_2_method_16_code 63 = .ok (.ifCond .eq 7, 3) := by decide +kernel
theorem zd_186_70 : decode prog_2_method_16_code 70 = .ok (.iconst 0, 1) := by decide +kernel
theorem zd_186_71 : decode prog_2_method_16_code 71 = .ok (.istore 6, 2) := by decide +kernel
theorem zd_186_73 : decode prog_2_method_16_code 73 = .ok (.iload 6, 2) := by decide +kernel
theorem zd_186_75 : decode prog_2_method_16_code 75 = .ok (.ifCond .eq 10, 3) := by decide +kernel
theorem zd_186_85 : decode prog_2_method_16_code 85 = .ok (.iload 4, 2) := by decide +kernel
theorem zd_186_87 : decode prog_2_method_16_code 87 = .ok (.istore 7, 2) := by decide +kernel
theorem zd_186_89 : decode prog_2_method_16_code 89 = .ok (.iload_n 3, 1) := by decide +kernel
theorem zd_186_90 : decode prog_2_method_16_code 90 = .ok (.iconst (-1), 1) := by decide +kernel
theorem zd_186_91 : decode prog_2_method_16_code 91 = .ok (.if_icmp .ne 7, 3) := by decide +kernel
theorem zd_186_94 : decode prog_2_method_16_code 94 = .ok (.iconst (-1), 1) := by decide +kernel
theorem zd_186_95 : decode prog_2_method_16_code 95 = .ok (.goto 10, 3) := by decide +kernel
theorem zd_186_98 : decode prog_2_method_16_code 98 = .ok (.aload_n 0, 1) := by decide +kernel
theorem zd_186_99 : decode prog_2_method_16_code 99 = .ok (.iload_n 3, 1) := by decide +kernel
theorem zd_186_100 : decode prog_2_method_16_code 100 = .ok (.iload 7, 2) := by decide +kernel
theorem zd_186_102 : decode prog_2_method_16_code 102 = .ok (.invokevirtual 325, 3) := by decide +kernel
theorem zd_186_105 : decode prog_2_method_16_code 105 = .ok (.istore 8, 2) := by decide +kernel
theorem zd_186_107 : decode prog_2_method_16_code 107 = .ok (.aload_n 0, 1) := by decide +kernel
theorem zd_186_108 : decode prog_2_method_16_code 108 = .ok (.getfield 65, 3) := by decide +kernel
theorem zd_186_111 : decode prog_2_method_16_code 111 = .ok (.aload_n 0, 1) := by decide +kernel
theorem zd_186_112 : decode prog_2_method_16_code 112 = .ok (.getfield 196, 3) := by decide +kernel
theorem zd_186_115 : decode prog_2_method_16_code 115 = .ok (.iload 5, 2) := by decide +kernel
theorem zd_186_117 : decode prog_2_method_16_code 117 = .ok (.ifCond .eq 13, 3) := by decide +kernel
theorem zd_186_120 : decode prog_2_method_16_code 120 = .ok (.iload 6, 2) := by decide +kernel
theorem zd_186_122 : decode prog_2_method_16_code 122 = .ok (.ifCond .ne 8, 3) := by decide +kernel
theorem zd_186_125 : decode prog_2_method_16_code 125 = .ok (.bipush 8, 2) := by decide +kernel
theorem zd_186_127 : decode prog_2_method_16_code 127 = .ok (.goto 4, 3) := by decide +kernel
theorem zd_186_130 : decode prog_2_method_16_code 130 = .ok (.iconst 4, 1) := by decide +kernel
theorem zd_186_131 : decode prog_2_method_16_code 131 = .ok (.invokevirtual 328, 3) := by decide +kernel
theorem zd_186_134 : decode prog_2_method_16_code 134 = .ok (.ifCond .ne 13, 3) := by decide +kernel
theorem zd_186_147 : decode prog_2_method_16_code 147 = .ok (.iload 6, 2) := by decide +kernel
theorem zd_186_149 : decode prog_2_method_16_code 149 = .ok (.ifCond .eq 67, 3) := by decide +kernel
theorem zd_186_216 : decode prog_2_method_16_code 216 = .ok (.aload_n 0, 1) := by decide +kernel
theorem zd_186_217 : decode prog_2_method_16_code 217 = .ok (.getfield 65, 3) := by decide +kernel
theorem zd_186_220 : decode prog_2_method_16_code 220 = .ok (.aload_n 0, 1) := by decide +kernel
theorem zd_186_221 : decode prog_2_method_16_code 221 = .ok (.getfield 196, 3) := by decide +kernel
theorem zd_186_224 : decode prog_2_method_16_code 224 = .ok (.iload 7, 2) := by decide +kernel
theorem zd_186_226 : decode prog_2_method_16_code 226 = .ok (.iload_n 2, 1) := by decide +kernel
theorem zd_186_227 : decode prog_2_method_16_code 227 = .ok (.iconst 4, 1) := by decide +kernel
theorem zd_186_228 : decode prog_2_method_16_code 228 = .ok (.invokevirtual 335, 3) := by decide +kernel
theorem zd_186_231 : decode prog_2_method_16_code 231 = .ok (.aload_n 0, 1) := by decide +kernel
theorem zd_186_232 : decode prog_2_method_16_code 232 = .ok (.getfield 72, 3) := by decide +kernel
theorem zd_186_235 : decode prog_2_method_16_code 235 = .ok (.ifCond .eq 24, 3) := by decide +kernel
theorem zd_186_238 : decode prog_2_method_16_code 238 = .ok (.iload 5, 2) := by decide +kernel
theorem zd_186_240 : decode prog_2_method_16_code 240 = .ok (.ifCond .ne 19, 3) := by decide +kernel
theorem zd_186_243 : decode prog_2_method_16_code 243 = .ok (.iload_n 1, 1) := by decide +kernel
theorem zd_186_244 : decode prog_2_method_16_code 244 = .ok (.bipush 8, 2) := by decide +kernel
theorem zd_186_246 : decode prog_2_method_16_code 246 = .ok (.if_icmp .eq 13, 3) := by decide +kernel
theorem zd_186_249 : decode prog_2_method_16_code 249 = .ok (.iload_n 1, 1) := by decide +kernel
theorem zd_186_250 : decode prog_2_method_16_code 250 = .ok (.bipush 9, 2) := by decide +kernel
theorem zd_186_252 : decode prog_2_method_16_code 252 = .ok (.if_icmp .eq 7, 3) := by decide +kernel
theorem zd_186_255 : decode prog_2_method_16_code 255 = .ok (.iconst 1, 1) := by decide +kernel
theorem zd_186_256 : decode prog_2_method_16_code 256 = .ok (.goto 4, 3) := by decide +kernel
theorem zd_186_259 : decode prog_2_method_16_code 259 = .ok (.iconst 0, 1) := by decide +kernel
theorem zd_186_260 : decode prog_2_method_16_code 260 = .ok (.istore 9, 2) := by decide +kernel
theorem zd_186_262 : decode prog_2_method_16_code 262 = .ok (.aload_n 0, 1) := by decide +kernel
theorem zd_186_263 : decode prog_2_method_16_code 263 = .ok (.getfield 24, 3) := by decide +kernel
theorem zd_186_266 : decode prog_2_method_16_code 266 = .ok (.aload_n 0, 1) := by decide +kernel
theorem zd_186_267 : decode prog_2_method_16_code 267 = .ok (.getfield 196, 3) := by decide +kernel
theorem zd_186_270 : decode prog_2_method_16_code 270 = .ok (.iload 9, 2) := by decide +kernel
theorem zd_186_272 : decode prog_2_method_16_code 272 = .ok (.ifCond .eq 8, 3) := by decide +kernel
theorem zd_186_275 : decode prog_2_method_16_code 275 = .ok (.iload 4, 2) := by decide +kernel
theorem zd_186_277 : decode prog_2_method_16_code 277 = .ok (.goto 4, 3) := by decide +kernel
theorem zd_186_280 : decode prog_2_method_16_code 280 = .ok (.iconst (-1), 1) := by decide +kernel
theorem zd_186_281 : decode prog_2_method_16_code 281 = .ok (.iastore, 1) := by decide +kernel
theorem zd_186_282 : decode prog_2_method_16_code 282 = .ok (.aload_n 0, 1) := by decide +kernel
theorem zd_186_283 : decode prog_2_method_16_code 283 = .ok (.getfield 27, 3) := by decide +kernel
theorem zd_186_286 : decode prog_2_method_16_code 286 = .ok (.aload_n 0, 1) := by decide +kernel
theorem zd_186_287 : decode prog_2_method_16_code 287 = .ok (.getfield 196, 3) := by decide +kernel
theorem zd_186_290 : decode prog_2_method_16_code 290 = .ok (.iload_n 1, 1) := by decide +kernel
theorem zd_186_291 : decode prog_2_method_16_code 291 = .ok (.iastore, 1) := by decide +kernel
theorem zd_186_292 : decode prog_2_method_16_code 292 = .ok (.aload_n 0, 1) := by decide +kernel
theorem zd_186_293 : decode prog_2_method_16_code 293 = .ok (.getfield 30, 3) := by decide +kernel
theorem zd_186_296 : decode prog_2_method_16_code 296 = .ok (.aload_n 0, 1) := by decide +kernel
theorem zd_186_297 : decode prog_2_method_16_code 297 = .ok (.getfield 196, 3) := by decide +kernel
theorem zd_186_300 : decode prog_2_method_16_code 300 = .ok (.iload 8, 2) := by decide +kernel
theorem zd_186_302 : decode prog_2_method_16_code 302 = .ok (.iastore, 1) := by decide +kernel
theorem zd_187_0 : decode prog_2_method_13_code 0 = .ok (.iload_n 1, 1) := by decide +kernel
theorem zd_187_1 : decode prog_2_method_13_code 1 = .ok (.tableswitch 191 51 61 #[59, 61, 61, 81, 101, 127, 142, 151, 151, 166, 166], 59) := by decide +kernel
theorem zd_187_62 : decode prog_2_method_13_code 62 = .ok (.aload_n 0, 1) := by decide +kernel
theorem zd_187_63 : decode prog_2_method_13_code 63 = .ok (.getfield 52, 3) := by decide +kernel
theorem zd_187_66 : decode prog_2_method_13_code 66 = .ok (.bipush 11, 2) := by decide +kernel
theorem zd_187_68 : decode prog_2_method_13_code 68 = .ok (.invokevirtual 275, 3) := by decide +kernel
theorem zd_187_71 : decode prog_2_method_13_code 71 = .ok (.aload_n 0, 1) := by decide +kernel
theorem zd_187_72 : decode prog_2_method_13_code 72 = .ok (.getfield 52, 3) := by decide +kernel
theorem zd_187_75 : decode prog_2_method_13_code 75 = .ok (.bipush 21, 2) := by decide +kernel
theorem zd_187_77 : decode prog_2_method_13_code 77 = .ok (.invokevirtual 278, 3) := by decide +kernel
theorem zd_187_80 : decode prog_2_method_13_code 80 = .ok (.ior, 1) := by decide +kernel
theorem zd_187_102 : decode prog_2_method_13_code 102 = .ok (.aload_n 0, 1) := by decide +kernel
theorem zd_187_103 : decode prog_2_method_13_code 103 = .ok (.getfield 52, 3) := by decide +kernel
theorem zd_187_106 : decode prog_2_method_13_code 106 = .ok (.bipush 16, 2) := by decide +kernel
theorem zd_187_108 : decode prog_2_method_13_code 108 = .ok (.invokevirtual 275, 3) := by decide +kernel
theorem zd_187_111 : decode prog_2_method_13_code 111 = .ok (.istore_n 2, 1) := by decide +kernel
theorem zd_187_112 : decode prog_2_method_13_code 112 = .ok (.aload_n 0, 1) := by decide +kernel
theorem zd_187_113 : decode prog_2_method_13_code 113 = .ok (.getfield 52, 3) := by decide +kernel
theorem zd_187_116 : decode prog_2_method_13_code 116 = .ok (.ldc_w 313, 3) := by decide +kernel
theorem zd_187_119 : decode prog_2_method_13_code 119 = .ok (.ldc_w 314, 3) := by decide +kernel
theorem zd_187_122 : decode prog_2_method_13_code 122 = .ok (.invokevirtual 281, 3) := by decide +kernel
theorem zd_187_125 : decode prog_2_method_13_code 125 = .ok (.pop, 1) := by decide +kernel
theorem zd_187_126 : decode prog_2_method_13_code 126 = .ok (.iload_n 2, 1) := by decide +kernel
theorem zd_188_0 : decode prog_2_method_14_code 0 = .ok (.iload_n 1, 1) := by decide +kernel
theorem zd_188_1 : decode prog_2_method_14_code 1 = .ok (.tableswitch 188 51 59 #[51, 61, 79, 97, 188, 115, 152, 152, 170], 51) := by decide +kernel
theorem zd_188_62 : decode prog_2_method_14_code 62 = .ok (.aload_n 0, 1) := by decide +kernel
theorem zd_188_63 : decode prog_2_method_14_code 63 = .ok (.bipush 18, 2) := by decide +kernel
theorem zd_188_65 : decode prog_2_method_14_code 65 = .ok (.getstatic 258, 3) := by decide +kernel
theorem zd_188_68 : decode prog_2_method_14_code 68 = .ok (.bipush 18, 2) := by decide +kernel
theorem zd_188_70 : decode prog_2_method_14_code 70 = .ok (.iaload, 1) := by decide +kernel
theorem zd_188_71 : decode prog_2_method_14_code 71 = .ok (.iload_n 2, 1) := by decide +kernel
theorem zd_188_72 : decode prog_2_method_14_code 72 = .ok (.ior, 1) := by decide +kernel
theorem zd_188_73 : decode prog_2_method_14_code 73 = .ok (.iconst (-1), 1) := by decide +kernel
theorem zd_188_74 : decode prog_2_method_14_code 74 = .ok (.invokevirtual 262, 3) := by decide +kernel
theorem zd_188_77 : decode prog_2_method_14_code 77 = .ok (.goto 166, 3) := by decide +kernel
theorem zd_189_0 : decode prog_2_method_15_code 0 = .ok (.iload_n 2, 1) := by decide +kernel
theorem zd_189_1 : decode prog_2_method_15_code 1 = .ok (.sipush (-32768), 3) := by decide +kernel
theorem zd_189_4 : decode prog_2_method_15_code 4 = .ok (.if_icmp .lt 34, 3) := by decide +kernel
theorem zd_189_7 : decode prog_2_method_15_code 7 = .ok (.iload_n 2, 1) := by decide +kernel
theorem zd_189_8 : decode prog_2_method_15_code 8 = .ok (.sipush 32767, 3) := by decide +kernel
theorem zd_189_11 : decode prog_2_method_15_code 11 = .ok (.if_icmp .gt 27, 3) := by decide +kernel
theorem zd_189_14 : decode prog_2_method_15_code 14 = .ok (.aload_n 0, 1) := by decide +kernel
theorem zd_189_15 : decode prog_2_method_15_code 15 = .ok (.bipush 36, 2) := by decide +kernel
theorem zd_189_17 : decode prog_2_method_15_code 17 = .ok (.getstatic 258, 3) := by decide +kernel
theorem zd_189_20 : decode prog_2_method_15_code 20 = .ok (.bipush 36, 2) := by decide +kernel
theorem zd_189_22 : decode prog_2_method_15_code 22 = .ok (.iaload, 1) := by decide +kernel
theorem zd_189_23 : decode prog_2_method_15_code 23 = .ok (.iload_n 1, 1) := by decide +kernel
theorem zd_189_24 : decode prog_2_method_15_code 24 = .ok (.ior, 1) := by decide +kernel
theorem zd_189_25 : decode prog_2_method_15_code 25 = .ok (.iload_n 2, 1) := by decide +kernel
theorem zd_189_26 : decode prog_2_method_15_code 26 = .ok (.ldc_w 291, 3) := by decide +kernel
theorem zd_189_29 : decode prog_2_method_15_code 29 = .ok (.iand, 1) := by decide +kernel
theorem zd_189_30 : decode prog_2_method_15_code 30 = .ok (.ior, 1) := by decide +kernel
theorem zd_189_31 : decode prog_2_method_15_code 31 = .ok (.iconst (-1), 1) := by decide +kernel
theorem zd_189_32 : decode prog_2_method_15_code 32 = .ok (.invokevirtual 262, 3) := by decide +kernel
theorem zd_189_35 : decode prog_2_method_15_code 35 = .ok (.goto 87, 3) := by decide +kernel
theorem zd_190_0 : decode prog_14_method_105_code 0 = .ok (.aload_n 0, 1) := by decide +kernel
theorem zd_190_1 : decode prog_14_method_105_code 1 = .ok (.getfield 1204, 3) := by decide +kernel
theorem zd_190_4 : decode prog_14_method_105_code 4 = .ok (.sipush 3001, 3) := by decide +kernel
theorem zd_190_7 : decode prog_14_method_105_code 7 = .ok (.if_icmp .ge 23, 3) := by decide +kernel
theorem zd_190_10 : decode prog_14_method_105_code 10 = .ok (.aload_n 0, 1) := by decide +kernel
theorem zd_190_11 : decode prog_14_method_105_code 11 = .ok (.getfield 298, 3) := by decide +kernel
theorem zd_190_14 : decode prog_14_method_105_code 14 = .ok (.aload_n 0, 1) := by decide +kernel
theorem zd_190_15 : decode prog_14_method_105_code 15 = .ok (.getfield 1204, 3) := by decide +kernel
theorem zd_190_18 : decode prog_14_method_105_code 18 = .ok (.iload_n 1, 1) := by decide +kernel
theorem zd_190_19 : decode prog_14_method_105_code 19 = .ok (.iastore, 1) := by decide +kernel
theorem zd_190_20 : decode prog_14_method_105_code 20 = .ok (.aload_n 0, 1) := by decide +kernel
theorem zd_190_21 : decode prog_14_method_105_code 21 = .ok (.dup, 1) := by decide +kernel
theorem zd_190_22 : decode prog_14_method_105_code 22 = .ok (.getfield 1204, 3) := by decide +kernel
theorem zd_190_25 : decode prog_14_method_105_code 25 = .ok (.iconst 1, 1) := by decide +kernel
theorem zd_190_26 : decode prog_14_method_105_code 26 = .ok (.iadd, 1) := by decide +kernel
theorem zd_190_27 : decode prog_14_method_105_code 27 = .ok (.putfield 1204, 3) := by decide +kernel
theorem zd_191_0 : decode prog_14_method_110_code 0 = .ok (.aload_n 0, 1) := by decide +kernel
theorem zd_191_1 : decode prog_14_method_110_code 1 = .ok (.invokevirtual 1222, 3) := by decide +kernel
theorem zd_191_4 : decode prog_14_method_110_code 4 = .ok (.bipush 32, 2) := by decide +kernel
theorem zd_191_6 : decode prog_14_method_110_code 6 = .ok (.if_icmp .ne 16, 3) := by decide +kernel
theorem zd_191_9 : decode prog_14_method_110_code 9 = .ok (.aload_n 0, 1) := by decide +kernel
theorem zd_191_10 : decode prog_14_method_110_code 10 = .ok (.dup, 1) := by decide +kernel
theorem zd_191_11 : decode prog_14_method_110_code 11 = .ok (.getfield 1219, 3) := by decide +kernel
theorem zd_191_14 : decode prog_14_method_110_code 14 = .ok (.iconst 1, 1) := by decide +kernel
theorem zd_191_15 : decode prog_14_method_110_code 15 = .ok (.iadd, 1) := by decide +kernel
theorem zd_191_16 : decode prog_14_method_110_code 16 = .ok (.putfield 1219, 3) := by decide +kernel
theorem zd_191_19 : decode prog_14_method_110_code 19 = .ok (.goto (-19), 3) := by decide +kernel
theorem zd_192_0 : decode prog_14_method_109_code 0 = .ok (.aload_n 0, 1) := by decide +kernel
theorem zd_192_1 : decode prog_14_method_109_code 1 = .ok (.getfield 1219, 3) := by decide +kernel
theorem zd_192_4 : decode prog_14_method_109_code 4 = .ok (.aload_n 0, 1) := by decide +kernel
theorem zd_192_5 : decode prog_14_method_109_code 5 = .ok (.getfield 1204, 3) := by decide +kernel
theorem zd_192_8 : decode prog_14_method_109_code 8 = .ok (.if_icmp .ge 15, 3) := by decide +kernel
theorem zd_192_11 : decode prog_14_method_109_code 11 = .ok (.aload_n 0, 1) := by decide +kernel
theorem zd_192_12 : decode prog_14_method_109_code 12 = .ok (.getfield 298, 3) := by decide +kernel
theorem zd_192_15 : decode prog_14_method_109_code 15 = .ok (.aload_n 0, 1) := by decide +kernel
theorem zd_192_16 : decode prog_14_method_109_code 16 = .ok (.getfield 1219, 3) := by decide +kernel
theorem zd_192_19 : decode prog_14_method_109_code 19 = .ok (.iaload, 1) := by decide +kernel
theorem zd_192_20 : decode prog_14_method_109_code 20 = .ok (.goto 4, 3) := by decide +kernel
theorem zd_192_23 : decode prog_14_method_109_code 23 = .ok (.iconst (-1), 1) := by decide +kernel
theorem zd_193_0 : decode prog_14_method_102_code 0 = .ok (.iload_n 0, 1) := by decide +kernel
theorem zd_193_1 : decode prog_14_method_102_code 1 = .ok (.invokestatic 550, 3) := by decide +kernel
theorem zd_193_4 : decode prog_14_method_102_code 4 = .ok (.ifCond .ne 15, 3) := by decide +kernel
theorem zd_193_7 : decode prog_14_method_102_code 7 = .ok (.iload_n 0, 1) := by decide +kernel
theorem zd_193_8 : decode prog_14_method_102_code 8 = .ok (.bipush 95, 2) := by decide +kernel
theorem zd_193_10 : decode prog_14_method_102_code 10 = .ok (.if_icmp .eq 9, 3) := by decide +kernel
theorem zd_193_13 : decode prog_14_method_102_code 13 = .ok (.iload_n 0, 1) := by decide +kernel
theorem zd_193_14 : decode prog_14_method_102_code 14 = .ok (.bipush 46, 2) := by decide +kernel
theorem zd_193_16 : decode prog_14_method_102_code 16 = .ok (.if_icmp .ne 7, 3) := by decide +kernel
theorem zd_193_19 : decode prog_14_method_102_code 19 = .ok (.iconst 1, 1) := by decide +kernel
theorem zd_193_20 : decode prog_14_method_102_code 20 = .ok (.goto 4, 3) := by decide +kernel
theorem zd_193_23 : decode prog_14_method_102_code 23 = .ok (.iconst 0, 1) := by decide +kernel
theorem zd_194_0 : decode prog_14_method_114_code 0 = .ok (.aload_n 0, 1) := by decide +kernel
theorem zd_194_1 : decode prog_14_method_114_code 1 = .ok (.invokevirtual 1225, 3) := by decide +kernel
theorem zd_194_4 : decode prog_14_method_114_code 4 = .ok (.aload_n 0, 1) := by decide +kernel
theorem zd_194_5 : decode prog_14_method_114_code 5 = .ok (.getfield 1219, 3) := by decide +kernel
theorem zd_194_8 : decode prog_14_method_114_code 8 = .ok (.istore_n 1, 1) := by decide +kernel
theorem zd_194_9 : decode prog_14_method_114_code 9 = .ok (.lconst 0, 1) := by decide +kernel
theorem zd_194_10 : decode prog_14_method_114_code 10 = .ok (.lstore_n 2, 1) := by decide +kernel
theorem zd_194_11 : decode prog_14_method_114_code 11 = .ok (.lconst 0, 1) := by decide +kernel
theorem zd_194_12 : decode prog_14_method_114_code 12 = .ok (.lstore 4, 2) := by decide +kernel
theorem zd_194_14 : decode prog_14_method_114_code 14 = .ok (.aload_n 0, 1) := by decide +kernel
theorem zd_194_15 : decode prog_14_method_114_code 15 = .ok (.getfield 1219, 3) := by decide +kernel
theorem zd_194_18 : decode prog_14_method_114_code 18 = .ok (.iload_n 1, 1) := by decide +kernel
theorem zd_194_19 : decode prog_14_method_114_code 19 = .ok (.if_icmp .ne 16, 3) := by decide +kernel
theorem zd_194_22 : decode prog_14_method_114_code 22 = .ok (.aload_n 0, 1) := by decide +kernel
theorem zd_194_23 : decode prog_14_method_114_code 23 = .ok (.invokevirtual 1222, 3) := by decide +kernel
theorem zd_194_26 : decode prog_14_method_114_code 26 = .ok (.invokestatic 1198, 3) := by decide +kernel
theorem zd_194_29 : decode prog_14_method_114_code 29 = .ok (.ifCond .eq 100, 3) := by decide +kernel
theorem zd_194_32 : decode prog_14_method_114_code 32 = .ok (.goto 13, 3) := by decide +kernel
theorem zd_194_35 : decode prog_14_method_114_code 35 = .ok (.aload_n 0, 1) := by decide +kernel
theorem zd_194_36 : decode prog_14_method_114_code 36 = .ok (.invokevirtual 1222, 3) := by decide +kernel
theorem zd_194_39 : decode prog_14_method_114_code 39 = .ok (.invokestatic 1201, 3) := by decide +kernel
theorem zd_194_42 : decode prog_14_method_114_code 42 = .ok (.ifCond .eq 87, 3) := by decide +kernel
theorem zd_194_45 : decode prog_14_method_114_code 45 = .ok (.aload_n 0, 1) := by decide +kernel
theorem zd_194_46 : decode prog_14_method_114_code 46 = .ok (.getfield 1219, 3) := by decide +kernel
theorem zd_194_49 : decode prog_14_method_114_code 49 = .ok (.iload_n 1, 1) := by decide +kernel
theorem zd_194_50 : decode prog_14_method_114_code 50 = .ok (.isub, 1) := by decide +kernel
theorem zd_194_51 : decode prog_14_method_114_code 51 = .ok (.istore 6, 2) := by decide +kernel
theorem zd_194_53 : decode prog_14_method_114_code 53 = .ok (.iload 6, 2) := by decide +kernel
theorem zd_194_55 : decode prog_14_method_114_code 55 = .ok (.bipush 8, 2) := by decide +kernel
theorem zd_194_57 : decode prog_14_method_114_code 57 = .ok (.if_icmp .ge 19, 3) := by decide +kernel
theorem zd_194_60 : decode prog_14_method_114_code 60 = .ok (.lload_n 2, 1) := by decide +kernel
theorem zd_194_61 : decode prog_14_method_114_code 61 = .ok (.aload_n 0, 1) := by decide +kernel
theorem zd_194_62 : decode prog_14_method_114_code 62 = .ok (.invokevirtual 1222, 3) := by decide +kernel
theorem zd_194_65 : decode prog_14_method_114_code 65 = .ok (.i2l, 1) := by decide +kernel
theorem zd_194_66 : decode prog_14_method_114_code 66 = .ok (.bipush 8, 2) := by decide +kernel
theorem zd_194_68 : decode prog_14_method_114_code 68 = .ok (.iload 6, 2) := by decide +kernel
theorem zd_194_70 : decode prog_14_method_114_code 70 = .ok (.imul, 1) := by decide +kernel
theorem zd_194_71 : decode prog_14_method_114_code 71 = .ok (.lshl, 1) := by decide +kernel
theorem zd_194_72 : decode prog_14_method_114_code 72 = .ok (.lor, 1) := by decide +kernel
theorem zd_194_73 : decode prog_14_method_114_code 73 = .ok (.goto 4, 3) := by decide +kernel
theorem zd_194_77 : decode prog_14_method_114_code 77 = .ok (.lstore_n 2, 1) := by decide +kernel
theorem zd_194_78 : decode prog_14_method_114_code 78 = .ok (.iload 6, 2) := by decide +kernel
theorem zd_194_80 : decode prog_14_method_114_code 80 = .ok (.bipush 8, 2) := by decide +kernel
theorem zd_194_82 : decode prog_14_method_114_code 82 = .ok (.if_icmp .lt 30, 3) := by decide +kernel
theorem zd_194_112 : decode prog_14_method_114_code 112 = .ok (.lload 4, 2) := by decide +kernel
theorem zd_194_114 : decode prog_14_method_114_code 114 = .ok (.lstore 4, 2) := by decide +kernel
theorem zd_194_116 : decode prog_14_method_114_code 116 = .ok (.aload_n 0, 1) := by decide +kernel
theorem zd_194_117 : decode prog_14_method_114_code 117 = .ok (.dup, 1) := by decide +kernel
theorem zd_194_118 : decode prog_14_method_114_code 118 = .ok (.getfield 1219, 3) := by decide +kernel
theorem zd_194_121 : decode prog_14_method_114_code 121 = .ok (.iconst 1, 1) := by decide +kernel
theorem zd_194_122 : decode prog_14_method_114_code 122 = .ok (.iadd, 1) := by decide +kernel
theorem zd_194_123 : decode prog_14_method_114_code 123 = .ok (.putfield 1219, 3) := by decide +kernel
theorem zd_194_126 : decode prog_14_method_114_code 126 = .ok (.goto (-112), 3) := by decide +kernel
theorem zd_194_129 : decode prog_14_method_114_code 129 = .ok (.aload_n 0, 1) := by decide +kernel
theorem zd_194_130 : decode prog_14_method_114_code 130 = .ok (.getfield 1219, 3) := by decide +kernel
theorem zd_194_133 : decode prog_14_method_114_code 133 = .ok (.iload_n 1, 1) := by decide +kernel
theorem zd_194_134 : decode prog_14_method_114_code 134 = .ok (.if_icmp .eq 14, 3) := by decide +kernel
theorem zd_194_137 : decode prog_14_method_114_code 137 = .ok (.aload_n 0, 1) := by decide +kernel
theorem zd_194_138 : decode prog_14_method_114_code 138 = .ok (.getfield 1219, 3) := by decide +kernel
theorem zd_194_141 : decode prog_14_method_114_code 141 = .ok (.iload_n 1, 1) := by decide +kernel
theorem zd_194_142 : decode prog_14_method_114_code 142 = .ok (.isub, 1) := by decide +kernel
theorem zd_194_143 : decode prog_14_method_114_code 143 = .ok (.bipush 16, 2) := by decide +kernel
theorem zd_194_145 : decode prog_14_method_114_code 145 = .ok (.if_icmp .le 10, 3) := by decide +kernel
theorem zd_194_155 : decode prog_14_method_114_code 155 = .ok (.aload_n 0, 1) := by decide +kernel
theorem zd_194_156 : decode prog_14_method_114_code 156 = .ok (.lload_n 2, 1) := by decide +kernel
theorem zd_194_157 : decode prog_14_method_114_code 157 = .ok (.lload 4, 2) := by decide +kernel
theorem zd_194_159 : decode prog_14_method_114_code 159 = .ok (.invokevirtual 536, 3) := by decide +kernel
theorem zd_195_0 : decode prog_14_method_112_code 0 = .ok (.aload_n 0, 1) := by decide +kernel
theorem zd_195_1 : decode prog_14_method_112_code 1 = .ok (.invokevirtual 1225, 3) := by decide +kernel
theorem zd_195_4 : decode prog_14_method_112_code 4 = .ok (.aload_n 0, 1) := by decide +kernel
theorem zd_195_5 : decode prog_14_method_112_code 5 = .ok (.invokevirtual 1222, 3) := by decide +kernel
theorem zd_195_8 : decode prog_14_method_112_code 8 = .ok (.iload_n 1, 1) := by decide +kernel
theorem zd_195_9 : decode prog_14_method_112_code 9 = .ok (.if_icmp .ne 7, 3) := by decide +kernel
theorem zd_195_12 : decode prog_14_method_112_code 12 = .ok (.iconst 1, 1) := by decide +kernel
theorem zd_195_13 : decode prog_14_method_112_code 13 = .ok (.goto 4, 3) := by decide +kernel
theorem zd_195_16 : decode prog_14_method_112_code 16 = .ok (.iconst 0, 1) := by decide +kernel
theorem zd_196_0 : decode prog_14_method_171_code 0 = .ok (.aload_n 0, 1) := by decide +kernel
theorem zd_196_1 : decode prog_14_method_171_code 1 = .ok (.iload_n 1, 1) := by decide +kernel
theorem zd_196_2 : decode prog_14_method_171_code 2 = .ok (.invokevirtual 1456, 3) := by decide +kernel
theorem zd_196_5 : decode prog_14_method_171_code 5 = .ok (.istore_n 3, 1) := by decide +kernel
theorem zd_196_6 : decode prog_14_method_171_code 6 = .ok (.iload_n 3, 1) := by decide +kernel
theorem zd_196_7 : decode prog_14_method_171_code 7 = .ok (.ifCond .lt 9, 3) := by decide +kernel
theorem zd_196_16 : decode prog_14_method_171_code 16 = .ok (.iload_n 1, 1) := by decide +kernel
theorem zd_196_17 : decode prog_14_method_171_code 17 = .ok (.bipush 8, 2) := by decide +kernel
theorem zd_196_19 : decode prog_14_method_171_code 19 = .ok (.isub, 1) := by decide +kernel
theorem zd_196_20 : decode prog_14_method_171_code 20 = .ok (.istore 4, 2) := by decide +kernel
theorem zd_196_22 : decode prog_14_method_171_code 22 = .ok (.iload 4, 2) := by decide +kernel
theorem zd_196_24 : decode prog_14_method_171_code 24 = .ok (.iconst 0, 1) := by decide +kernel
theorem zd_196_25 : decode prog_14_method_171_code 25 = .ok (.bipush 84, 2) := by decide +kernel
theorem zd_196_27 : decode prog_14_method_171_code 27 = .ok (.invokestatic 504, 3) := by decide +kernel
theorem zd_196_30 : decode prog_14_method_171_code 30 = .ok (.ifCond .eq 14, 3) := by decide +kernel
theorem zd_196_33 : decode prog_14_method_171_code 33 = .ok (.iload_n 2, 1) := by decide +kernel
theorem zd_196_34 : decode prog_14_method_171_code 34 = .ok (.ifCond .eq 16, 3) := by decide +kernel
theorem zd_196_37 : decode prog_14_method_171_code 37 = .ok (.iload 4, 2) := by decide +kernel
theorem zd_196_39 : decode prog_14_method_171_code 39 = .ok (.bipush 77, 2) := by decide +kernel
theorem zd_196_41 : decode prog_14_method_171_code 41 = .ok (.if_icmp .lt 9, 3) := by decide +kernel
theorem zd_196_50 : decode prog_14_method_171_code 50 = .ok (.iload 4, 2) := by decide +kernel
theorem zd_196_52 : decode prog_14_method_171_code 52 = .ok (.bipush 64, 2) := by decide +kernel
theorem zd_196_54 : decode prog_14_method_171_code 54 = .ok (.if_icmp .ge 12, 3) := by decide +kernel
theorem zd_196_57 : decode prog_14_method_171_code 57 = .ok (.aload_n 0, 1) := by decide +kernel
theorem zd_196_58 : decode prog_14_method_171_code 58 = .ok (.iload 4, 2) := by decide +kernel
theorem zd_196_60 : decode prog_14_method_171_code 60 = .ok (.invokevirtual 1477, 3) := by decide +kernel
theorem zd_196_63 : decode prog_14_method_171_code 63 = .ok (.goto 9, 3) := by decide +kernel
theorem zd_196_66 : decode prog_14_method_171_code 66 = .ok (.aload_n 0, 1) := by decide +kernel
theorem zd_196_67 : decode prog_14_method_171_code 67 = .ok (.iload 4, 2) := by decide +kernel
theorem zd_196_69 : decode prog_14_method_171_code 69 = .ok (.invokevirtual 1480, 3) := by decide +kernel
theorem zd_197_0 : decode prog_14_method_131_code 0 = .ok (.aload_n 0, 1) := by decide +kernel
theorem zd_197_1 : decode prog_14_method_131_code 1 = .ok (.iload_n 1, 1) := by decide +kernel
theorem zd_197_2 : decode prog_14_method_131_code 2 = .ok (.invokevirtual 1299, 3) := by decide +kernel
theorem zd_197_5 : decode prog_14_method_131_code 5 = .ok (.ifCond .ge 11, 3) := by decide +kernel
theorem zd_197_8 : decode prog_14_method_131_code 8 = .ok (.aload_n 0, 1) := by decide +kernel
theorem zd_197_9 : decode prog_14_method_131_code 9 = .ok (.iload_n 1, 1) := by decide +kernel
theorem zd_197_10 : decode prog_14_method_131_code 10 = .ok (.invokevirtual 1257, 3) := by decide +kernel
theorem zd_197_13 : decode prog_14_method_131_code 13 = .ok (.ifCond .lt 9, 3) := by decide +kernel
theorem zd_197_22 : decode prog_14_method_131_code 22 = .ok (.aload_n 0, 1) := by decide +kernel
theorem zd_197_23 : decode prog_14_method_131_code 23 = .ok (.getfield 72, 3) := by decide +kernel
theorem zd_197_26 : decode prog_14_method_131_code 26 = .ok (.aload_n 0, 1) := by decide +kernel
theorem zd_197_27 : decode prog_14_method_131_code 27 = .ok (.getfield 1174, 3) := by decide +kernel
theorem zd_197_30 : decode prog_14_method_131_code 30 = .ok (.iaload, 1) := by decide +kernel
theorem zd_197_31 : decode prog_14_method_131_code 31 = .ok (.sipush 600, 3) := by decide +kernel
theorem zd_197_34 : decode prog_14_method_131_code 34 = .ok (.if_icmp .ne 10, 3) := by decide +kernel
theorem zd_197_44 : decode prog_14_method_131_code 44 = .ok (.sipush 600, 3) := by decide +kernel
theorem zd_197_47 : decode prog_14_method_131_code 47 = .ok (.aload_n 0, 1) := by decide +kernel
theorem zd_197_48 : decode prog_14_method_131_code 48 = .ok (.getfield 1174, 3) := by decide +kernel
theorem zd_197_51 : decode prog_14_method_131_code 51 = .ok (.imul, 1) := by decide +kernel
theorem zd_197_52 : decode prog_14_method_131_code 52 = .ok (.aload_n 0, 1) := by decide +kernel
theorem zd_197_53 : decode prog_14_method_131_code 53 = .ok (.getfield 72, 3) := by decide +kernel
theorem zd_197_56 : decode prog_14_method_131_code 56 = .ok (.aload_n 0, 1) := by decide +kernel
theorem zd_197_57 : decode prog_14_method_131_code 57 = .ok (.getfield 1174, 3) := by decide +kernel
theorem zd_197_60 : decode prog_14_method_131_code 60 = .ok (.iaload, 1) := by decide +kernel
theorem zd_197_61 : decode prog_14_method_131_code 61 = .ok (.iadd, 1) := by decide +kernel
theorem zd_197_62 : decode prog_14_method_131_code 62 = .ok (.istore_n 2, 1) := by decide +kernel
theorem zd_197_63 : decode prog_14_method_131_code 63 = .ok (.aload_n 0, 1) := by decide +kernel
theorem zd_197_64 : decode prog_14_method_131_code 64 = .ok (.getfield 75, 3) := by decide +kernel
theorem zd_197_67 : decode prog_14_method_131_code 67 = .ok (.iload_n 2, 1) := by decide +kernel
theorem zd_197_68 : decode prog_14_method_131_code 68 = .ok (.iload_n 1, 1) := by decide +kernel
theorem zd_197_69 : decode prog_14_method_131_code 69 = .ok (.iastore, 1) := by decide +kernel
theorem zd_197_70 : decode prog_14_method_131_code 70 = .ok (.aload_n 0, 1) := by decide +kernel
theorem zd_197_71 : decode prog_14_method_131_code 71 = .ok (.getfield 78, 3) := by decide +kernel
theorem zd_197_74 : decode prog_14_method_131_code 74 = .ok (.iload_n 2, 1) := by decide +kernel
theorem zd_197_75 : decode prog_14_method_131_code 75 = .ok (.aload_n 0, 1) := by decide +kernel
theorem zd_197_76 : decode prog_14_method_131_code 76 = .ok (.getfield 1272, 3) := by decide +kernel
theorem zd_197_79 : decode prog_14_method_131_code 79 = .ok (.iastore, 1) := by decide +kernel
theorem zd_197_80 : decode prog_14_method_131_code 80 = .ok (.aload_n 0, 1) := by decide +kernel
theorem zd_197_81 : decode prog_14_method_131_code 81 = .ok (.getfield 81, 3) := by decide +kernel
theorem zd_197_84 : decode prog_14_method_131_code 84 = .ok (.iload_n 2, 1) := by decide +kernel
theorem zd_197_85 : decode prog_14_method_131_code 85 = .ok (.aload_n 0, 1) := by decide +kernel
theorem zd_197_86 : decode prog_14_method_131_code 86 = .ok (.invokevirtual 1290, 3) := by decide +kernel
theorem zd_197_89 : decode prog_14_method_131_code 89 = .ok (.iastore, 1) := by decide +kernel
theorem zd_197_90 : decode prog_14_method_131_code 90 = .ok (.aload_n 0, 1) := by decide +kernel
theorem zd_197_91 : decode prog_14_method_131_code 91 = .ok (.getfield 84, 3) := by decide +kernel
theorem zd_197_94 : decode prog_14_method_131_code 94 = .ok (.iload_n 2, 1) := by decide +kernel
theorem zd_197_95 : decode prog_14_method_131_code 95 = .ok (.aload_n 0, 1) := by decide +kernel
theorem zd_197_96 : decode prog_14_method_131_code 96 = .ok (.getfield 1177, 3) := by decide +kernel
theorem zd_197_99 : decode prog_14_method_131_code 99 = .ok (.iastore, 1) := by decide +kernel
theorem zd_197_100 : decode prog_14_method_131_code 100 = .ok (.aload_n 0, 1) := by decide +kernel
theorem zd_197_101 : decode prog_14_method_131_code 101 = .ok (.getfield 72, 3) := by decide +kernel
theorem zd_197_104 : decode prog_14_method_131_code 104 = .ok (.aload_n 0, 1) := by decide +kernel
theorem zd_197_105 : decode prog_14_method_131_code 105 = .ok (.getfield 1174, 3) := by decide +kernel
theorem zd_197_108 : decode prog_14_method_131_code 108 = .ok (.dup2, 1) := by decide +kernel
theorem zd_197_109 : decode prog_14_method_131_code 109 = .ok (.iaload, 1) := by decide +kernel
theorem zd_197_110 : decode prog_14_method_131_code 110 = .ok (.iconst 1, 1) := by decide +kernel
theorem zd_197_111 : decode prog_14_method_131_code 111 = .ok (.iadd, 1) := by decide +kernel
theorem zd_197_112 : decode prog_14_method_131_code 112 = .ok (.iastore, 1) := by decide +kernel
theorem zd_197_113 : decode prog_14_method_131_code 113 = .ok (.aload_n 0, 1) := by decide +kernel
theorem zd_197_114 : decode prog_14_method_131_code 114 = .ok (.getfield 383, 3) := by decide +kernel
theorem zd_197_117 : decode prog_14_method_131_code 117 = .ok (.aload_n 0, 1) := by decide +kernel
theorem zd_197_118 : decode prog_14_method_131_code 118 = .ok (.getfield 1272, 3) := by decide +kernel
theorem zd_197_121 : decode prog_14_method_131_code 121 = .ok (.aload_n 0, 1) := by decide +kernel
theorem zd_197_122 : decode prog_14_method_131_code 122 = .ok (.invokevirtual 1290, 3) := by decide +kernel
theorem zd_197_125 : decode prog_14_method_131_code 125 = .ok (.iastore, 1) := by decide +kernel
theorem zd_198_0 : decode prog_14_method_130_code 0 = .ok (.iconst (-1), 1) := by decide +kernel
theorem zd_198_1 : decode prog_14_method_130_code 1 = .ok (.istore_n 2, 1) := by decide +kernel
theorem zd_198_2 : decode prog_14_method_130_code 2 = .ok (.iconst 0, 1) := by decide +kernel
theorem zd_198_3 : decode prog_14_method_130_code 3 = .ok (.istore_n 3, 1) := by decide +kernel
theorem zd_198_4 : decode prog_14_method_130_code 4 = .ok (.iload_n 3, 1) := by decide +kernel
theorem zd_198_5 : decode prog_14_method_130_code 5 = .ok (.aload_n 0, 1) := by decide +kernel
theorem zd_198_6 : decode prog_14_method_130_code 6 = .ok (.getfield 72, 3) := by decide +kernel
theorem zd_198_9 : decode prog_14_method_130_code 9 = .ok (.aload_n 0, 1) := by decide +kernel
theorem zd_198_10 : decode prog_14_method_130_code 10 = .ok (.getfield 1174, 3) := by decide +kernel
theorem zd_198_13 : decode prog_14_method_130_code 13 = .ok (.iaload, 1) := by decide +kernel
theorem zd_198_14 : decode prog_14_method_130_code 14 = .ok (.if_icmp .ge 34, 3) := by decide +kernel
theorem zd_198_17 : decode prog_14_method_130_code 17 = .ok (.aload_n 0, 1) := by decide +kernel
theorem zd_198_18 : decode prog_14_method_130_code 18 = .ok (.getfield 75, 3) := by decide +kernel
theorem zd_198_21 : decode prog_14_method_130_code 21 = .ok (.sipush 600, 3) := by decide +kernel
theorem zd_198_24 : decode prog_14_method_130_code 24 = .ok (.aload_n 0, 1) := by decide +kernel
theorem zd_198_25 : decode prog_14_method_130_code 25 = .ok (.getfield 1174, 3) := by decide +kernel
theorem zd_198_28 : decode prog_14_method_130_code 28 = .ok (.imul, 1) := by decide +kernel
theorem zd_198_29 : decode prog_14_method_130_code 29 = .ok (.iload_n 3, 1) := by decide +kernel
theorem zd_198_30 : decode prog_14_method_130_code 30 = .ok (.iadd, 1) := by decide +kernel
theorem zd_198_31 : decode prog_14_method_130_code 31 = .ok (.iaload, 1) := by decide +kernel
theorem zd_198_32 : decode prog_14_method_130_code 32 = .ok (.iload_n 1, 1) := by decide +kernel
theorem zd_198_33 : decode prog_14_method_130_code 33 = .ok (.if_icmp .ne 7, 3) := by decide +kernel
theorem zd_198_40 : decode prog_14_method_130_code 40 = .ok (.iload_n 2, 1) := by decide +kernel
theorem zd_198_41 : decode prog_14_method_130_code 41 = .ok (.istore_n 2, 1) := by decide +kernel
theorem zd_198_42 : decode prog_14_method_130_code 42 = .ok (.iinc 3 1, 3) := by decide +kernel
theorem zd_198_45 : decode prog_14_method_130_code 45 = .ok (.goto (-41), 3) := by decide +kernel
theorem zd_198_48 : decode prog_14_method_130_code 48 = .ok (.iload_n 2, 1) := by decide +kernel
theorem zd_199_0 : decode prog_15_method_9_code 0 = .ok (.aload_n 0, 1) := by decide +kernel
theorem zd_199_1 : decode prog_15_method_9_code 1 = .ok (.getfield 15, 3) := by decide +kernel
theorem zd_199_4 : decode prog_15_method_9_code 4 = .ok (.arraylength, 1) := by decide +kernel
theorem zd_199_5 : decode prog_15_method_9_code 5 = .ok (.aload_n 0, 1) := by decide +kernel
theorem zd_199_6 : decode prog_15_method_9_code 6 = .ok (.getfield 22, 3) := by decide +kernel
theorem zd_199_9 : decode prog_15_method_9_code 9 = .ok (.ishr, 1) := by decide +kernel
theorem zd_199_10 : decode prog_15_method_9_code 10 = .ok (.istore_n 2, 1) := by decide +kernel
theorem zd_199_11 : decode prog_15_method_9_code 11 = .ok (.iload_n 1, 1) := by decide +kernel
theorem zd_199_12 : decode prog_15_method_9_code 12 = .ok (.iload_n 2, 1) := by decide +kernel
theorem zd_199_13 : decode prog_15_method_9_code 13 = .ok (.isub, 1) := by decide +kernel
theorem zd_199_14 : decode prog_15_method_9_code 14 = .ok (.ifCond .le 24, 3) := by decide +kernel
theorem zd_199_17 : decode prog_15_method_9_code 17 = .ok (.aload_n 0, 1) := by decide +kernel
theorem zd_199_18 : decode prog_15_method_9_code 18 = .ok (.aload_n 0, 1) := by decide +kernel
theorem zd_199_19 : decode prog_15_method_9_code 19 = .ok (.getfield 15, 3) := by decide +kernel
theorem zd_199_22 : decode prog_15_method_9_code 22 = .ok (.aload_n 0, 1) := by decide +kernel
theorem zd_199_23 : decode prog_15_method_9_code 23 = .ok (.iload_n 1, 1) := by decide +kernel
theorem zd_199_24 : decode prog_15_method_9_code 24 = .ok (.invokevirtual 104, 3) := by decide +kernel
theorem zd_199_27 : decode prog_15_method_9_code 27 = .ok (.aload_n 0, 1) := by decide +kernel
theorem zd_199_28 : decode prog_15_method_9_code 28 = .ok (.getfield 22, 3) := by decide +kernel
theorem zd_199_31 : decode prog_15_method_9_code 31 = .ok (.ishl, 1) := by decide +kernel
theorem zd_199_32 : decode prog_15_method_9_code 32 = .ok (.invokestatic 108, 3) := by decide +kernel
theorem zd_199_35 : decode prog_15_method_9_code 35 = .ok (.putfield 15, 3) := by decide +kernel
theorem zd_200_0 : decode prog_15_method_68_code 0 = .ok (.getstatic 18, 3) := by decide +kernel
theorem zd_200_3 : decode prog_15_method_68_code 3 = .ok (.ifCond .eq 14, 3) := by decide +kernel
theorem zd_200_6 : decode prog_15_method_68_code 6 = .ok (.aload_n 0, 1) := by decide +kernel
theorem zd_200_7 : decode prog_15_method_68_code 7 = .ok (.getfield 22, 3) := by decide +kernel
theorem zd_200_10 : decode prog_15_method_68_code 10 = .ok (.ifCond .ne 7, 3) := by decide +kernel
theorem zd_200_13 : decode prog_15_method_68_code 13 = .ok (.iconst 1, 1) := by decide +kernel
theorem zd_200_14 : decode prog_15_method_68_code 14 = .ok (.goto 4, 3) := by decide +kernel
theorem zd_201_0 : decode prog_29_method_3_code 0 = .ok (.iload_n 0, 1) := by decide +kernel
theorem zd_201_1 : decode prog_29_method_3_code 1 = .ok (.sipush 255, 3) := by decide +kernel
theorem zd_201_4 : decode prog_29_method_3_code 4 = .ok (.if_icmp .gt 7, 3) := by decide +kernel
theorem zd_201_7 : decode prog_29_method_3_code 7 = .ok (.iconst 1, 1) := by decide +kernel
theorem zd_201_8 : decode prog_29_method_3_code 8 = .ok (.goto 4, 3) := by decide +kernel
theorem zd_202_0 : decode prog_15_method_73_code 0 = .ok (.aload_n 0, 1) := by decide +kernel
theorem zd_202_1 : decode prog_15_method_73_code 1 = .ok (.aload_n 2, 1) := by decide +kernel
theorem zd_202_2 : decode prog_15_method_73_code 2 = .ok (.invokevirtual 397, 3) := by decide +kernel
theorem zd_202_5 : decode prog_15_method_73_code 5 = .ok (.aload_n 2, 1) := by decide +kernel
theorem zd_202_6 : decode prog_15_method_73_code 6 = .ok (.aload_n 0, 1) := by decide +kernel
theorem zd_202_7 : decode prog_15_method_73_code 7 = .ok (.getfield 15, 3) := by decide +kernel
theorem zd_202_10 : decode prog_15_method_73_code 10 = .ok (.iload_n 1, 1) := by decide +kernel
theorem zd_202_11 : decode prog_15_method_73_code 11 = .ok (.aload_n 0, 1) := by decide +kernel
theorem zd_202_12 : decode prog_15_method_73_code 12 = .ok (.getfield 22, 3) := by decide +kernel
theorem zd_202_15 : decode prog_15_method_73_code 15 = .ok (.invokevirtual 399, 3) := by decide +kernel
theorem zd_203_0 : decode prog_23_method_13_code 0 = .ok (.iconst 1, 1) := by decide +kernel
theorem zd_203_1 : decode prog_23_method_13_code 1 = .ok (.istore_n 1, 1) := by decide +kernel
theorem zd_203_2 : decode prog_23_method_13_code 2 = .ok (.iload_n 0, 1) := by decide +kernel
theorem zd_203_3 : decode prog_23_method_13_code 3 = .ok (.ifCond .lt 8, 3) := by decide +kernel
theorem zd_203_6 : decode prog_23_method_13_code 6 = .ok (.iconst 0, 1) := by decide +kernel
theorem zd_203_7 : decode prog_23_method_13_code 7 = .ok (.istore_n 1, 1) := by decide +kernel
theorem zd_203_8 : decode prog_23_method_13_code 8 = .ok (.iload_n 0, 1) := by decide +kernel
theorem zd_203_9 : decode prog_23_method_13_code 9 = .ok (.ineg, 1) := by decide +kernel
theorem zd_203_10 : decode prog_23_method_13_code 10 = .ok (.istore_n 0, 1) := by decide +kernel
theorem zd_203_11 : decode prog_23_method_13_code 11 = .ok (.bipush (-10), 2) := by decide +kernel
theorem zd_203_13 : decode prog_23_method_13_code 13 = .ok (.istore_n 2, 1) := by decide +kernel
theorem zd_203_14 : decode prog_23_method_13_code 14 = .ok (.iconst 1, 1) := by decide +kernel
theorem zd_203_15 : decode prog_23_method_13_code 15 = .ok (.istore_n 3, 1) := by decide +kernel
theorem zd_203_16 : decode prog_23_method_13_code 16 = .ok (.iload_n 3, 1) := by decide +kernel
theorem zd_203_17 : decode prog_23_method_13_code 17 = .ok (.bipush 10, 2) := by decide +kernel
theorem zd_203_19 : decode prog_23_method_13_code 19 = .ok (.if_icmp .ge 23, 3) := by decide +kernel
theorem zd_203_22 : decode prog_23_method_13_code 22 = .ok (.iload_n 0, 1) := by decide +kernel
theorem zd_203_23 : decode prog_23_method_13_code 23 = .ok (.iload_n 2, 1) := by decide +kernel
theorem zd_203_24 : decode prog_23_method_13_code 24 = .ok (.if_icmp .le 7, 3) := by decide +kernel
theorem zd_203_27 : decode prog_23_method_13_code 27 = .ok (.iload_n 3, 1) := by decide +kernel
theorem zd_203_28 : decode prog_23_method_13_code 28 = .ok (.iload_n 1, 1) := by decide +kernel
theorem zd_203_29 : decode prog_23_method_13_code 29 = .ok (.iadd, 1) := by decide +kernel
theorem zd_203_31 : decode prog_23_method_13_code 31 = .ok (.bipush 10, 2) := by decide +kernel
theorem zd_203_33 : decode prog_23_method_13_code 33 = .ok (.iload_n 2, 1) := by decide +kernel
theorem zd_203_34 : decode prog_23_method_13_code 34 = .ok (.imul, 1) := by decide +kernel
theorem zd_203_35 : decode prog_23_method_13_code 35 = .ok (.istore_n 2, 1) := by decide +kernel
theorem zd_203_36 : decode prog_23_method_13_code 36 = .ok (.iinc 3 1, 3) := by decide +kernel
theorem zd_203_39 : decode prog_23_method_13_code 39 = .ok (.goto (-23), 3) := by decide +kernel
theorem zd_203_42 : decode prog_23_method_13_code 42 = .ok (.bipush 10, 2) := by decide +kernel
theorem zd_203_44 : decode prog_23_method_13_code 44 = .ok (.iload_n 1, 1) := by decide +kernel
theorem zd_203_45 : decode prog_23_method_13_code 45 = .ok (.iadd, 1) := by decide +kernel
theorem zd_204_0 : decode prog_23_method_12_code 0 = .ok (.iload_n 1, 1) := by decide +kernel
theorem zd_204_1 : decode prog_23_method_12_code 1 = .ok (.istore 5, 2) := by decide +kernel
theorem zd_204_3 : decode prog_23_method_12_code 3 = .ok (.iload_n 0, 1) := by decide +kernel
theorem zd_204_4 : decode prog_23_method_12_code 4 = .ok (.ifCond .ge 7, 3) := by decide +kernel
theorem zd_204_7 : decode prog_23_method_12_code 7 = .ok (.iconst 1, 1) := by decide +kernel
theorem zd_204_8 : decode prog_23_method_12_code 8 = .ok (.goto 4, 3) := by decide +kernel
theorem zd_204_11 : decode prog_23_method_12_code 11 = .ok (.iconst 0, 1) := by decide +kernel
theorem zd_204_12 : decode prog_23_method_12_code 12 = .ok (.istore 6, 2) := by decide +kernel
theorem zd_204_14 : decode prog_23_method_12_code 14 = .ok (.iload 6, 2) := by decide +kernel
theorem zd_204_16 : decode prog_23_method_12_code 16 = .ok (.ifCond .ne 6, 3) := by decide +kernel
theorem zd_204_19 : decode prog_23_method_12_code 19 = .ok (.iload_n 0, 1) := by decide +kernel
theorem zd_204_20 : decode prog_23_method_12_code 20 = .ok (.ineg, 1) := by decide +kernel
theorem zd_204_21 : decode prog_23_method_12_code 21 = .ok (.istore_n 0, 1) := by decide +kernel
theorem zd_204_22 : decode prog_23_method_12_code 22 = .ok (.iload_n 0, 1) := by decide +kernel
theorem zd_204_23 : decode prog_23_method_12_code 23 = .ok (.bipush (-100), 2) := by decide +kernel
theorem zd_204_25 : decode prog_23_method_12_code 25 = .ok (.if_icmp .gt 47, 3) := by decide +kernel
theorem zd_204_28 : decode prog_23_method_12_code 28 = .ok (.iload_n 0, 1) := by decide +kernel
theorem zd_204_29 : decode prog_23_method_12_code 29 = .ok (.bipush 100, 2) := by decide +kernel
theorem zd_204_31 : decode prog_23_method_12_code 31 = .ok (.idiv, 1) := by decide +kernel
theorem zd_204_32 : decode prog_23_method_12_code 32 = .ok (.istore_n 3, 1) := by decide +kernel
theorem zd_204_33 : decode prog_23_method_12_code 33 = .ok (.iload_n 3, 1) := by decide +kernel
theorem zd_204_34 : decode prog_23_method_12_code 34 = .ok (.bipush 100, 2) := by decide +kernel
theorem zd_204_36 : decode prog_23_method_12_code 36 = .ok (.imul, 1) := by decide +kernel
theorem zd_204_37 : decode prog_23_method_12_code 37 = .ok (.iload_n 0, 1) := by decide +kernel
theorem zd_204_38 : decode prog_23_method_12_code 38 = .ok (.isub, 1) := by decide +kernel
theorem zd_204_39 : decode prog_23_method_12_code 39 = .ok (.istore 4, 2) := by decide +kernel
theorem zd_204_41 : decode prog_23_method_12_code 41 = .ok (.iload_n 3, 1) := by decide +kernel
theorem zd_204_42 : decode prog_23_method_12_code 42 = .ok (.istore_n 0, 1) := by decide +kernel
theorem zd_204_43 : decode prog_23_method_12_code 43 = .ok (.aload_n 2, 1) := by decide +kernel
theorem zd_204_44 : decode prog_23_method_12_code 44 = .ok (.iinc 5 (-1), 3) := by decide +kernel
theorem zd_204_47 : decode prog_23_method_12_code 47 = .ok (.iload 5, 2) := by decide +kernel
theorem zd_204_49 : decode prog_23_method_12_code 49 = .ok (.getstatic 83, 3) := by decide +kernel
theorem zd_204_52 : decode prog_23_method_12_code 52 = .ok (.iload 4, 2) := by decide +kernel
theorem zd_204_54 : decode prog_23_method_12_code 54 = .ok (.baload, 1) := by decide +kernel
theorem zd_204_55 : decode prog_23_method_12_code 55 = .ok (.bastore, 1) := by decide +kernel
theorem zd_204_56 : decode prog_23_method_12_code 56 = .ok (.aload_n 2, 1) := by decide +kernel
theorem zd_204_57 : decode prog_23_method_12_code 57 = .ok (.iinc 5 (-1), 3) := by decide +kernel
theorem zd_204_60 : decode prog_23_method_12_code 60 = .ok (.iload 5, 2) := by decide +kernel
theorem zd_204_62 : decode prog_23_method_12_code 62 = .ok (.getstatic 87, 3) := by decide +kernel
theorem zd_204_65 : decode prog_23_method_12_code 65 = .ok (.iload 4, 2) := by decide +kernel
theorem zd_204_67 : decode prog_23_method_12_code 67 = .ok (.baload, 1) := by decide +kernel
theorem zd_204_68 : decode prog_23_method_12_code 68 = .ok (.bastore, 1) := by decide +kernel
theorem zd_204_69 : decode prog_23_method_12_code 69 = .ok (.goto (-47), 3) := by decide +kernel
theorem zd_204_72 : decode prog_23_method_12_code 72 = .ok (.aload_n 2, 1) := by decide +kernel
theorem zd_204_73 : decode prog_23_method_12_code 73 = .ok (.iinc 5 (-1), 3) := by decide +kernel
theorem zd_204_76 : decode prog_23_method_12_code 76 = .ok (.iload 5, 2) := by decide +kernel
theorem zd_204_78 : decode prog_23_method_12_code 78 = .ok (.getstatic 83, 3) := by decide +kernel
theorem zd_204_81 : decode prog_23_method_12_code 81 = .ok (.iload_n 0, 1) := by decide +kernel
theorem zd_204_82 : decode prog_23_method_12_code 82 = .ok (.ineg, 1) := by decide +kernel
theorem zd_204_83 : decode prog_23_method_12_code 83 = .ok (.baload, 1) := by decide +kernel
theorem zd_204_84 : decode prog_23_method_12_code 84 = .ok (.bastore, 1) := by decide +kernel
theorem zd_204_85 : decode prog_23_method_12_code 85 = .ok (.iload_n 0, 1) := by decide +kernel
theorem zd_204_86 : decode prog_23_method_12_code 86 = .ok (.bipush (-9), 2) := by decide +kernel
theorem zd_204_88 : decode prog_23_method_12_code 88 = .ok (.if_icmp .ge 16, 3) := by decide +kernel
theorem zd_204_91 : decode prog_23_method_12_code 91 = .ok (.aload_n 2, 1) := by decide +kernel
theorem zd_204_92 : decode prog_23_method_12_code 92 = .ok (.iinc 5 (-1), 3) := by decide +kernel
theorem zd_204_95 : decode prog_23_method_12_code 95 = .ok (.iload 5, 2) := by decide +kernel
theorem zd_204_97 : decode prog_23_method_12_code 97 = .ok (.getstatic 87, 3) := by decide +kernel
theorem zd_204_100 : decode prog_23_method_12_code 100 = .ok (.iload_n 0, 1) := by decide +kernel
theorem zd_204_101 : decode prog_23_method_12_code 101 = .ok (.ineg, 1) := by decide +kernel
theorem zd_204_102 : decode prog_23_method_12_code 102 = .ok (.baload, 1) := by decide +kernel
theorem zd_204_103 : decode prog_23_method_12_code 103 = .ok (.bastore, 1) := by decide +kernel
theorem zd_204_104 : decode prog_23_method_12_code 104 = .ok (.iload 6, 2) := by decide +kernel
theorem zd_204_106 : decode prog_23_method_12_code 106 = .ok (.ifCond .eq 12, 3) := by decide +kernel
theorem zd_204_109 : decode prog_23_method_12_code 109 = .ok (.aload_n 2, 1) := by decide +kernel
theorem zd_204_110 : decode prog_23_method_12_code 110 = .ok (.iinc 5 (-1), 3) := by decide +kernel
theorem zd_204_113 : decode prog_23_method_12_code 113 = .ok (.iload 5, 2) := by decide +kernel
theorem zd_204_115 : decode prog_23_method_12_code 115 = .ok (.bipush 45, 2) := by decide +kernel
theorem zd_204_117 : decode prog_23_method_12_code 117 = .ok (.bastore, 1) := by decide +kernel
theorem zd_204_118 : decode prog_23_method_12_code 118 = .ok (.iload 5, 2) := by decide +kernel
theorem zd_205_0 : decode prog_1_method_31_code 0 = .ok (.iload_n 0, 1) := by decide +kernel
theorem zd_205_1 : decode prog_1_method_31_code 1 = .ok (.bipush 48, 2) := by decide +kernel
theorem zd_205_3 : decode prog_1_method_31_code 3 = .ok (.if_icmp .lt 13, 3) := by decide +kernel
theorem zd_205_6 : decode prog_1_method_31_code 6 = .ok (.iload_n 0, 1) := by decide +kernel
theorem zd_205_7 : decode prog_1_method_31_code 7 = .ok (.bipush 57, 2) := by decide +kernel
theorem zd_205_9 : decode prog_1_method_31_code 9 = .ok (.if_icmp .gt 7, 3) := by decide +kernel
theorem zd_205_12 : decode prog_1_method_31_code 12 = .ok (.iconst 1, 1) := by decide +kernel
theorem zd_205_13 : decode prog_1_method_31_code 13 = .ok (.goto 4, 3) := by decide +kernel
theorem zd_205_16 : decode prog_1_method_31_code 16 = .ok (.iconst 0, 1) := by decide +kernel
theorem zd_206_0 : decode prog_1_method_32_code 0 = .ok (.iload_n 0, 1) := by decide +kernel
theorem zd_206_1 : decode prog_1_method_32_code 1 = .ok (.bipush 97, 2) := by decide +kernel
theorem zd_206_3 : decode prog_1_method_32_code 3 = .ok (.if_icmp .lt 9, 3) := by decide +kernel
theorem zd_206_6 : decode prog_1_method_32_code 6 = .ok (.iload_n 0, 1) := by decide +kernel
theorem zd_206_7 : decode prog_1_method_32_code 7 = .ok (.bipush 122, 2) := by decide +kernel
theorem zd_206_9 : decode prog_1_method_32_code 9 = .ok (.if_icmp .le 27, 3) := by decide +kernel
theorem zd_206_12 : decode prog_1_method_32_code 12 = .ok (.iload_n 0, 1) := by decide +kernel
theorem zd_206_13 : decode prog_1_method_32_code 13 = .ok (.bipush 48, 2) := by decide +kernel
theorem zd_206_15 : decode prog_1_method_32_code 15 = .ok (.if_icmp .lt 9, 3) := by decide +kernel
theorem zd_206_18 : decode prog_1_method_32_code 18 = .ok (.iload_n 0, 1) := by decide +kernel
theorem zd_206_19 : decode prog_1_method_32_code 19 = .ok (.bipush 57, 2) := by decide +kernel
theorem zd_206_21 : decode prog_1_method_32_code 21 = .ok (.if_icmp .le 15, 3) := by decide +kernel
theorem zd_206_24 : decode prog_1_method_32_code 24 = .ok (.iload_n 0, 1) := by decide +kernel
theorem zd_206_25 : decode prog_1_method_32_code 25 = .ok (.bipush 95, 2) := by decide +kernel
theorem zd_206_27 : decode prog_1_method_32_code 27 = .ok (.if_icmp .eq 9, 3) := by decide +kernel
theorem zd_206_30 : decode prog_1_method_32_code 30 = .ok (.iload_n 0, 1) := by decide +kernel
theorem zd_206_31 : decode prog_1_method_32_code 31 = .ok (.bipush 46, 2) := by decide +kernel
theorem zd_206_33 : decode prog_1_method_32_code 33 = .ok (.if_icmp .ne 7, 3) := by decide +kernel
theorem zd_206_36 : decode prog_1_method_32_code 36 = .ok (.iconst 1, 1) := by decide +kernel
theorem zd_206_37 : decode prog_1_method_32_code 37 = .ok (.goto 4, 3) := by decide +kernel
theorem zd_206_40 : decode prog_1_method_32_code 40 = .ok (.iconst 0, 1) := by decide +kernel
theorem zd_207_0 : decode prog_11_method_4_code 0 = .ok (.iload_n 1, 1) := by decide +kernel
theorem zd_207_1 : decode prog_11_method_4_code 1 = .ok (.istore_n 2, 1) := by decide +kernel
theorem zd_207_2 : decode prog_11_method_4_code 2 = .ok (.iload_n 2, 1) := by decide +kernel
theorem zd_207_3 : decode prog_11_method_4_code 3 = .ok (.aload_n 0, 1) := by decide +kernel
theorem zd_207_4 : decode prog_11_method_4_code 4 = .ok (.getfield 42, 3) := by decide +kernel
theorem zd_207_7 : decode prog_11_method_4_code 7 = .ok (.if_icmp .ge 21, 3) := by decide +kernel
theorem zd_207_10 : decode prog_11_method_4_code 10 = .ok (.aload_n 0, 1) := by decide +kernel
theorem zd_207_11 : decode prog_11_method_4_code 11 = .ok (.getfield 32, 3) := by decide +kernel
theorem zd_207_14 : decode prog_11_method_4_code 14 = .ok (.iload_n 2, 1) := by decide +kernel
theorem zd_207_15 : decode prog_11_method_4_code 15 = .ok (.baload, 1) := by decide +kernel
theorem zd_207_16 : decode prog_11_method_4_code 16 = .ok (.invokestatic 62, 3) := by decide +kernel
theorem zd_207_19 : decode prog_11_method_4_code 19 = .ok (.ifCond .eq 9, 3) := by decide +kernel
theorem zd_207_22 : decode prog_11_method_4_code 22 = .ok (.iinc 2 1, 3) := by decide +kernel
theorem zd_207_25 : decode prog_11_method_4_code 25 = .ok (.goto (-23), 3) := by decide +kernel
theorem zd_207_28 : decode prog_11_method_4_code 28 = .ok (.iload_n 2, 1) := by decide +kernel
theorem zd_208_0 : decode prog_9_method_6_code 0 = .ok (.lconst 0, 1) := by decide +kernel
theorem zd_208_1 : decode prog_9_method_6_code 1 = .ok (.lstore_n 3, 1) := by decide +kernel
theorem zd_208_2 : decode prog_9_method_6_code 2 = .ok (.iconst 0, 1) := by decide +kernel
theorem zd_208_3 : decode prog_9_method_6_code 3 = .ok (.istore 5, 2) := by decide +kernel
theorem zd_208_5 : decode prog_9_method_6_code 5 = .ok (.iload 5, 2) := by decide +kernel
theorem zd_208_7 : decode prog_9_method_6_code 7 = .ok (.bipush 8, 2) := by decide +kernel
theorem zd_208_9 : decode prog_9_method_6_code 9 = .ok (.if_icmp .ge 42, 3) := by decide +kernel
theorem zd_208_12 : decode prog_9_method_6_code 12 = .ok (.iload_n 1, 1) := by decide +kernel
theorem zd_208_13 : decode prog_9_method_6_code 13 = .ok (.iload 5, 2) := by decide +kernel
theorem zd_208_15 : decode prog_9_method_6_code 15 = .ok (.iadd, 1) := by decide +kernel
theorem zd_208_16 : decode prog_9_method_6_code 16 = .ok (.iload_n 2, 1) := by decide +kernel
theorem zd_208_17 : decode prog_9_method_6_code 17 = .ok (.if_icmp .ge 34, 3) := by decide +kernel
theorem zd_208_20 : decode prog_9_method_6_code 20 = .ok (.iload_n 1, 1) := by decide +kernel
theorem zd_208_21 : decode prog_9_method_6_code 21 = .ok (.iload 5, 2) := by decide +kernel
theorem zd_208_23 : decode prog_9_method_6_code 23 = .ok (.iadd, 1) := by decide +kernel
theorem zd_208_24 : decode prog_9_method_6_code 24 = .ok (.aload_n 0, 1) := by decide +kernel
theorem zd_208_25 : decode prog_9_method_6_code 25 = .ok (.arraylength, 1) := by decide +kernel
theorem zd_208_26 : decode prog_9_method_6_code 26 = .ok (.if_icmp .ge 25, 3) := by decide +kernel
theorem zd_208_29 : decode prog_9_method_6_code 29 = .ok (.lload_n 3, 1) := by decide +kernel
theorem zd_208_30 : decode prog_9_method_6_code 30 = .ok (.aload_n 0, 1) := by decide +kernel
theorem zd_208_31 : decode prog_9_method_6_code 31 = .ok (.iload_n 1, 1) := by decide +kernel
theorem zd_208_32 : decode prog_9_method_6_code 32 = .ok (.iload 5, 2) := by decide +kernel
theorem zd_208_34 : decode prog_9_method_6_code 34 = .ok (.iadd, 1) := by decide +kernel
theorem zd_208_35 : decode prog_9_method_6_code 35 = .ok (.baload, 1) := by decide +kernel
theorem zd_208_36 : decode prog_9_method_6_code 36 = .ok (.i2l, 1) := by decide +kernel
theorem zd_208_37 : decode prog_9_method_6_code 37 = .ok (.bipush 8, 2) := by decide +kernel
theorem zd_208_39 : decode prog_9_method_6_code 39 = .ok (.iload 5, 2) := by decide +kernel
theorem zd_208_41 : decode prog_9_method_6_code 41 = .ok (.imul, 1) := by decide +kernel
theorem zd_208_42 : decode prog_9_method_6_code 42 = .ok (.lshl, 1) := by decide +kernel
theorem zd_208_43 : decode prog_9_method_6_code 43 = .ok (.lor, 1) := by decide +kernel
theorem zd_208_44 : decode prog_9_method_6_code 44 = .ok (.lstore_n 3, 1) := by decide +kernel
theorem zd_208_45 : decode prog_9_method_6_code 45 = .ok (.iinc 5 1, 3) := by decide +kernel
theorem zd_208_48 : decode prog_9_method_6_code 48 = .ok (.goto (-43), 3) := by decide +kernel
theorem zd_208_51 : decode prog_9_method_6_code 51 = .ok (.lload_n 3, 1) := by decide +kernel
theorem zd_209_0 : decode prog_26_method_79_code 0 = .ok (.aload_n 0, 1) := by decide +kernel
theorem zd_209_1 : decode prog_26_method_79_code 1 = .ok (.iload_n 1, 1) := by decide +kernel
theorem zd_209_2 : decode prog_26_method_79_code 2 = .ok (.iconst 0, 1) := by decide +kernel
theorem zd_209_3 : decode prog_26_method_79_code 3 = .ok (.invokevirtual 633, 3) := by decide +kernel
theorem zd_210_0 : decode prog_11_method_6_code 0 = .ok (.iload_n 2, 1) := by decide +kernel
theorem zd_210_1 : decode prog_11_method_6_code 1 = .ok (.iconst 1, 1) := by decide +kernel
theorem zd_210_2 : decode prog_11_method_6_code 2 = .ok (.iadd, 1) := by decide +kernel
theorem zd_210_3 : decode prog_11_method_6_code 3 = .ok (.istore_n 3, 1) := by decide +kernel
theorem zd_210_4 : decode prog_11_method_6_code 4 = .ok (.iload_n 3, 1) := by decide +kernel
theorem zd_210_5 : decode prog_11_method_6_code 5 = .ok (.aload_n 0, 1) := by decide +kernel
theorem zd_210_6 : decode prog_11_method_6_code 6 = .ok (.getfield 42, 3) := by decide +kernel
theorem zd_210_9 : decode prog_11_method_6_code 9 = .ok (.if_icmp .ge 33, 3) := by decide +kernel
theorem zd_210_12 : decode prog_11_method_6_code 12 = .ok (.aload_n 0, 1) := by decide +kernel
theorem zd_210_13 : decode prog_11_method_6_code 13 = .ok (.getfield 32, 3) := by decide +kernel
theorem zd_210_16 : decode prog_11_method_6_code 16 = .ok (.iload_n 3, 1) := by decide +kernel
theorem zd_210_17 : decode prog_11_method_6_code 17 = .ok (.baload, 1) := by decide +kernel
theorem zd_210_18 : decode prog_11_method_6_code 18 = .ok (.invokestatic 99, 3) := by decide +kernel
theorem zd_210_21 : decode prog_11_method_6_code 21 = .ok (.ifCond .ne 15, 3) := by decide +kernel
theorem zd_210_24 : decode prog_11_method_6_code 24 = .ok (.aload_n 0, 1) := by decide +kernel
theorem zd_210_25 : decode prog_11_method_6_code 25 = .ok (.getfield 32, 3) := by decide +kernel
theorem zd_210_28 : decode prog_11_method_6_code 28 = .ok (.iload_n 3, 1) := by decide +kernel
theorem zd_210_29 : decode prog_11_method_6_code 29 = .ok (.baload, 1) := by decide +kernel
theorem zd_210_30 : decode prog_11_method_6_code 30 = .ok (.invokestatic 55, 3) := by decide +kernel
theorem zd_210_33 : decode prog_11_method_6_code 33 = .ok (.ifCond .eq 9, 3) := by decide +kernel
theorem zd_210_36 : decode prog_11_method_6_code 36 = .ok (.iinc 3 1, 3) := by decide +kernel
theorem zd_210_39 : decode prog_11_method_6_code 39 = .ok (.goto (-35), 3) := by decide +kernel
theorem zd_210_42 : decode prog_11_method_6_code 42 = .ok (.iload_n 3, 1) := by decide +kernel
theorem zd_210_43 : decode prog_11_method_6_code 43 = .ok (.iload_n 2, 1) := by decide +kernel
theorem zd_210_44 : decode prog_11_method_6_code 44 = .ok (.isub, 1) := by decide +kernel
theorem zd_210_45 : decode prog_11_method_6_code 45 = .ok (.iconst 5, 1) := by decide +kernel
theorem zd_210_46 : decode prog_11_method_6_code 46 = .ok (.if_icmp .le 7, 3) := by decide +kernel
theorem zd_210_53 : decode prog_11_method_6_code 53 = .ok (.aload_n 0, 1) := by decide +kernel
theorem zd_210_54 : decode prog_11_method_6_code 54 = .ok (.getfield 28, 3) := by decide +kernel
theorem zd_210_57 : decode prog_11_method_6_code 57 = .ok (.aload_n 0, 1) := by decide +kernel
theorem zd_210_58 : decode prog_11_method_6_code 58 = .ok (.getfield 32, 3) := by decide +kernel
theorem zd_210_61 : decode prog_11_method_6_code 61 = .ok (.iload_n 2, 1) := by decide +kernel
theorem zd_210_62 : decode prog_11_method_6_code 62 = .ok (.iload_n 3, 1) := by decide +kernel
theorem zd_210_63 : decode prog_11_method_6_code 63 = .ok (.invokestatic 69, 3) := by decide +kernel
theorem zd_210_66 : decode prog_11_method_6_code 66 = .ok (.lconst 0, 1) := by decide +kernel
theorem zd_210_67 : decode prog_11_method_6_code 67 = .ok (.invokevirtual 75, 3) := by decide +kernel
theorem zd_210_70 : decode prog_11_method_6_code 70 = .ok (.istore 4, 2) := by decide +kernel
theorem zd_210_72 : decode prog_11_method_6_code 72 = .ok (.aload_n 0, 1) := by decide +kernel
theorem zd_210_73 : decode prog_11_method_6_code 73 = .ok (.getfield 9, 3) := by decide +kernel
theorem zd_210_76 : decode prog_11_method_6_code 76 = .ok (.iload_n 1, 1) := by decide +kernel
theorem zd_210_77 : decode prog_11_method_6_code 77 = .ok (.iload 4, 2) := by decide +kernel
theorem zd_210_79 : decode prog_11_method_6_code 79 = .ok (.bipush 93, 2) := by decide +kernel
theorem zd_210_81 : decode prog_11_method_6_code 81 = .ok (.if_icmp .lt 16, 3) := by decide +kernel
theorem zd_210_84 : decode prog_11_method_6_code 84 = .ok (.iload 4, 2) := by decide +kernel
theorem zd_210_86 : decode prog_11_method_6_code 86 = .ok (.sipush 157, 3) := by decide +kernel
theorem zd_210_89 : decode prog_11_method_6_code 89 = .ok (.if_icmp .ge 8, 3) := by decide +kernel
theorem zd_210_92 : decode prog_11_method_6_code 92 = .ok (.bipush 6, 2) := by decide +kernel
theorem zd_210_94 : decode prog_11_method_6_code 94 = .ok (.goto 4, 3) := by decide +kernel
theorem zd_210_98 : decode prog_11_method_6_code 98 = .ok (.iastore, 1) := by decide +kernel
theorem zd_210_99 : decode prog_11_method_6_code 99 = .ok (.aload_n 0, 1) := by decide +kernel
theorem zd_210_100 : decode prog_11_method_6_code 100 = .ok (.getfield 15, 3) := by decide +kernel
theorem zd_210_103 : decode prog_11_method_6_code 103 = .ok (.iload_n 1, 1) := by decide +kernel
theorem zd_210_104 : decode prog_11_method_6_code 104 = .ok (.iload 4, 2) := by decide +kernel
theorem zd_210_106 : decode prog_11_method_6_code 106 = .ok (.bipush 93, 2) := by decide +kernel
theorem zd_210_108 : decode prog_11_method_6_code 108 = .ok (.isub, 1) := by decide +kernel
theorem zd_210_109 : decode prog_11_method_6_code 109 = .ok (.bipush 31, 2) := by decide +kernel
theorem zd_210_111 : decode prog_11_method_6_code 111 = .ok (.iand, 1) := by decide +kernel
theorem zd_210_112 : decode prog_11_method_6_code 112 = .ok (.iastore, 1) := by decide +kernel
theorem zd_210_113 : decode prog_11_method_6_code 113 = .ok (.iload_n 3, 1) := by decide +kernel
theorem zd_211_0 : decode prog_11_method_5_code 0 = .ok (.aload_n 0, 1) := by decide +kernel
theorem zd_211_1 : decode prog_11_method_5_code 1 = .ok (.iload_n 2, 1) := by decide +kernel
theorem zd_211_2 : decode prog_11_method_5_code 2 = .ok (.invokevirtual 65, 3) := by decide +kernel
theorem zd_211_5 : decode prog_11_method_5_code 5 = .ok (.istore_n 3, 1) := by decide +kernel
theorem zd_211_6 : decode prog_11_method_5_code 6 = .ok (.aload_n 0, 1) := by decide +kernel
theorem zd_211_7 : decode prog_11_method_5_code 7 = .ok (.getfield 32, 3) := by decide +kernel
theorem zd_211_10 : decode prog_11_method_5_code 10 = .ok (.iload_n 3, 1) := by decide +kernel
theorem zd_211_11 : decode prog_11_method_5_code 11 = .ok (.iconst 1, 1) := by decide +kernel
theorem zd_211_12 : decode prog_11_method_5_code 12 = .ok (.isub, 1) := by decide +kernel
theorem zd_211_13 : decode prog_11_method_5_code 13 = .ok (.baload, 1) := by decide +kernel
theorem zd_211_14 : decode prog_11_method_5_code 14 = .ok (.istore 4, 2) := by decide +kernel
theorem zd_211_16 : decode prog_11_method_5_code 16 = .ok (.aload_n 0, 1) := by decide +kernel
theorem zd_211_17 : decode prog_11_method_5_code 17 = .ok (.getfield 21, 3) := by decide +kernel
theorem zd_211_20 : decode prog_11_method_5_code 20 = .ok (.iload_n 1, 1) := by decide +kernel
theorem zd_211_21 : decode prog_11_method_5_code 21 = .ok (.iload_n 3, 1) := by decide +kernel
theorem zd_211_22 : decode prog_11_method_5_code 22 = .ok (.iload_n 2, 1) := by decide +kernel
theorem zd_211_23 : decode prog_11_method_5_code 23 = .ok (.isub, 1) := by decide +kernel
theorem zd_211_24 : decode prog_11_method_5_code 24 = .ok (.i2l, 1) := by decide +kernel
theorem zd_211_25 : decode prog_11_method_5_code 25 = .ok (.lastore, 1) := by decide +kernel
theorem zd_211_26 : decode prog_11_method_5_code 26 = .ok (.iload_n 3, 1) := by decide +kernel
theorem zd_211_27 : decode prog_11_method_5_code 27 = .ok (.iload_n 2, 1) := by decide +kernel
theorem zd_211_28 : decode prog_11_method_5_code 28 = .ok (.isub, 1) := by decide +kernel
theorem zd_211_29 : decode prog_11_method_5_code 29 = .ok (.iconst 2, 1) := by decide +kernel
theorem zd_211_30 : decode prog_11_method_5_code 30 = .ok (.if_icmp .ne 52, 3) := by decide +kernel
theorem zd_211_33 : decode prog_11_method_5_code 33 = .ok (.iload 4, 2) := by decide +kernel
theorem zd_211_35 : decode prog_11_method_5_code 35 = .ok (.bipush 98, 2) := by decide +kernel
theorem zd_211_37 : decode prog_11_method_5_code 37 = .ok (.if_icmp .eq 10, 3) := by decide +kernel
theorem zd_211_40 : decode prog_11_method_5_code 40 = .ok (.iload 4, 2) := by decide +kernel
theorem zd_211_42 : decode prog_11_method_5_code 42 = .ok (.bipush 102, 2) := by decide +kernel
theorem zd_211_44 : decode prog_11_method_5_code 44 = .ok (.if_icmp .ne 38, 3) := by decide +kernel
theorem zd_211_82 : decode prog_11_method_5_code 82 = .ok (.iload_n 3, 1) := by decide +kernel
theorem zd_211_83 : decode prog_11_method_5_code 83 = .ok (.iload_n 2, 1) := by decide +kernel
theorem zd_211_84 : decode prog_11_method_5_code 84 = .ok (.isub, 1) := by decide +kernel
theorem zd_211_85 : decode prog_11_method_5_code 85 = .ok (.iconst 2, 1) := by decide +kernel
theorem zd_211_86 : decode prog_11_method_5_code 86 = .ok (.if_icmp .le 31, 3) := by decide +kernel
theorem zd_211_117 : decode prog_11_method_5_code 117 = .ok (.iconst 0, 1) := by decide +kernel
theorem zd_211_118 : decode prog_11_method_5_code 118 = .ok (.istore 5, 2) := by decide +kernel
theorem zd_211_120 : decode prog_11_method_5_code 120 = .ok (.lconst 0, 1) := by decide +kernel
theorem zd_211_121 : decode prog_11_method_5_code 121 = .ok (.lstore 6, 2) := by decide +kernel
theorem zd_211_123 : decode prog_11_method_5_code 123 = .ok (.aload_n 0, 1) := by decide +kernel
theorem zd_211_124 : decode prog_11_method_5_code 124 = .ok (.getfield 9, 3) := by decide +kernel
theorem zd_211_127 : decode prog_11_method_5_code 127 = .ok (.iload_n 1, 1) := by decide +kernel
theorem zd_211_128 : decode prog_11_method_5_code 128 = .ok (.iload_n 3, 1) := by decide +kernel
theorem zd_211_129 : decode prog_11_method_5_code 129 = .ok (.iload_n 2, 1) := by decide +kernel
theorem zd_211_130 : decode prog_11_method_5_code 130 = .ok (.isub, 1) := by decide +kernel
theorem zd_211_131 : decode prog_11_method_5_code 131 = .ok (.bipush 10, 2) := by decide +kernel
theorem zd_211_133 : decode prog_11_method_5_code 133 = .ok (.if_icmp .le 7, 3) := by decide +kernel
theorem zd_211_140 : decode prog_11_method_5_code 140 = .ok (.iconst 3, 1) := by decide +kernel
theorem zd_211_141 : decode prog_11_method_5_code 141 = .ok (.iastore, 1) := by decide +kernel
theorem zd_211_142 : decode prog_11_method_5_code 142 = .ok (.iload 5, 2) := by decide +kernel
theorem zd_211_144 : decode prog_11_method_5_code 144 = .ok (.ifCond .eq 9, 3) := by decide +kernel
theorem zd_211_153 : decode prog_11_method_5_code 153 = .ok (.iload_n 2, 1) := by decide +kernel
theorem zd_211_154 : decode prog_11_method_5_code 154 = .ok (.istore 8, 2) := by decide +kernel
theorem zd_211_156 : decode prog_11_method_5_code 156 = .ok (.iload 8, 2) := by decide +kernel
theorem zd_211_158 : decode prog_11_method_5_code 158 = .ok (.iload_n 3, 1) := by decide +kernel
theorem zd_211_159 : decode prog_11_method_5_code 159 = .ok (.if_icmp .ge 114, 3) := by decide +kernel
theorem zd_211_162 : decode prog_11_method_5_code 162 = .ok (.aload_n 0, 1) := by decide +kernel
theorem zd_211_163 : decode prog_11_method_5_code 163 = .ok (.getfield 9, 3) := by decide +kernel
theorem zd_211_166 : decode prog_11_method_5_code 166 = .ok (.iload_n 1, 1) := by decide +kernel
theorem zd_211_167 : decode prog_11_method_5_code 167 = .ok (.iaload, 1) := by decide +kernel
theorem zd_211_168 : decode prog_11_method_5_code 168 = .ok (.iconst 3, 1) := by decide +kernel
theorem zd_211_169 : decode prog_11_method_5_code 169 = .ok (.if_icmp .ne 104, 3) := by decide +kernel
theorem zd_211_172 : decode prog_11_method_5_code 172 = .ok (.aload_n 0, 1) := by decide +kernel
theorem zd_211_173 : decode prog_11_method_5_code 173 = .ok (.getfield 32, 3) := by decide +kernel
