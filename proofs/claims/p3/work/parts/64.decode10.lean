/-! decode rows, by program -/
theorem zd_202_69 : decode prog_14_method_176_code 69 = .ok (.iconst 0, 1) := by decide +kernel
theorem zd_202_70 : decode prog_14_method_176_code 70 = .ok (.istore_n 2, 1) := by decide +kernel
theorem zd_202_71 : decode prog_14_method_176_code 71 = .ok (.iload_n 2, 1) := by decide +kernel
theorem zd_202_72 : decode prog_14_method_176_code 72 = .ok (.aload_n 0, 1) := by decide +kernel
theorem zd_202_73 : decode prog_14_method_176_code 73 = .ok (.getfield 1275, 3) := by decide +kernel
theorem zd_202_76 : decode prog_14_method_176_code 76 = .ok (.if_icmp .ge 47, 3) := by decide +kernel
theorem zd_202_79 : decode prog_14_method_176_code 79 = .ok (.aload_n 0, 1) := by decide +kernel
theorem zd_202_80 : decode prog_14_method_176_code 80 = .ok (.getfield 69, 3) := by decide +kernel
theorem zd_202_83 : decode prog_14_method_176_code 83 = .ok (.aload_n 0, 1) := by decide +kernel
theorem zd_202_84 : decode prog_14_method_176_code 84 = .ok (.getfield 449, 3) := by decide +kernel
theorem zd_202_87 : decode prog_14_method_176_code 87 = .ok (.aload_n 0, 1) := by decide +kernel
theorem zd_202_88 : decode prog_14_method_176_code 88 = .ok (.getfield 380, 3) := by decide +kernel
theorem zd_202_91 : decode prog_14_method_176_code 91 = .ok (.iload_n 2, 1) := by decide +kernel
theorem zd_202_92 : decode prog_14_method_176_code 92 = .ok (.iaload, 1) := by decide +kernel
theorem zd_202_93 : decode prog_14_method_176_code 93 = .ok (.iaload, 1) := by decide +kernel
theorem zd_202_94 : decode prog_14_method_176_code 94 = .ok (.aload_n 0, 1) := by decide +kernel
theorem zd_202_95 : decode prog_14_method_176_code 95 = .ok (.getfield 377, 3) := by decide +kernel
theorem zd_202_98 : decode prog_14_method_176_code 98 = .ok (.iload_n 2, 1) := by decide +kernel
theorem zd_202_99 : decode prog_14_method_176_code 99 = .ok (.iaload, 1) := by decide +kernel
theorem zd_202_100 : decode prog_14_method_176_code 100 = .ok (.i2b, 1) := by decide +kernel
theorem zd_202_101 : decode prog_14_method_176_code 101 = .ok (.bastore, 1) := by decide +kernel
theorem zd_202_102 : decode prog_14_method_176_code 102 = .ok (.aload_n 0, 1) := by decide +kernel
theorem zd_202_103 : decode prog_14_method_176_code 103 = .ok (.getfield 449, 3) := by decide +kernel
theorem zd_202_106 : decode prog_14_method_176_code 106 = .ok (.aload_n 0, 1) := by decide +kernel
theorem zd_202_107 : decode prog_14_method_176_code 107 = .ok (.getfield 380, 3) := by decide +kernel
theorem zd_202_110 : decode prog_14_method_176_code 110 = .ok (.iload_n 2, 1) := by decide +kernel
theorem zd_202_111 : decode prog_14_method_176_code 111 = .ok (.iaload, 1) := by decide +kernel
theorem zd_202_112 : decode prog_14_method_176_code 112 = .ok (.dup2, 1) := by decide +kernel
theorem zd_202_113 : decode prog_14_method_176_code 113 = .ok (.iaload, 1) := by decide +kernel
theorem zd_202_114 : decode prog_14_method_176_code 114 = .ok (.iconst 1, 1) := by decide +kernel
theorem zd_202_115 : decode prog_14_method_176_code 115 = .ok (.iadd, 1) := by decide +kernel
theorem zd_202_116 : decode prog_14_method_176_code 116 = .ok (.iastore, 1) := by decide +kernel
theorem zd_202_117 : decode prog_14_method_176_code 117 = .ok (.iinc 2 1, 3) := by decide +kernel
theorem zd_202_120 : decode prog_14_method_176_code 120 = .ok (.goto (-49), 3) := by decide +kernel
theorem zd_203_0 : decode prog_14_method_178_code 0 = .ok (.iconst 0, 1) := by decide +kernel
theorem zd_203_1 : decode prog_14_method_178_code 1 = .ok (.istore_n 1, 1) := by decide +kernel
theorem zd_203_2 : decode prog_14_method_178_code 2 = .ok (.iload_n 1, 1) := by decide +kernel
theorem zd_203_3 : decode prog_14_method_178_code 3 = .ok (.aload_n 0, 1) := by decide +kernel
theorem zd_203_4 : decode prog_14_method_178_code 4 = .ok (.getfield 1281, 3) := by decide +kernel
theorem zd_203_7 : decode prog_14_method_178_code 7 = .ok (.if_icmp .ge 21, 3) := by decide +kernel
theorem zd_203_10 : decode prog_14_method_178_code 10 = .ok (.aload_n 0, 1) := by decide +kernel
theorem zd_203_11 : decode prog_14_method_178_code 11 = .ok (.getfield 1183, 3) := by decide +kernel
theorem zd_203_14 : decode prog_14_method_178_code 14 = .ok (.ifCond .ne 14, 3) := by decide +kernel
theorem zd_203_17 : decode prog_14_method_178_code 17 = .ok (.aload_n 0, 1) := by decide +kernel
theorem zd_203_18 : decode prog_14_method_178_code 18 = .ok (.iload_n 1, 1) := by decide +kernel
theorem zd_203_19 : decode prog_14_method_178_code 19 = .ok (.invokevirtual 1519, 3) := by decide +kernel
theorem zd_203_22 : decode prog_14_method_178_code 22 = .ok (.iinc 1 1, 3) := by decide +kernel
theorem zd_203_25 : decode prog_14_method_178_code 25 = .ok (.goto (-23), 3) := by decide +kernel
theorem zd_203_28 : decode prog_14_method_178_code 28 = .ok (.iconst 0, 1) := by decide +kernel
theorem zd_203_29 : decode prog_14_method_178_code 29 = .ok (.istore_n 1, 1) := by decide +kernel
theorem zd_203_30 : decode prog_14_method_178_code 30 = .ok (.iload_n 1, 1) := by decide +kernel
theorem zd_203_31 : decode prog_14_method_178_code 31 = .ok (.aload_n 0, 1) := by decide +kernel
theorem zd_203_32 : decode prog_14_method_178_code 32 = .ok (.getfield 72, 3) := by decide +kernel
theorem zd_203_35 : decode prog_14_method_178_code 35 = .ok (.aload_n 0, 1) := by decide +kernel
theorem zd_203_36 : decode prog_14_method_178_code 36 = .ok (.getfield 1174, 3) := by decide +kernel
theorem zd_203_39 : decode prog_14_method_178_code 39 = .ok (.iaload, 1) := by decide +kernel
theorem zd_203_40 : decode prog_14_method_178_code 40 = .ok (.if_icmp .ge 67, 3) := by decide +kernel
theorem zd_203_43 : decode prog_14_method_178_code 43 = .ok (.sipush 600, 3) := by decide +kernel
theorem zd_203_46 : decode prog_14_method_178_code 46 = .ok (.aload_n 0, 1) := by decide +kernel
theorem zd_203_47 : decode prog_14_method_178_code 47 = .ok (.getfield 1174, 3) := by decide +kernel
theorem zd_203_50 : decode prog_14_method_178_code 50 = .ok (.imul, 1) := by decide +kernel
theorem zd_203_51 : decode prog_14_method_178_code 51 = .ok (.iload_n 1, 1) := by decide +kernel
theorem zd_203_52 : decode prog_14_method_178_code 52 = .ok (.iadd, 1) := by decide +kernel
theorem zd_203_53 : decode prog_14_method_178_code 53 = .ok (.istore_n 2, 1) := by decide +kernel
theorem zd_203_54 : decode prog_14_method_178_code 54 = .ok (.aload_n 0, 1) := by decide +kernel
theorem zd_203_55 : decode prog_14_method_178_code 55 = .ok (.aload_n 0, 1) := by decide +kernel
theorem zd_203_56 : decode prog_14_method_178_code 56 = .ok (.getfield 75, 3) := by decide +kernel
theorem zd_203_59 : decode prog_14_method_178_code 59 = .ok (.iload_n 2, 1) := by decide +kernel
theorem zd_203_60 : decode prog_14_method_178_code 60 = .ok (.iaload, 1) := by decide +kernel
theorem zd_203_61 : decode prog_14_method_178_code 61 = .ok (.invokevirtual 1398, 3) := by decide +kernel
theorem zd_203_64 : decode prog_14_method_178_code 64 = .ok (.istore_n 3, 1) := by decide +kernel
theorem zd_203_65 : decode prog_14_method_178_code 65 = .ok (.aload_n 0, 1) := by decide +kernel
theorem zd_203_66 : decode prog_14_method_178_code 66 = .ok (.getfield 87, 3) := by decide +kernel
theorem zd_203_69 : decode prog_14_method_178_code 69 = .ok (.iload_n 2, 1) := by decide +kernel
theorem zd_203_70 : decode prog_14_method_178_code 70 = .ok (.aload_n 0, 1) := by decide +kernel
theorem zd_203_71 : decode prog_14_method_178_code 71 = .ok (.aload_n 0, 1) := by decide +kernel
theorem zd_203_72 : decode prog_14_method_178_code 72 = .ok (.getfield 75, 3) := by decide +kernel
theorem zd_203_75 : decode prog_14_method_178_code 75 = .ok (.iload_n 2, 1) := by decide +kernel
theorem zd_203_76 : decode prog_14_method_178_code 76 = .ok (.iaload, 1) := by decide +kernel
theorem zd_203_77 : decode prog_14_method_178_code 77 = .ok (.invokevirtual 1395, 3) := by decide +kernel
theorem zd_203_80 : decode prog_14_method_178_code 80 = .ok (.bastore, 1) := by decide +kernel
theorem zd_203_81 : decode prog_14_method_178_code 81 = .ok (.aload_n 0, 1) := by decide +kernel
theorem zd_203_82 : decode prog_14_method_178_code 82 = .ok (.getfield 90, 3) := by decide +kernel
theorem zd_203_85 : decode prog_14_method_178_code 85 = .ok (.iload_n 2, 1) := by decide +kernel
theorem zd_203_86 : decode prog_14_method_178_code 86 = .ok (.iload_n 3, 1) := by decide +kernel
theorem zd_203_87 : decode prog_14_method_178_code 87 = .ok (.ifCond .ge 7, 3) := by decide +kernel
theorem zd_203_90 : decode prog_14_method_178_code 90 = .ok (.iconst 0, 1) := by decide +kernel
theorem zd_203_91 : decode prog_14_method_178_code 91 = .ok (.goto 9, 3) := by decide +kernel
theorem zd_203_94 : decode prog_14_method_178_code 94 = .ok (.aload_n 0, 1) := by decide +kernel
theorem zd_203_95 : decode prog_14_method_178_code 95 = .ok (.getfield 374, 3) := by decide +kernel
theorem zd_203_98 : decode prog_14_method_178_code 98 = .ok (.iload_n 3, 1) := by decide +kernel
theorem zd_203_99 : decode prog_14_method_178_code 99 = .ok (.iaload, 1) := by decide +kernel
theorem zd_203_100 : decode prog_14_method_178_code 100 = .ok (.iastore, 1) := by decide +kernel
theorem zd_203_101 : decode prog_14_method_178_code 101 = .ok (.iinc 1 1, 3) := by decide +kernel
theorem zd_203_104 : decode prog_14_method_178_code 104 = .ok (.goto (-74), 3) := by decide +kernel
theorem zd_204_0 : decode prog_14_method_190_code 0 = .ok (.iload_n 1, 1) := by decide +kernel
theorem zd_204_1 : decode prog_14_method_190_code 1 = .ok (.aload_n 0, 1) := by decide +kernel
theorem zd_204_2 : decode prog_14_method_190_code 2 = .ok (.getfield 525, 3) := by decide +kernel
theorem zd_204_5 : decode prog_14_method_190_code 5 = .ok (.if_icmp .ge 7, 3) := by decide +kernel
theorem zd_204_8 : decode prog_14_method_190_code 8 = .ok (.iload_n 1, 1) := by decide +kernel
theorem zd_204_9 : decode prog_14_method_190_code 9 = .ok (.goto 5, 3) := by decide +kernel
theorem zd_204_12 : decode prog_14_method_190_code 12 = .ok (.bipush 6, 2) := by decide +kernel
theorem zd_205_0 : decode prog_14_method_192_code 0 = .ok (.aload_n 0, 1) := by decide +kernel
theorem zd_205_1 : decode prog_14_method_192_code 1 = .ok (.getfield 455, 3) := by decide +kernel
theorem zd_205_4 : decode prog_14_method_192_code 4 = .ok (.iload_n 1, 1) := by decide +kernel
theorem zd_205_5 : decode prog_14_method_192_code 5 = .ok (.iaload, 1) := by decide +kernel
theorem zd_205_6 : decode prog_14_method_192_code 6 = .ok (.iconst 1, 1) := by decide +kernel
theorem zd_205_7 : decode prog_14_method_192_code 7 = .ok (.isub, 1) := by decide +kernel
theorem zd_206_0 : decode prog_14_method_197_code 0 = .ok (.aload_n 0, 1) := by decide +kernel
theorem zd_206_1 : decode prog_14_method_197_code 1 = .ok (.getfield 65, 3) := by decide +kernel
theorem zd_206_4 : decode prog_14_method_197_code 4 = .ok (.bipush 64, 2) := by decide +kernel
theorem zd_206_6 : decode prog_14_method_197_code 6 = .ok (.iload_n 1, 1) := by decide +kernel
theorem zd_206_7 : decode prog_14_method_197_code 7 = .ok (.sipush 3000, 3) := by decide +kernel
theorem zd_206_10 : decode prog_14_method_197_code 10 = .ok (.idiv, 1) := by decide +kernel
theorem zd_206_11 : decode prog_14_method_197_code 11 = .ok (.imul, 1) := by decide +kernel
theorem zd_206_12 : decode prog_14_method_197_code 12 = .ok (.aload_n 0, 1) := by decide +kernel
theorem zd_206_13 : decode prog_14_method_197_code 13 = .ok (.getfield 96, 3) := by decide +kernel
theorem zd_206_16 : decode prog_14_method_197_code 16 = .ok (.iload_n 1, 1) := by decide +kernel
theorem zd_206_17 : decode prog_14_method_197_code 17 = .ok (.iaload, 1) := by decide +kernel
theorem zd_206_18 : decode prog_14_method_197_code 18 = .ok (.iadd, 1) := by decide +kernel
theorem zd_206_19 : decode prog_14_method_197_code 19 = .ok (.baload, 1) := by decide +kernel
theorem zd_207_0 : decode prog_14_method_193_code 0 = .ok (.aload_n 0, 1) := by decide +kernel
theorem zd_207_1 : decode prog_14_method_193_code 1 = .ok (.getfield 105, 3) := by decide +kernel
theorem zd_207_4 : decode prog_14_method_193_code 4 = .ok (.iload_n 1, 1) := by decide +kernel
theorem zd_207_5 : decode prog_14_method_193_code 5 = .ok (.iaload, 1) := by decide +kernel
theorem zd_207_6 : decode prog_14_method_193_code 6 = .ok (.ifCond .lt 19, 3) := by decide +kernel
theorem zd_207_9 : decode prog_14_method_193_code 9 = .ok (.bipush 64, 2) := by decide +kernel
theorem zd_207_11 : decode prog_14_method_193_code 11 = .ok (.iload_n 1, 1) := by decide +kernel
theorem zd_207_12 : decode prog_14_method_193_code 12 = .ok (.sipush 3000, 3) := by decide +kernel
theorem zd_207_15 : decode prog_14_method_193_code 15 = .ok (.idiv, 1) := by decide +kernel
theorem zd_207_16 : decode prog_14_method_193_code 16 = .ok (.imul, 1) := by decide +kernel
theorem zd_207_17 : decode prog_14_method_193_code 17 = .ok (.aload_n 0, 1) := by decide +kernel
theorem zd_207_18 : decode prog_14_method_193_code 18 = .ok (.getfield 105, 3) := by decide +kernel
theorem zd_207_21 : decode prog_14_method_193_code 21 = .ok (.iload_n 1, 1) := by decide +kernel
theorem zd_207_22 : decode prog_14_method_193_code 22 = .ok (.iaload, 1) := by decide +kernel
theorem zd_207_23 : decode prog_14_method_193_code 23 = .ok (.iadd, 1) := by decide +kernel
theorem zd_207_25 : decode prog_14_method_193_code 25 = .ok (.aload_n 0, 1) := by decide +kernel
theorem zd_207_26 : decode prog_14_method_193_code 26 = .ok (.aload_n 0, 1) := by decide +kernel
theorem zd_207_27 : decode prog_14_method_193_code 27 = .ok (.getfield 111, 3) := by decide +kernel
theorem zd_207_30 : decode prog_14_method_193_code 30 = .ok (.iload_n 1, 1) := by decide +kernel
theorem zd_207_31 : decode prog_14_method_193_code 31 = .ok (.iaload, 1) := by decide +kernel
theorem zd_207_32 : decode prog_14_method_193_code 32 = .ok (.invokevirtual 1585, 3) := by decide +kernel
theorem zd_207_35 : decode prog_14_method_193_code 35 = .ok (.istore_n 2, 1) := by decide +kernel
theorem zd_207_36 : decode prog_14_method_193_code 36 = .ok (.iload_n 2, 1) := by decide +kernel
theorem zd_207_37 : decode prog_14_method_193_code 37 = .ok (.ifCond .ge 7, 3) := by decide +kernel
theorem zd_207_40 : decode prog_14_method_193_code 40 = .ok (.iconst (-1), 1) := by decide +kernel
theorem zd_207_41 : decode prog_14_method_193_code 41 = .ok (.goto 18, 3) := by decide +kernel
theorem zd_207_44 : decode prog_14_method_193_code 44 = .ok (.bipush 64, 2) := by decide +kernel
theorem zd_207_46 : decode prog_14_method_193_code 46 = .ok (.iload_n 2, 1) := by decide +kernel
theorem zd_207_47 : decode prog_14_method_193_code 47 = .ok (.sipush 600, 3) := by decide +kernel
theorem zd_207_50 : decode prog_14_method_193_code 50 = .ok (.idiv, 1) := by decide +kernel
theorem zd_207_51 : decode prog_14_method_193_code 51 = .ok (.imul, 1) := by decide +kernel
theorem zd_207_52 : decode prog_14_method_193_code 52 = .ok (.aload_n 0, 1) := by decide +kernel
theorem zd_207_53 : decode prog_14_method_193_code 53 = .ok (.getfield 78, 3) := by decide +kernel
theorem zd_207_56 : decode prog_14_method_193_code 56 = .ok (.iload_n 2, 1) := by decide +kernel
theorem zd_207_57 : decode prog_14_method_193_code 57 = .ok (.iaload, 1) := by decide +kernel
theorem zd_207_58 : decode prog_14_method_193_code 58 = .ok (.iadd, 1) := by decide +kernel
theorem zd_208_0 : decode prog_14_method_203_code 0 = .ok (.bipush 64, 2) := by decide +kernel
theorem zd_208_2 : decode prog_14_method_203_code 2 = .ok (.iload_n 1, 1) := by decide +kernel
theorem zd_208_3 : decode prog_14_method_203_code 3 = .ok (.sipush 3000, 3) := by decide +kernel
theorem zd_208_6 : decode prog_14_method_203_code 6 = .ok (.idiv, 1) := by decide +kernel
theorem zd_208_7 : decode prog_14_method_203_code 7 = .ok (.imul, 1) := by decide +kernel
theorem zd_208_8 : decode prog_14_method_203_code 8 = .ok (.aload_n 0, 1) := by decide +kernel
theorem zd_208_9 : decode prog_14_method_203_code 9 = .ok (.getfield 96, 3) := by decide +kernel
theorem zd_208_12 : decode prog_14_method_203_code 12 = .ok (.iload_n 1, 1) := by decide +kernel
theorem zd_208_13 : decode prog_14_method_203_code 13 = .ok (.iaload, 1) := by decide +kernel
theorem zd_208_14 : decode prog_14_method_203_code 14 = .ok (.iadd, 1) := by decide +kernel
theorem zd_208_15 : decode prog_14_method_203_code 15 = .ok (.istore_n 2, 1) := by decide +kernel
theorem zd_208_16 : decode prog_14_method_203_code 16 = .ok (.aload_n 0, 1) := by decide +kernel
theorem zd_208_17 : decode prog_14_method_203_code 17 = .ok (.getfield 62, 3) := by decide +kernel
theorem zd_208_20 : decode prog_14_method_203_code 20 = .ok (.iload_n 2, 1) := by decide +kernel
theorem zd_208_21 : decode prog_14_method_203_code 21 = .ok (.iaload, 1) := by decide +kernel
theorem zd_208_22 : decode prog_14_method_203_code 22 = .ok (.aload_n 0, 1) := by decide +kernel
theorem zd_208_23 : decode prog_14_method_203_code 23 = .ok (.getfield 99, 3) := by decide +kernel
theorem zd_208_26 : decode prog_14_method_203_code 26 = .ok (.iload_n 1, 1) := by decide +kernel
theorem zd_208_27 : decode prog_14_method_203_code 27 = .ok (.iaload, 1) := by decide +kernel
theorem zd_208_28 : decode prog_14_method_203_code 28 = .ok (.iadd, 1) := by decide +kernel
theorem zd_208_29 : decode prog_14_method_203_code 29 = .ok (.istore_n 3, 1) := by decide +kernel
theorem zd_208_30 : decode prog_14_method_203_code 30 = .ok (.iload_n 3, 1) := by decide +kernel
theorem zd_208_31 : decode prog_14_method_203_code 31 = .ok (.aload_n 0, 1) := by decide +kernel
theorem zd_208_32 : decode prog_14_method_203_code 32 = .ok (.getfield 1597, 3) := by decide +kernel
theorem zd_208_35 : decode prog_14_method_203_code 35 = .ok (.isub, 1) := by decide +kernel
theorem zd_208_36 : decode prog_14_method_203_code 36 = .ok (.istore 4, 2) := by decide +kernel
theorem zd_208_38 : decode prog_14_method_203_code 38 = .ok (.aload_n 0, 1) := by decide +kernel
theorem zd_208_39 : decode prog_14_method_203_code 39 = .ok (.iload_n 1, 1) := by decide +kernel
theorem zd_208_40 : decode prog_14_method_203_code 40 = .ok (.invokevirtual 1600, 3) := by decide +kernel
theorem zd_208_43 : decode prog_14_method_203_code 43 = .ok (.istore 5, 2) := by decide +kernel
theorem zd_208_45 : decode prog_14_method_203_code 45 = .ok (.aload_n 0, 1) := by decide +kernel
theorem zd_208_46 : decode prog_14_method_203_code 46 = .ok (.getfield 102, 3) := by decide +kernel
theorem zd_208_49 : decode prog_14_method_203_code 49 = .ok (.iload_n 1, 1) := by decide +kernel
theorem zd_208_50 : decode prog_14_method_203_code 50 = .ok (.iaload, 1) := by decide +kernel
theorem zd_208_51 : decode prog_14_method_203_code 51 = .ok (.tableswitch 148 0 3 #[29, 52, 69, 79], 29) := by decide +kernel
theorem zd_208_80 : decode prog_14_method_203_code 80 = .ok (.aload_n 0, 1) := by decide +kernel
theorem zd_208_81 : decode prog_14_method_203_code 81 = .ok (.iload 4, 2) := by decide +kernel
theorem zd_208_83 : decode prog_14_method_203_code 83 = .ok (.iload 5, 2) := by decide +kernel
theorem zd_208_85 : decode prog_14_method_203_code 85 = .ok (.invokevirtual 1603, 3) := by decide +kernel
theorem zd_208_88 : decode prog_14_method_203_code 88 = .ok (.aload_n 0, 1) := by decide +kernel
theorem zd_208_89 : decode prog_14_method_203_code 89 = .ok (.iload 4, 2) := by decide +kernel
theorem zd_208_91 : decode prog_14_method_203_code 91 = .ok (.iconst 2, 1) := by decide +kernel
theorem zd_208_92 : decode prog_14_method_203_code 92 = .ok (.iadd, 1) := by decide +kernel
theorem zd_208_93 : decode prog_14_method_203_code 93 = .ok (.iload 5, 2) := by decide +kernel
theorem zd_208_95 : decode prog_14_method_203_code 95 = .ok (.bipush 16, 2) := by decide +kernel
theorem zd_208_97 : decode prog_14_method_203_code 97 = .ok (.ishr, 1) := by decide +kernel
theorem zd_208_98 : decode prog_14_method_203_code 98 = .ok (.invokevirtual 1603, 3) := by decide +kernel
theorem zd_208_101 : decode prog_14_method_203_code 101 = .ok (.iconst 1, 1) := by decide +kernel
theorem zd_208_103 : decode prog_14_method_203_code 103 = .ok (.aload_n 0, 1) := by decide +kernel
theorem zd_208_104 : decode prog_14_method_203_code 104 = .ok (.iload 4, 2) := by decide +kernel
theorem zd_208_106 : decode prog_14_method_203_code 106 = .ok (.iload 5, 2) := by decide +kernel
theorem zd_208_108 : decode prog_14_method_203_code 108 = .ok (.ldc_w 1365, 3) := by decide +kernel
theorem zd_208_111 : decode prog_14_method_203_code 111 = .ok (.iadd, 1) := by decide +kernel
theorem zd_208_112 : decode prog_14_method_203_code 112 = .ok (.bipush 16, 2) := by decide +kernel
theorem zd_208_114 : decode prog_14_method_203_code 114 = .ok (.iushr, 1) := by decide +kernel
theorem zd_208_115 : decode prog_14_method_203_code 115 = .ok (.invokevirtual 1603, 3) := by decide +kernel
theorem zd_208_118 : decode prog_14_method_203_code 118 = .ok (.iconst 1, 1) := by decide +kernel
theorem zd_208_120 : decode prog_14_method_203_code 120 = .ok (.aload_n 0, 1) := by decide +kernel
theorem zd_208_121 : decode prog_14_method_203_code 121 = .ok (.iload 4, 2) := by decide +kernel
theorem zd_208_123 : decode prog_14_method_203_code 123 = .ok (.iload 5, 2) := by decide +kernel
theorem zd_208_125 : decode prog_14_method_203_code 125 = .ok (.invokevirtual 1603, 3) := by decide +kernel
theorem zd_208_128 : decode prog_14_method_203_code 128 = .ok (.iconst 1, 1) := by decide +kernel
theorem zd_208_130 : decode prog_14_method_203_code 130 = .ok (.aload_n 0, 1) := by decide +kernel
theorem zd_208_131 : decode prog_14_method_203_code 131 = .ok (.iload 4, 2) := by decide +kernel
theorem zd_208_133 : decode prog_14_method_203_code 133 = .ok (.iload 5, 2) := by decide +kernel
theorem zd_208_135 : decode prog_14_method_203_code 135 = .ok (.iconst 2, 1) := by decide +kernel
theorem zd_208_136 : decode prog_14_method_203_code 136 = .ok (.ishr, 1) := by decide +kernel
theorem zd_208_137 : decode prog_14_method_203_code 137 = .ok (.invokevirtual 1603, 3) := by decide +kernel
theorem zd_208_140 : decode prog_14_method_203_code 140 = .ok (.aload_n 0, 1) := by decide +kernel
theorem zd_208_141 : decode prog_14_method_203_code 141 = .ok (.getfield 452, 3) := by decide +kernel
theorem zd_208_144 : decode prog_14_method_203_code 144 = .ok (.iload 4, 2) := by decide +kernel
theorem zd_208_146 : decode prog_14_method_203_code 146 = .ok (.iconst 2, 1) := by decide +kernel
theorem zd_208_147 : decode prog_14_method_203_code 147 = .ok (.iadd, 1) := by decide +kernel
theorem zd_208_148 : decode prog_14_method_203_code 148 = .ok (.iload 5, 2) := by decide +kernel
theorem zd_208_150 : decode prog_14_method_203_code 150 = .ok (.bipush 18, 2) := by decide +kernel
theorem zd_208_152 : decode prog_14_method_203_code 152 = .ok (.ishr, 1) := by decide +kernel
theorem zd_208_153 : decode prog_14_method_203_code 153 = .ok (.i2b, 1) := by decide +kernel
theorem zd_208_154 : decode prog_14_method_203_code 154 = .ok (.bastore, 1) := by decide +kernel
theorem zd_208_155 : decode prog_14_method_203_code 155 = .ok (.aload_n 0, 1) := by decide +kernel
theorem zd_208_156 : decode prog_14_method_203_code 156 = .ok (.getfield 452, 3) := by decide +kernel
theorem zd_208_159 : decode prog_14_method_203_code 159 = .ok (.iload 4, 2) := by decide +kernel
theorem zd_208_161 : decode prog_14_method_203_code 161 = .ok (.iconst 3, 1) := by decide +kernel
theorem zd_208_162 : decode prog_14_method_203_code 162 = .ok (.iadd, 1) := by decide +kernel
theorem zd_208_163 : decode prog_14_method_203_code 163 = .ok (.aload_n 0, 1) := by decide +kernel
theorem zd_208_164 : decode prog_14_method_203_code 164 = .ok (.getfield 452, 3) := by decide +kernel
theorem zd_208_167 : decode prog_14_method_203_code 167 = .ok (.iload 4, 2) := by decide +kernel
theorem zd_208_169 : decode prog_14_method_203_code 169 = .ok (.iconst 3, 1) := by decide +kernel
theorem zd_208_170 : decode prog_14_method_203_code 170 = .ok (.iadd, 1) := by decide +kernel
theorem zd_208_171 : decode prog_14_method_203_code 171 = .ok (.baload, 1) := by decide +kernel
theorem zd_208_172 : decode prog_14_method_203_code 172 = .ok (.sipush 252, 3) := by decide +kernel
theorem zd_208_175 : decode prog_14_method_203_code 175 = .ok (.iand, 1) := by decide +kernel
theorem zd_208_176 : decode prog_14_method_203_code 176 = .ok (.iload 5, 2) := by decide +kernel
theorem zd_208_178 : decode prog_14_method_203_code 178 = .ok (.bipush 26, 2) := by decide +kernel
theorem zd_208_180 : decode prog_14_method_203_code 180 = .ok (.ishr, 1) := by decide +kernel
theorem zd_208_181 : decode prog_14_method_203_code 181 = .ok (.iconst 3, 1) := by decide +kernel
theorem zd_208_182 : decode prog_14_method_203_code 182 = .ok (.iand, 1) := by decide +kernel
theorem zd_208_183 : decode prog_14_method_203_code 183 = .ok (.ior, 1) := by decide +kernel
theorem zd_208_184 : decode prog_14_method_203_code 184 = .ok (.i2b, 1) := by decide +kernel
theorem zd_208_185 : decode prog_14_method_203_code 185 = .ok (.bastore, 1) := by decide +kernel
theorem zd_208_186 : decode prog_14_method_203_code 186 = .ok (.iload 5, 2) := by decide +kernel
theorem zd_208_188 : decode prog_14_method_203_code 188 = .ok (.iconst 4, 1) := by decide +kernel
theorem zd_208_189 : decode prog_14_method_203_code 189 = .ok (.irem, 1) := by decide +kernel
theorem zd_208_190 : decode prog_14_method_203_code 190 = .ok (.ifCond .ne 7, 3) := by decide +kernel
theorem zd_208_193 : decode prog_14_method_203_code 193 = .ok (.iconst 1, 1) := by decide +kernel
theorem zd_208_194 : decode prog_14_method_203_code 194 = .ok (.goto 4, 3) := by decide +kernel
theorem zd_208_197 : decode prog_14_method_203_code 197 = .ok (.iconst 0, 1) := by decide +kernel
theorem zd_208_199 : decode prog_14_method_203_code 199 = .ok (.iload 5, 2) := by decide +kernel
theorem zd_208_201 : decode prog_14_method_203_code 201 = .ok (.iload_n 3, 1) := by decide +kernel
theorem zd_208_202 : decode prog_14_method_203_code 202 = .ok (.iconst 4, 1) := by decide +kernel
theorem zd_208_203 : decode prog_14_method_203_code 203 = .ok (.iadd, 1) := by decide +kernel
theorem zd_208_204 : decode prog_14_method_203_code 204 = .ok (.isub, 1) := by decide +kernel
theorem zd_208_205 : decode prog_14_method_203_code 205 = .ok (.istore 6, 2) := by decide +kernel
theorem zd_208_207 : decode prog_14_method_203_code 207 = .ok (.aload_n 0, 1) := by decide +kernel
theorem zd_208_208 : decode prog_14_method_203_code 208 = .ok (.iload 4, 2) := by decide +kernel
theorem zd_208_210 : decode prog_14_method_203_code 210 = .ok (.iload 6, 2) := by decide +kernel
theorem zd_208_212 : decode prog_14_method_203_code 212 = .ok (.iconst 4, 1) := by decide +kernel
theorem zd_208_213 : decode prog_14_method_203_code 213 = .ok (.idiv, 1) := by decide +kernel
theorem zd_208_214 : decode prog_14_method_203_code 214 = .ok (.invokevirtual 1603, 3) := by decide +kernel
theorem zd_208_217 : decode prog_14_method_203_code 217 = .ok (.iload 6, 2) := by decide +kernel
theorem zd_208_219 : decode prog_14_method_203_code 219 = .ok (.iconst 4, 1) := by decide +kernel
theorem zd_208_220 : decode prog_14_method_203_code 220 = .ok (.irem, 1) := by decide +kernel
theorem zd_208_221 : decode prog_14_method_203_code 221 = .ok (.ifCond .ne 23, 3) := by decide +kernel
theorem zd_208_224 : decode prog_14_method_203_code 224 = .ok (.iload 6, 2) := by decide +kernel
theorem zd_208_226 : decode prog_14_method_203_code 226 = .ok (.iconst 4, 1) := by decide +kernel
theorem zd_208_227 : decode prog_14_method_203_code 227 = .ok (.idiv, 1) := by decide +kernel
theorem zd_208_228 : decode prog_14_method_203_code 228 = .ok (.sipush (-32768), 3) := by decide +kernel
theorem zd_208_231 : decode prog_14_method_203_code 231 = .ok (.sipush 32767, 3) := by decide +kernel
theorem zd_208_234 : decode prog_14_method_203_code 234 = .ok (.invokestatic 504, 3) := by decide +kernel
theorem zd_208_237 : decode prog_14_method_203_code 237 = .ok (.ifCond .eq 7, 3) := by decide +kernel
theorem zd_208_240 : decode prog_14_method_203_code 240 = .ok (.iconst 1, 1) := by decide +kernel
theorem zd_208_241 : decode prog_14_method_203_code 241 = .ok (.goto 4, 3) := by decide +kernel
theorem zd_208_244 : decode prog_14_method_203_code 244 = .ok (.iconst 0, 1) := by decide +kernel
theorem zd_209_0 : decode prog_14_method_213_code 0 = .ok (.aload_n 0, 1) := by decide +kernel
theorem zd_209_1 : decode prog_14_method_213_code 1 = .ok (.iload_n 1, 1) := by decide +kernel
theorem zd_209_2 : decode prog_14_method_213_code 2 = .ok (.putfield 1656, 3) := by decide +kernel
theorem zd_209_5 : decode prog_14_method_213_code 5 = .ok (.aload_n 0, 1) := by decide +kernel
theorem zd_209_6 : decode prog_14_method_213_code 6 = .ok (.iload_n 2, 1) := by decide +kernel
theorem zd_209_7 : decode prog_14_method_213_code 7 = .ok (.putfield 1659, 3) := by decide +kernel
theorem zd_210_0 : decode prog_14_method_222_code 0 = .ok (.aload_n 0, 1) := by decide +kernel
theorem zd_210_1 : decode prog_14_method_222_code 1 = .ok (.getfield 458, 3) := by decide +kernel
theorem zd_210_4 : decode prog_14_method_222_code 4 = .ok (.iconst 2, 1) := by decide +kernel
theorem zd_210_5 : decode prog_14_method_222_code 5 = .ok (.iaload, 1) := by decide +kernel
theorem zd_210_6 : decode prog_14_method_222_code 6 = .ok (.bipush 10, 2) := by decide +kernel
theorem zd_210_8 : decode prog_14_method_222_code 8 = .ok (.if_icmp .ne 17, 3) := by decide +kernel
theorem zd_210_11 : decode prog_14_method_222_code 11 = .ok (.aload_n 0, 1) := by decide +kernel
theorem zd_210_12 : decode prog_14_method_222_code 12 = .ok (.iconst 1, 1) := by decide +kernel
theorem zd_210_13 : decode prog_14_method_222_code 13 = .ok (.aload_n 0, 1) := by decide +kernel
theorem zd_210_14 : decode prog_14_method_222_code 14 = .ok (.getfield 458, 3) := by decide +kernel
theorem zd_210_17 : decode prog_14_method_222_code 17 = .ok (.iconst 4, 1) := by decide +kernel
theorem zd_210_18 : decode prog_14_method_222_code 18 = .ok (.iaload, 1) := by decide +kernel
theorem zd_210_19 : decode prog_14_method_222_code 19 = .ok (.invokevirtual 1684, 3) := by decide +kernel
theorem zd_210_22 : decode prog_14_method_222_code 22 = .ok (.goto 132, 3) := by decide +kernel
theorem zd_210_25 : decode prog_14_method_222_code 25 = .ok (.aload_n 0, 1) := by decide +kernel
theorem zd_210_26 : decode prog_14_method_222_code 26 = .ok (.getfield 458, 3) := by decide +kernel
theorem zd_210_29 : decode prog_14_method_222_code 29 = .ok (.iconst 2, 1) := by decide +kernel
theorem zd_210_30 : decode prog_14_method_222_code 30 = .ok (.iaload, 1) := by decide +kernel
theorem zd_210_31 : decode prog_14_method_222_code 31 = .ok (.iconst 1, 1) := by decide +kernel
theorem zd_210_32 : decode prog_14_method_222_code 32 = .ok (.if_icmp .ne 41, 3) := by decide +kernel
theorem zd_210_35 : decode prog_14_method_222_code 35 = .ok (.aload_n 0, 1) := by decide +kernel
theorem zd_210_36 : decode prog_14_method_222_code 36 = .ok (.getfield 1668, 3) := by decide +kernel
theorem zd_210_39 : decode prog_14_method_222_code 39 = .ok (.sipush 200, 3) := by decide +kernel
theorem zd_210_42 : decode prog_14_method_222_code 42 = .ok (.if_icmp .ge 18, 3) := by decide +kernel
theorem zd_210_45 : decode prog_14_method_222_code 45 = .ok (.aload_n 0, 1) := by decide +kernel
theorem zd_210_46 : decode prog_14_method_222_code 46 = .ok (.getfield 464, 3) := by decide +kernel
theorem zd_210_49 : decode prog_14_method_222_code 49 = .ok (.aload_n 0, 1) := by decide +kernel
theorem zd_210_50 : decode prog_14_method_222_code 50 = .ok (.getfield 1668, 3) := by decide +kernel
theorem zd_210_53 : decode prog_14_method_222_code 53 = .ok (.aload_n 0, 1) := by decide +kernel
theorem zd_210_54 : decode prog_14_method_222_code 54 = .ok (.getfield 458, 3) := by decide +kernel
theorem zd_210_57 : decode prog_14_method_222_code 57 = .ok (.iconst 4, 1) := by decide +kernel
theorem zd_210_58 : decode prog_14_method_222_code 58 = .ok (.iaload, 1) := by decide +kernel
theorem zd_210_59 : decode prog_14_method_222_code 59 = .ok (.iastore, 1) := by decide +kernel
theorem zd_210_60 : decode prog_14_method_222_code 60 = .ok (.aload_n 0, 1) := by decide +kernel
theorem zd_210_61 : decode prog_14_method_222_code 61 = .ok (.dup, 1) := by decide +kernel
theorem zd_210_62 : decode prog_14_method_222_code 62 = .ok (.getfield 1668, 3) := by decide +kernel
theorem zd_210_65 : decode prog_14_method_222_code 65 = .ok (.iconst 1, 1) := by decide +kernel
theorem zd_210_66 : decode prog_14_method_222_code 66 = .ok (.iadd, 1) := by decide +kernel
theorem zd_210_67 : decode prog_14_method_222_code 67 = .ok (.putfield 1668, 3) := by decide +kernel
theorem zd_210_70 : decode prog_14_method_222_code 70 = .ok (.goto 84, 3) := by decide +kernel
theorem zd_210_73 : decode prog_14_method_222_code 73 = .ok (.aload_n 0, 1) := by decide +kernel
theorem zd_210_74 : decode prog_14_method_222_code 74 = .ok (.getfield 458, 3) := by decide +kernel
theorem zd_210_77 : decode prog_14_method_222_code 77 = .ok (.iconst 2, 1) := by decide +kernel
theorem zd_210_78 : decode prog_14_method_222_code 78 = .ok (.iaload, 1) := by decide +kernel
theorem zd_210_79 : decode prog_14_method_222_code 79 = .ok (.iconst 5, 1) := by decide +kernel
theorem zd_210_80 : decode prog_14_method_222_code 80 = .ok (.if_icmp .ne 63, 3) := by decide +kernel
theorem zd_210_83 : decode prog_14_method_222_code 83 = .ok (.aload_n 0, 1) := by decide +kernel
theorem zd_210_84 : decode prog_14_method_222_code 84 = .ok (.iconst 2, 1) := by decide +kernel
theorem zd_210_85 : decode prog_14_method_222_code 85 = .ok (.aload_n 0, 1) := by decide +kernel
theorem zd_210_86 : decode prog_14_method_222_code 86 = .ok (.getfield 1665, 3) := by decide +kernel
theorem zd_210_89 : decode prog_14_method_222_code 89 = .ok (.aload_n 0, 1) := by decide +kernel
theorem zd_210_90 : decode prog_14_method_222_code 90 = .ok (.getfield 1671, 3) := by decide +kernel
theorem zd_210_93 : decode prog_14_method_222_code 93 = .ok (.if_icmp .ge 15, 3) := by decide +kernel
theorem zd_210_96 : decode prog_14_method_222_code 96 = .ok (.aload_n 0, 1) := by decide +kernel
theorem zd_210_97 : decode prog_14_method_222_code 97 = .ok (.getfield 461, 3) := by decide +kernel
theorem zd_210_100 : decode prog_14_method_222_code 100 = .ok (.aload_n 0, 1) := by decide +kernel
theorem zd_210_101 : decode prog_14_method_222_code 101 = .ok (.getfield 1665, 3) := by decide +kernel
theorem zd_210_104 : decode prog_14_method_222_code 104 = .ok (.iaload, 1) := by decide +kernel
theorem zd_210_105 : decode prog_14_method_222_code 105 = .ok (.goto 4, 3) := by decide +kernel
theorem zd_210_108 : decode prog_14_method_222_code 108 = .ok (.iconst 0, 1) := by decide +kernel
theorem zd_210_109 : decode prog_14_method_222_code 109 = .ok (.invokevirtual 1690, 3) := by decide +kernel
theorem zd_210_112 : decode prog_14_method_222_code 112 = .ok (.aload_n 0, 1) := by decide +kernel
theorem zd_210_113 : decode prog_14_method_222_code 113 = .ok (.aload_n 0, 1) := by decide +kernel
theorem zd_210_114 : decode prog_14_method_222_code 114 = .ok (.getfield 1665, 3) := by decide +kernel
theorem zd_210_117 : decode prog_14_method_222_code 117 = .ok (.aload_n 0, 1) := by decide +kernel
theorem zd_210_118 : decode prog_14_method_222_code 118 = .ok (.getfield 1671, 3) := by decide +kernel
theorem zd_210_121 : decode prog_14_method_222_code 121 = .ok (.if_icmp .ge 12, 3) := by decide +kernel
theorem zd_210_124 : decode prog_14_method_222_code 124 = .ok (.aload_n 0, 1) := by decide +kernel
theorem zd_210_125 : decode prog_14_method_222_code 125 = .ok (.getfield 1665, 3) := by decide +kernel
theorem zd_210_128 : decode prog_14_method_222_code 128 = .ok (.iconst 1, 1) := by decide +kernel
theorem zd_210_129 : decode prog_14_method_222_code 129 = .ok (.iadd, 1) := by decide +kernel
theorem zd_210_130 : decode prog_14_method_222_code 130 = .ok (.goto 7, 3) := by decide +kernel
theorem zd_210_133 : decode prog_14_method_222_code 133 = .ok (.aload_n 0, 1) := by decide +kernel
theorem zd_210_134 : decode prog_14_method_222_code 134 = .ok (.getfield 1665, 3) := by decide +kernel
theorem zd_210_137 : decode prog_14_method_222_code 137 = .ok (.putfield 1665, 3) := by decide +kernel
theorem zd_210_140 : decode prog_14_method_222_code 140 = .ok (.goto 14, 3) := by decide +kernel
theorem zd_210_143 : decode prog_14_method_222_code 143 = .ok (.aload_n 0, 1) := by decide +kernel
theorem zd_210_144 : decode prog_14_method_222_code 144 = .ok (.iconst 5, 1) := by decide +kernel
theorem zd_210_145 : decode prog_14_method_222_code 145 = .ok (.aload_n 0, 1) := by decide +kernel
theorem zd_210_146 : decode prog_14_method_222_code 146 = .ok (.getfield 458, 3) := by decide +kernel
theorem zd_210_149 : decode prog_14_method_222_code 149 = .ok (.iconst 2, 1) := by decide +kernel
theorem zd_210_150 : decode prog_14_method_222_code 150 = .ok (.iaload, 1) := by decide +kernel
theorem zd_210_151 : decode prog_14_method_222_code 151 = .ok (.invokevirtual 1684, 3) := by decide +kernel
theorem zd_211_0 : decode prog_14_method_211_code 0 = .ok (.iload_n 0, 1) := by decide +kernel
theorem zd_211_1 : decode prog_14_method_211_code 1 = .ok (.iload_n 1, 1) := by decide +kernel
theorem zd_211_2 : decode prog_14_method_211_code 2 = .ok (.iushr, 1) := by decide +kernel
theorem zd_211_3 : decode prog_14_method_211_code 3 = .ok (.iconst 1, 1) := by decide +kernel
theorem zd_211_4 : decode prog_14_method_211_code 4 = .ok (.iload_n 2, 1) := by decide +kernel
theorem zd_211_5 : decode prog_14_method_211_code 5 = .ok (.ishl, 1) := by decide +kernel
theorem zd_211_6 : decode prog_14_method_211_code 6 = .ok (.iconst 1, 1) := by decide +kernel
theorem zd_211_7 : decode prog_14_method_211_code 7 = .ok (.isub, 1) := by decide +kernel
theorem zd_211_8 : decode prog_14_method_211_code 8 = .ok (.iand, 1) := by decide +kernel
theorem zd_212_0 : decode prog_14_method_223_code 0 = .ok (.aload_n 0, 1) := by decide +kernel
theorem zd_212_1 : decode prog_14_method_223_code 1 = .ok (.getfield 458, 3) := by decide +kernel
theorem zd_212_4 : decode prog_14_method_223_code 4 = .ok (.iload_n 2, 1) := by decide +kernel
theorem zd_212_5 : decode prog_14_method_223_code 5 = .ok (.bipush 21, 2) := by decide +kernel
theorem zd_212_7 : decode prog_14_method_223_code 7 = .ok (.iconst 5, 1) := by decide +kernel
theorem zd_212_8 : decode prog_14_method_223_code 8 = .ok (.invokestatic 1677, 3) := by decide +kernel
theorem zd_212_11 : decode prog_14_method_223_code 11 = .ok (.iaload, 1) := by decide +kernel
theorem zd_212_12 : decode prog_14_method_223_code 12 = .ok (.istore 4, 2) := by decide +kernel
theorem zd_212_14 : decode prog_14_method_223_code 14 = .ok (.aload_n 0, 1) := by decide +kernel
theorem zd_212_15 : decode prog_14_method_223_code 15 = .ok (.getfield 458, 3) := by decide +kernel
theorem zd_212_18 : decode prog_14_method_223_code 18 = .ok (.iload_n 2, 1) := by decide +kernel
theorem zd_212_19 : decode prog_14_method_223_code 19 = .ok (.bipush 16, 2) := by decide +kernel
theorem zd_212_21 : decode prog_14_method_223_code 21 = .ok (.iconst 5, 1) := by decide +kernel
theorem zd_212_22 : decode prog_14_method_223_code 22 = .ok (.invokestatic 1677, 3) := by decide +kernel
theorem zd_212_25 : decode prog_14_method_223_code 25 = .ok (.iaload, 1) := by decide +kernel
theorem zd_212_26 : decode prog_14_method_223_code 26 = .ok (.istore 5, 2) := by decide +kernel
theorem zd_212_28 : decode prog_14_method_223_code 28 = .ok (.iload_n 1, 1) := by decide +kernel
theorem zd_212_29 : decode prog_14_method_223_code 29 = .ok (.tableswitch 234 22 50 #[131, 131, 234, 234, 234, 234, 234, 234, 234, 234, 234, 234, 234, 234, 234, 234, 234, 234, 234, 155, 172, 189, 204, 219, 234, 219, 234, 134, 134], 131) := by decide +kernel
theorem zd_212_160 : decode prog_14_method_223_code 160 = .ok (.iload 4, 2) := by decide +kernel
theorem zd_212_163 : decode prog_14_method_223_code 163 = .ok (.aload_n 0, 1) := by decide +kernel
theorem zd_212_164 : decode prog_14_method_223_code 164 = .ok (.getfield 1650, 3) := by decide +kernel
theorem zd_212_167 : decode prog_14_method_223_code 167 = .ok (.iconst 4, 1) := by decide +kernel
theorem zd_212_168 : decode prog_14_method_223_code 168 = .ok (.iadd, 1) := by decide +kernel
theorem zd_212_169 : decode prog_14_method_223_code 169 = .ok (.ldc_w 1705, 3) := by decide +kernel
theorem zd_212_172 : decode prog_14_method_223_code 172 = .ok (.iand, 1) := by decide +kernel
theorem zd_212_173 : decode prog_14_method_223_code 173 = .ok (.iload_n 2, 1) := by decide +kernel
theorem zd_212_174 : decode prog_14_method_223_code 174 = .ok (.iconst 0, 1) := by decide +kernel
theorem zd_212_175 : decode prog_14_method_223_code 175 = .ok (.bipush 26, 2) := by decide +kernel
theorem zd_212_177 : decode prog_14_method_223_code 177 = .ok (.invokestatic 1677, 3) := by decide +kernel
theorem zd_212_180 : decode prog_14_method_223_code 180 = .ok (.iconst 2, 1) := by decide +kernel
theorem zd_212_181 : decode prog_14_method_223_code 181 = .ok (.ishl, 1) := by decide +kernel
theorem zd_212_182 : decode prog_14_method_223_code 182 = .ok (.ior, 1) := by decide +kernel
theorem zd_212_184 : decode prog_14_method_223_code 184 = .ok (.iload 4, 2) := by decide +kernel
theorem zd_212_186 : decode prog_14_method_223_code 186 = .ok (.iload 5, 2) := by decide +kernel
theorem zd_212_188 : decode prog_14_method_223_code 188 = .ok (.if_icmp .ne 7, 3) := by decide +kernel
theorem zd_212_191 : decode prog_14_method_223_code 191 = .ok (.iconst 1, 1) := by decide +kernel
theorem zd_212_192 : decode prog_14_method_223_code 192 = .ok (.goto 4, 3) := by decide +kernel
theorem zd_212_195 : decode prog_14_method_223_code 195 = .ok (.iconst 0, 1) := by decide +kernel
theorem zd_212_196 : decode prog_14_method_223_code 196 = .ok (.istore 6, 2) := by decide +kernel
theorem zd_212_198 : decode prog_14_method_223_code 198 = .ok (.goto 77, 3) := by decide +kernel
theorem zd_212_201 : decode prog_14_method_223_code 201 = .ok (.iload 4, 2) := by decide +kernel
theorem zd_212_203 : decode prog_14_method_223_code 203 = .ok (.iload 5, 2) := by decide +kernel
theorem zd_212_205 : decode prog_14_method_223_code 205 = .ok (.if_icmp .eq 7, 3) := by decide +kernel
theorem zd_212_208 : decode prog_14_method_223_code 208 = .ok (.iconst 1, 1) := by decide +kernel
theorem zd_212_209 : decode prog_14_method_223_code 209 = .ok (.goto 4, 3) := by decide +kernel
theorem zd_212_212 : decode prog_14_method_223_code 212 = .ok (.iconst 0, 1) := by decide +kernel
theorem zd_212_213 : decode prog_14_method_223_code 213 = .ok (.istore 6, 2) := by decide +kernel
theorem zd_212_215 : decode prog_14_method_223_code 215 = .ok (.goto 60, 3) := by decide +kernel
theorem zd_212_218 : decode prog_14_method_223_code 218 = .ok (.iload 4, 2) := by decide +kernel
theorem zd_212_220 : decode prog_14_method_223_code 220 = .ok (.ifCond .gt 7, 3) := by decide +kernel
theorem zd_212_223 : decode prog_14_method_223_code 223 = .ok (.iconst 1, 1) := by decide +kernel
theorem zd_212_224 : decode prog_14_method_223_code 224 = .ok (.goto 4, 3) := by decide +kernel
theorem zd_212_227 : decode prog_14_method_223_code 227 = .ok (.iconst 0, 1) := by decide +kernel
theorem zd_212_228 : decode prog_14_method_223_code 228 = .ok (.istore 6, 2) := by decide +kernel
theorem zd_212_230 : decode prog_14_method_223_code 230 = .ok (.goto 45, 3) := by decide +kernel
theorem zd_212_233 : decode prog_14_method_223_code 233 = .ok (.iload 4, 2) := by decide +kernel
theorem zd_212_235 : decode prog_14_method_223_code 235 = .ok (.ifCond .le 7, 3) := by decide +kernel
theorem zd_212_238 : decode prog_14_method_223_code 238 = .ok (.iconst 1, 1) := by decide +kernel
theorem zd_212_239 : decode prog_14_method_223_code 239 = .ok (.goto 4, 3) := by decide +kernel
theorem zd_212_242 : decode prog_14_method_223_code 242 = .ok (.iconst 0, 1) := by decide +kernel
theorem zd_212_243 : decode prog_14_method_223_code 243 = .ok (.istore 6, 2) := by decide +kernel
theorem zd_212_245 : decode prog_14_method_223_code 245 = .ok (.goto 30, 3) := by decide +kernel
theorem zd_212_248 : decode prog_14_method_223_code 248 = .ok (.iload 4, 2) := by decide +kernel
theorem zd_212_250 : decode prog_14_method_223_code 250 = .ok (.ifCond .ge 7, 3) := by decide +kernel
theorem zd_212_253 : decode prog_14_method_223_code 253 = .ok (.iconst 1, 1) := by decide +kernel
theorem zd_212_254 : decode prog_14_method_223_code 254 = .ok (.goto 4, 3) := by decide +kernel
theorem zd_212_257 : decode prog_14_method_223_code 257 = .ok (.iconst 0, 1) := by decide +kernel
theorem zd_212_258 : decode prog_14_method_223_code 258 = .ok (.istore 6, 2) := by decide +kernel
theorem zd_212_260 : decode prog_14_method_223_code 260 = .ok (.goto 15, 3) := by decide +kernel
theorem zd_212_263 : decode prog_14_method_223_code 263 = .ok (.iload 4, 2) := by decide +kernel
theorem zd_212_265 : decode prog_14_method_223_code 265 = .ok (.ifCond .lt 7, 3) := by decide +kernel
theorem zd_212_268 : decode prog_14_method_223_code 268 = .ok (.iconst 1, 1) := by decide +kernel
theorem zd_212_269 : decode prog_14_method_223_code 269 = .ok (.goto 4, 3) := by decide +kernel
theorem zd_212_272 : decode prog_14_method_223_code 272 = .ok (.iconst 0, 1) := by decide +kernel
theorem zd_212_273 : decode prog_14_method_223_code 273 = .ok (.istore 6, 2) := by decide +kernel
theorem zd_212_275 : decode prog_14_method_223_code 275 = .ok (.iload 6, 2) := by decide +kernel
theorem zd_212_277 : decode prog_14_method_223_code 277 = .ok (.ifCond .eq 17, 3) := by decide +kernel
theorem zd_212_280 : decode prog_14_method_223_code 280 = .ok (.aload_n 0, 1) := by decide +kernel
theorem zd_212_281 : decode prog_14_method_223_code 281 = .ok (.getfield 1650, 3) := by decide +kernel
theorem zd_212_284 : decode prog_14_method_223_code 284 = .ok (.iconst 4, 1) := by decide +kernel
theorem zd_212_285 : decode prog_14_method_223_code 285 = .ok (.iadd, 1) := by decide +kernel
theorem zd_212_286 : decode prog_14_method_223_code 286 = .ok (.iconst 4, 1) := by decide +kernel
theorem zd_212_287 : decode prog_14_method_223_code 287 = .ok (.iload_n 2, 1) := by decide +kernel
theorem zd_212_288 : decode prog_14_method_223_code 288 = .ok (.i2s, 1) := by decide +kernel
theorem zd_212_289 : decode prog_14_method_223_code 289 = .ok (.imul, 1) := by decide +kernel
theorem zd_212_290 : decode prog_14_method_223_code 290 = .ok (.iadd, 1) := by decide +kernel
theorem zd_212_291 : decode prog_14_method_223_code 291 = .ok (.goto 4, 3) := by decide +kernel
theorem zd_212_294 : decode prog_14_method_223_code 294 = .ok (.iload_n 3, 1) := by decide +kernel
theorem zd_213_0 : decode prog_14_method_216_code 0 = .ok (.iload_n 1, 1) := by decide +kernel
theorem zd_213_1 : decode prog_14_method_216_code 1 = .ok (.bipush 35, 2) := by decide +kernel
theorem zd_213_3 : decode prog_14_method_216_code 3 = .ok (.if_icmp .eq 9, 3) := by decide +kernel
theorem zd_213_6 : decode prog_14_method_216_code 6 = .ok (.iload_n 1, 1) := by decide +kernel
theorem zd_213_7 : decode prog_14_method_216_code 7 = .ok (.bipush 40, 2) := by decide +kernel
theorem zd_213_9 : decode prog_14_method_216_code 9 = .ok (.if_icmp .ne 7, 3) := by decide +kernel
theorem zd_213_12 : decode prog_14_method_216_code 12 = .ok (.iconst 4, 1) := by decide +kernel
theorem zd_213_13 : decode prog_14_method_216_code 13 = .ok (.goto 26, 3) := by decide +kernel
theorem zd_213_16 : decode prog_14_method_216_code 16 = .ok (.iload_n 1, 1) := by decide +kernel
theorem zd_213_17 : decode prog_14_method_216_code 17 = .ok (.bipush 34, 2) := by decide +kernel
theorem zd_213_19 : decode prog_14_method_216_code 19 = .ok (.if_icmp .eq 15, 3) := by decide +kernel
theorem zd_213_22 : decode prog_14_method_216_code 22 = .ok (.iload_n 1, 1) := by decide +kernel
theorem zd_213_23 : decode prog_14_method_216_code 23 = .ok (.bipush 37, 2) := by decide +kernel
theorem zd_213_25 : decode prog_14_method_216_code 25 = .ok (.if_icmp .eq 9, 3) := by decide +kernel
theorem zd_213_28 : decode prog_14_method_216_code 28 = .ok (.iload_n 1, 1) := by decide +kernel
theorem zd_213_29 : decode prog_14_method_216_code 29 = .ok (.bipush 39, 2) := by decide +kernel
theorem zd_213_31 : decode prog_14_method_216_code 31 = .ok (.if_icmp .ne 7, 3) := by decide +kernel
theorem zd_213_34 : decode prog_14_method_216_code 34 = .ok (.iconst 2, 1) := by decide +kernel
theorem zd_213_35 : decode prog_14_method_216_code 35 = .ok (.goto 4, 3) := by decide +kernel
theorem zd_213_38 : decode prog_14_method_216_code 38 = .ok (.iconst 1, 1) := by decide +kernel
theorem zd_213_39 : decode prog_14_method_216_code 39 = .ok (.istore_n 3, 1) := by decide +kernel
theorem zd_213_40 : decode prog_14_method_216_code 40 = .ok (.aload_n 0, 1) := by decide +kernel
theorem zd_213_41 : decode prog_14_method_216_code 41 = .ok (.getfield 458, 3) := by decide +kernel
theorem zd_213_44 : decode prog_14_method_216_code 44 = .ok (.iload_n 2, 1) := by decide +kernel
theorem zd_213_45 : decode prog_14_method_216_code 45 = .ok (.bipush 21, 2) := by decide +kernel
theorem zd_213_47 : decode prog_14_method_216_code 47 = .ok (.iconst 5, 1) := by decide +kernel
theorem zd_213_48 : decode prog_14_method_216_code 48 = .ok (.invokestatic 1677, 3) := by decide +kernel
theorem zd_213_51 : decode prog_14_method_216_code 51 = .ok (.iaload, 1) := by decide +kernel
theorem zd_213_52 : decode prog_14_method_216_code 52 = .ok (.iload_n 2, 1) := by decide +kernel
theorem zd_213_53 : decode prog_14_method_216_code 53 = .ok (.i2s, 1) := by decide +kernel
theorem zd_213_54 : decode prog_14_method_216_code 54 = .ok (.iadd, 1) := by decide +kernel
theorem zd_213_55 : decode prog_14_method_216_code 55 = .ok (.istore 4, 2) := by decide +kernel
theorem zd_213_57 : decode prog_14_method_216_code 57 = .ok (.aload_n 0, 1) := by decide +kernel
theorem zd_213_58 : decode prog_14_method_216_code 58 = .ok (.iload 4, 2) := by decide +kernel
theorem zd_213_60 : decode prog_14_method_216_code 60 = .ok (.iload_n 3, 1) := by decide +kernel
theorem zd_213_61 : decode prog_14_method_216_code 61 = .ok (.invokevirtual 1687, 3) := by decide +kernel
theorem zd_213_64 : decode prog_14_method_216_code 64 = .ok (.ifCond .ne 4, 3) := by decide +kernel
theorem zd_213_68 : decode prog_14_method_216_code 68 = .ok (.iload_n 2, 1) := by decide +kernel
theorem zd_213_69 : decode prog_14_method_216_code 69 = .ok (.bipush 16, 2) := by decide +kernel
theorem zd_213_71 : decode prog_14_method_216_code 71 = .ok (.iconst 5, 1) := by decide +kernel
theorem zd_213_72 : decode prog_14_method_216_code 72 = .ok (.invokestatic 1677, 3) := by decide +kernel
theorem zd_213_75 : decode prog_14_method_216_code 75 = .ok (.istore 5, 2) := by decide +kernel
theorem zd_213_77 : decode prog_14_method_216_code 77 = .ok (.aload_n 0, 1) := by decide +kernel
theorem zd_213_78 : decode prog_14_method_216_code 78 = .ok (.getfield 458, 3) := by decide +kernel
theorem zd_213_81 : decode prog_14_method_216_code 81 = .ok (.iload 5, 2) := by decide +kernel
theorem zd_213_83 : decode prog_14_method_216_code 83 = .ok (.iaload, 1) := by decide +kernel
theorem zd_213_84 : decode prog_14_method_216_code 84 = .ok (.istore 6, 2) := by decide +kernel
theorem zd_213_86 : decode prog_14_method_216_code 86 = .ok (.iload_n 1, 1) := by decide +kernel
theorem zd_213_87 : decode prog_14_method_216_code 87 = .ok (.bipush 38, 2) := by decide +kernel
theorem zd_213_89 : decode prog_14_method_216_code 89 = .ok (.if_icmp .lt 43, 3) := by decide +kernel
theorem zd_213_92 : decode prog_14_method_216_code 92 = .ok (.iconst 0, 1) := by decide +kernel
theorem zd_213_93 : decode prog_14_method_216_code 93 = .ok (.istore 7, 2) := by decide +kernel
theorem zd_213_95 : decode prog_14_method_216_code 95 = .ok (.iload 7, 2) := by decide +kernel
theorem zd_213_97 : decode prog_14_method_216_code 97 = .ok (.iload_n 3, 1) := by decide +kernel
theorem zd_213_98 : decode prog_14_method_216_code 98 = .ok (.if_icmp .ge 33, 3) := by decide +kernel
theorem zd_213_101 : decode prog_14_method_216_code 101 = .ok (.aload_n 0, 1) := by decide +kernel
theorem zd_213_102 : decode prog_14_method_216_code 102 = .ok (.getfield 452, 3) := by decide +kernel
theorem zd_213_105 : decode prog_14_method_216_code 105 = .ok (.iload 4, 2) := by decide +kernel
theorem zd_213_107 : decode prog_14_method_216_code 107 = .ok (.aload_n 0, 1) := by decide +kernel
theorem zd_213_108 : decode prog_14_method_216_code 108 = .ok (.getfield 1597, 3) := by decide +kernel
theorem zd_213_111 : decode prog_14_method_216_code 111 = .ok (.isub, 1) := by decide +kernel
theorem zd_213_112 : decode prog_14_method_216_code 112 = .ok (.iload 7, 2) := by decide +kernel
theorem zd_213_114 : decode prog_14_method_216_code 114 = .ok (.iadd, 1) := by decide +kernel
theorem zd_213_115 : decode prog_14_method_216_code 115 = .ok (.iload 6, 2) := by decide +kernel
theorem zd_213_117 : decode prog_14_method_216_code 117 = .ok (.bipush 8, 2) := by decide +kernel
theorem zd_213_119 : decode prog_14_method_216_code 119 = .ok (.iload 7, 2) := by decide +kernel
theorem zd_213_121 : decode prog_14_method_216_code 121 = .ok (.imul, 1) := by decide +kernel
theorem zd_213_122 : decode prog_14_method_216_code 122 = .ok (.ishr, 1) := by decide +kernel
theorem zd_213_123 : decode prog_14_method_216_code 123 = .ok (.i2b, 1) := by decide +kernel
theorem zd_213_124 : decode prog_14_method_216_code 124 = .ok (.bastore, 1) := by decide +kernel
theorem zd_213_125 : decode prog_14_method_216_code 125 = .ok (.iinc 7 1, 3) := by decide +kernel
theorem zd_213_128 : decode prog_14_method_216_code 128 = .ok (.goto (-33), 3) := by decide +kernel
theorem zd_213_132 : decode prog_14_method_216_code 132 = .ok (.iload_n 3, 1) := by decide +kernel
theorem zd_213_133 : decode prog_14_method_216_code 133 = .ok (.iconst 1, 1) := by decide +kernel
theorem zd_213_134 : decode prog_14_method_216_code 134 = .ok (.if_icmp .le 24, 3) := by decide +kernel
theorem zd_213_137 : decode prog_14_method_216_code 137 = .ok (.aload_n 0, 1) := by decide +kernel
theorem zd_213_138 : decode prog_14_method_216_code 138 = .ok (.iload 4, 2) := by decide +kernel
theorem zd_213_140 : decode prog_14_method_216_code 140 = .ok (.invokevirtual 1674, 3) := by decide +kernel
theorem zd_213_143 : decode prog_14_method_216_code 143 = .ok (.aload_n 0, 1) := by decide +kernel
theorem zd_213_144 : decode prog_14_method_216_code 144 = .ok (.iload 4, 2) := by decide +kernel
theorem zd_213_146 : decode prog_14_method_216_code 146 = .ok (.iconst 1, 1) := by decide +kernel
theorem zd_213_147 : decode prog_14_method_216_code 147 = .ok (.iadd, 1) := by decide +kernel
theorem zd_213_148 : decode prog_14_method_216_code 148 = .ok (.invokevirtual 1674, 3) := by decide +kernel
theorem zd_213_151 : decode prog_14_method_216_code 151 = .ok (.bipush 8, 2) := by decide +kernel
theorem zd_213_153 : decode prog_14_method_216_code 153 = .ok (.ishl, 1) := by decide +kernel
theorem zd_213_154 : decode prog_14_method_216_code 154 = .ok (.ior, 1) := by decide +kernel
theorem zd_213_155 : decode prog_14_method_216_code 155 = .ok (.goto 4, 3) := by decide +kernel
theorem zd_213_158 : decode prog_14_method_216_code 158 = .ok (.iconst 0, 1) := by decide +kernel
theorem zd_213_159 : decode prog_14_method_216_code 159 = .ok (.istore 7, 2) := by decide +kernel
theorem zd_213_161 : decode prog_14_method_216_code 161 = .ok (.iload_n 1, 1) := by decide +kernel
theorem zd_213_162 : decode prog_14_method_216_code 162 = .ok (.tableswitch 88 33 37 #[34, 65, 88, 50, 77], 34) := by decide +kernel
theorem zd_213_196 : decode prog_14_method_216_code 196 = .ok (.aload_n 0, 1) := by decide +kernel
theorem zd_213_197 : decode prog_14_method_216_code 197 = .ok (.iload 5, 2) := by decide +kernel
theorem zd_213_199 : decode prog_14_method_216_code 199 = .ok (.aload_n 0, 1) := by decide +kernel
theorem zd_213_200 : decode prog_14_method_216_code 200 = .ok (.iload 4, 2) := by decide +kernel
theorem zd_213_202 : decode prog_14_method_216_code 202 = .ok (.invokevirtual 1674, 3) := by decide +kernel
theorem zd_213_205 : decode prog_14_method_216_code 205 = .ok (.i2b, 1) := by decide +kernel
theorem zd_213_206 : decode prog_14_method_216_code 206 = .ok (.invokevirtual 1690, 3) := by decide +kernel
theorem zd_213_209 : decode prog_14_method_216_code 209 = .ok (.goto 53, 3) := by decide +kernel
theorem zd_213_212 : decode prog_14_method_216_code 212 = .ok (.aload_n 0, 1) := by decide +kernel
theorem zd_213_213 : decode prog_14_method_216_code 213 = .ok (.iload 5, 2) := by decide +kernel
theorem zd_213_215 : decode prog_14_method_216_code 215 = .ok (.aload_n 0, 1) := by decide +kernel
theorem zd_213_216 : decode prog_14_method_216_code 216 = .ok (.iload 4, 2) := by decide +kernel
theorem zd_213_218 : decode prog_14_method_216_code 218 = .ok (.invokevirtual 1674, 3) := by decide +kernel
theorem zd_213_221 : decode prog_14_method_216_code 221 = .ok (.invokevirtual 1690, 3) := by decide +kernel
theorem zd_213_224 : decode prog_14_method_216_code 224 = .ok (.goto 38, 3) := by decide +kernel
theorem zd_213_227 : decode prog_14_method_216_code 227 = .ok (.aload_n 0, 1) := by decide +kernel
theorem zd_213_228 : decode prog_14_method_216_code 228 = .ok (.iload 5, 2) := by decide +kernel
theorem zd_213_230 : decode prog_14_method_216_code 230 = .ok (.iload 7, 2) := by decide +kernel
theorem zd_213_232 : decode prog_14_method_216_code 232 = .ok (.i2s, 1) := by decide +kernel
theorem zd_213_233 : decode prog_14_method_216_code 233 = .ok (.invokevirtual 1690, 3) := by decide +kernel
theorem zd_213_236 : decode prog_14_method_216_code 236 = .ok (.goto 26, 3) := by decide +kernel
theorem zd_213_239 : decode prog_14_method_216_code 239 = .ok (.aload_n 0, 1) := by decide +kernel
theorem zd_213_240 : decode prog_14_method_216_code 240 = .ok (.iload 5, 2) := by decide +kernel
theorem zd_213_242 : decode prog_14_method_216_code 242 = .ok (.iload 7, 2) := by decide +kernel
theorem zd_213_244 : decode prog_14_method_216_code 244 = .ok (.invokevirtual 1690, 3) := by decide +kernel
theorem zd_213_247 : decode prog_14_method_216_code 247 = .ok (.goto 15, 3) := by decide +kernel
theorem zd_213_250 : decode prog_14_method_216_code 250 = .ok (.aload_n 0, 1) := by decide +kernel
theorem zd_213_251 : decode prog_14_method_216_code 251 = .ok (.iload 5, 2) := by decide +kernel
theorem zd_213_253 : decode prog_14_method_216_code 253 = .ok (.aload_n 0, 1) := by decide +kernel
theorem zd_213_254 : decode prog_14_method_216_code 254 = .ok (.iload 4, 2) := by decide +kernel
theorem zd_213_256 : decode prog_14_method_216_code 256 = .ok (.invokevirtual 1693, 3) := by decide +kernel
theorem zd_213_259 : decode prog_14_method_216_code 259 = .ok (.invokevirtual 1690, 3) := by decide +kernel
theorem zd_214_0 : decode prog_14_method_221_code 0 = .ok (.aload_n 0, 1) := by decide +kernel
theorem zd_214_1 : decode prog_14_method_221_code 1 = .ok (.getfield 458, 3) := by decide +kernel
theorem zd_214_4 : decode prog_14_method_221_code 4 = .ok (.iload_n 2, 1) := by decide +kernel
theorem zd_214_5 : decode prog_14_method_221_code 5 = .ok (.bipush 21, 2) := by decide +kernel
theorem zd_214_7 : decode prog_14_method_221_code 7 = .ok (.iconst 5, 1) := by decide +kernel
theorem zd_214_8 : decode prog_14_method_221_code 8 = .ok (.invokestatic 1677, 3) := by decide +kernel
theorem zd_214_11 : decode prog_14_method_221_code 11 = .ok (.iaload, 1) := by decide +kernel
theorem zd_214_12 : decode prog_14_method_221_code 12 = .ok (.istore_n 3, 1) := by decide +kernel
theorem zd_214_13 : decode prog_14_method_221_code 13 = .ok (.iload_n 2, 1) := by decide +kernel
theorem zd_214_14 : decode prog_14_method_221_code 14 = .ok (.bipush 16, 2) := by decide +kernel
theorem zd_214_16 : decode prog_14_method_221_code 16 = .ok (.iconst 5, 1) := by decide +kernel
theorem zd_214_17 : decode prog_14_method_221_code 17 = .ok (.invokestatic 1677, 3) := by decide +kernel
theorem zd_214_20 : decode prog_14_method_221_code 20 = .ok (.istore 4, 2) := by decide +kernel
theorem zd_214_22 : decode prog_14_method_221_code 22 = .ok (.iload_n 2, 1) := by decide +kernel
theorem zd_214_23 : decode prog_14_method_221_code 23 = .ok (.i2s, 1) := by decide +kernel
theorem zd_214_24 : decode prog_14_method_221_code 24 = .ok (.istore 5, 2) := by decide +kernel
theorem zd_214_26 : decode prog_14_method_221_code 26 = .ok (.iload_n 2, 1) := by decide +kernel
theorem zd_214_27 : decode prog_14_method_221_code 27 = .ok (.ldc_w 1302, 3) := by decide +kernel
theorem zd_214_30 : decode prog_14_method_221_code 30 = .ok (.iand, 1) := by decide +kernel
theorem zd_214_31 : decode prog_14_method_221_code 31 = .ok (.istore 6, 2) := by decide +kernel
theorem zd_214_33 : decode prog_14_method_221_code 33 = .ok (.iload_n 1, 1) := by decide +kernel
theorem zd_214_34 : decode prog_14_method_221_code 34 = .ok (.tableswitch 141 26 31 #[38, 51, 71, 102, 115, 128], 38) := by decide +kernel
theorem zd_214_72 : decode prog_14_method_221_code 72 = .ok (.aload_n 0, 1) := by decide +kernel
theorem zd_214_73 : decode prog_14_method_221_code 73 = .ok (.iload 4, 2) := by decide +kernel
theorem zd_214_75 : decode prog_14_method_221_code 75 = .ok (.iload_n 3, 1) := by decide +kernel
theorem zd_214_76 : decode prog_14_method_221_code 76 = .ok (.iload 5, 2) := by decide +kernel
theorem zd_214_78 : decode prog_14_method_221_code 78 = .ok (.iadd, 1) := by decide +kernel
theorem zd_214_79 : decode prog_14_method_221_code 79 = .ok (.invokevirtual 1690, 3) := by decide +kernel
theorem zd_214_82 : decode prog_14_method_221_code 82 = .ok (.goto 104, 3) := by decide +kernel
theorem zd_214_85 : decode prog_14_method_221_code 85 = .ok (.aload_n 0, 1) := by decide +kernel
theorem zd_214_86 : decode prog_14_method_221_code 86 = .ok (.iload 4, 2) := by decide +kernel
theorem zd_214_88 : decode prog_14_method_221_code 88 = .ok (.iload_n 3, 1) := by decide +kernel
theorem zd_214_89 : decode prog_14_method_221_code 89 = .ok (.iload 5, 2) := by decide +kernel
theorem zd_214_91 : decode prog_14_method_221_code 91 = .ok (.if_icmp .ge 7, 3) := by decide +kernel
theorem zd_214_94 : decode prog_14_method_221_code 94 = .ok (.iconst 1, 1) := by decide +kernel
theorem zd_214_95 : decode prog_14_method_221_code 95 = .ok (.goto 4, 3) := by decide +kernel
theorem zd_214_98 : decode prog_14_method_221_code 98 = .ok (.iconst 0, 1) := by decide +kernel
theorem zd_214_99 : decode prog_14_method_221_code 99 = .ok (.invokevirtual 1690, 3) := by decide +kernel
theorem zd_214_102 : decode prog_14_method_221_code 102 = .ok (.goto 84, 3) := by decide +kernel
theorem zd_214_105 : decode prog_14_method_221_code 105 = .ok (.aload_n 0, 1) := by decide +kernel
theorem zd_214_106 : decode prog_14_method_221_code 106 = .ok (.iload 4, 2) := by decide +kernel
theorem zd_214_108 : decode prog_14_method_221_code 108 = .ok (.iload_n 3, 1) := by decide +kernel
theorem zd_214_109 : decode prog_14_method_221_code 109 = .ok (.i2l, 1) := by decide +kernel
theorem zd_214_110 : decode prog_14_method_221_code 110 = .ok (.ldc2_w 1245, 3) := by decide +kernel
theorem zd_214_113 : decode prog_14_method_221_code 113 = .ok (.land, 1) := by decide +kernel
theorem zd_214_114 : decode prog_14_method_221_code 114 = .ok (.iload 5, 2) := by decide +kernel
theorem zd_214_116 : decode prog_14_method_221_code 116 = .ok (.i2l, 1) := by decide +kernel
theorem zd_214_117 : decode prog_14_method_221_code 117 = .ok (.ldc2_w 1245, 3) := by decide +kernel
theorem zd_214_120 : decode prog_14_method_221_code 120 = .ok (.land, 1) := by decide +kernel
theorem zd_214_121 : decode prog_14_method_221_code 121 = .ok (.lcmp, 1) := by decide +kernel
theorem zd_214_122 : decode prog_14_method_221_code 122 = .ok (.ifCond .ge 7, 3) := by decide +kernel
theorem zd_214_125 : decode prog_14_method_221_code 125 = .ok (.iconst 1, 1) := by decide +kernel
theorem zd_214_126 : decode prog_14_method_221_code 126 = .ok (.goto 4, 3) := by decide +kernel
theorem zd_214_129 : decode prog_14_method_221_code 129 = .ok (.iconst 0, 1) := by decide +kernel
theorem zd_214_130 : decode prog_14_method_221_code 130 = .ok (.invokevirtual 1690, 3) := by decide +kernel
theorem zd_214_133 : decode prog_14_method_221_code 133 = .ok (.goto 53, 3) := by decide +kernel
theorem zd_214_136 : decode prog_14_method_221_code 136 = .ok (.aload_n 0, 1) := by decide +kernel
theorem zd_214_137 : decode prog_14_method_221_code 137 = .ok (.iload 4, 2) := by decide +kernel
theorem zd_214_139 : decode prog_14_method_221_code 139 = .ok (.iload_n 3, 1) := by decide +kernel
theorem zd_214_140 : decode prog_14_method_221_code 140 = .ok (.iload 6, 2) := by decide +kernel
theorem zd_214_142 : decode prog_14_method_221_code 142 = .ok (.iand, 1) := by decide +kernel
theorem zd_214_143 : decode prog_14_method_221_code 143 = .ok (.invokevirtual 1690, 3) := by decide +kernel
theorem zd_214_146 : decode prog_14_method_221_code 146 = .ok (.goto 40, 3) := by decide +kernel
theorem zd_214_149 : decode prog_14_method_221_code 149 = .ok (.aload_n 0, 1) := by decide +kernel
theorem zd_214_150 : decode prog_14_method_221_code 150 = .ok (.iload 4, 2) := by decide +kernel
theorem zd_214_152 : decode prog_14_method_221_code 152 = .ok (.iload_n 3, 1) := by decide +kernel
theorem zd_214_153 : decode prog_14_method_221_code 153 = .ok (.iload 6, 2) := by decide +kernel
theorem zd_214_155 : decode prog_14_method_221_code 155 = .ok (.ior, 1) := by decide +kernel
theorem zd_214_156 : decode prog_14_method_221_code 156 = .ok (.invokevirtual 1690, 3) := by decide +kernel
theorem zd_214_159 : decode prog_14_method_221_code 159 = .ok (.goto 27, 3) := by decide +kernel
theorem zd_214_162 : decode prog_14_method_221_code 162 = .ok (.aload_n 0, 1) := by decide +kernel
theorem zd_214_163 : decode prog_14_method_221_code 163 = .ok (.iload 4, 2) := by decide +kernel
theorem zd_214_165 : decode prog_14_method_221_code 165 = .ok (.iload_n 3, 1) := by decide +kernel
theorem zd_214_166 : decode prog_14_method_221_code 166 = .ok (.iload 6, 2) := by decide +kernel
theorem zd_214_168 : decode prog_14_method_221_code 168 = .ok (.ixor, 1) := by decide +kernel
theorem zd_214_169 : decode prog_14_method_221_code 169 = .ok (.invokevirtual 1690, 3) := by decide +kernel
theorem zd_214_172 : decode prog_14_method_221_code 172 = .ok (.goto 14, 3) := by decide +kernel
theorem zd_214_175 : decode prog_14_method_221_code 175 = .ok (.aload_n 0, 1) := by decide +kernel
theorem zd_214_176 : decode prog_14_method_221_code 176 = .ok (.iload 4, 2) := by decide +kernel
theorem zd_214_178 : decode prog_14_method_221_code 178 = .ok (.iload 6, 2) := by decide +kernel
theorem zd_214_180 : decode prog_14_method_221_code 180 = .ok (.bipush 16, 2) := by decide +kernel
theorem zd_214_182 : decode prog_14_method_221_code 182 = .ok (.ishl, 1) := by decide +kernel
theorem zd_214_183 : decode prog_14_method_221_code 183 = .ok (.invokevirtual 1690, 3) := by decide +kernel
theorem zd_215_0 : decode prog_14_method_219_code 0 = .ok (.aload_n 0, 1) := by decide +kernel
theorem zd_215_1 : decode prog_14_method_219_code 1 = .ok (.getfield 458, 3) := by decide +kernel
theorem zd_215_4 : decode prog_14_method_219_code 4 = .ok (.iload_n 2, 1) := by decide +kernel
theorem zd_215_5 : decode prog_14_method_219_code 5 = .ok (.bipush 21, 2) := by decide +kernel
theorem zd_215_7 : decode prog_14_method_219_code 7 = .ok (.iconst 5, 1) := by decide +kernel
theorem zd_215_8 : decode prog_14_method_219_code 8 = .ok (.invokestatic 1677, 3) := by decide +kernel
theorem zd_215_11 : decode prog_14_method_219_code 11 = .ok (.iaload, 1) := by decide +kernel
theorem zd_215_12 : decode prog_14_method_219_code 12 = .ok (.istore_n 3, 1) := by decide +kernel
theorem zd_215_13 : decode prog_14_method_219_code 13 = .ok (.aload_n 0, 1) := by decide +kernel
theorem zd_215_14 : decode prog_14_method_219_code 14 = .ok (.getfield 458, 3) := by decide +kernel
theorem zd_215_17 : decode prog_14_method_219_code 17 = .ok (.iload_n 2, 1) := by decide +kernel
theorem zd_215_18 : decode prog_14_method_219_code 18 = .ok (.bipush 16, 2) := by decide +kernel
theorem zd_215_20 : decode prog_14_method_219_code 20 = .ok (.iconst 5, 1) := by decide +kernel
theorem zd_215_21 : decode prog_14_method_219_code 21 = .ok (.invokestatic 1677, 3) := by decide +kernel
theorem zd_215_24 : decode prog_14_method_219_code 24 = .ok (.iaload, 1) := by decide +kernel
theorem zd_215_25 : decode prog_14_method_219_code 25 = .ok (.istore 4, 2) := by decide +kernel
theorem zd_215_27 : decode prog_14_method_219_code 27 = .ok (.iload_n 2, 1) := by decide +kernel
theorem zd_215_28 : decode prog_14_method_219_code 28 = .ok (.bipush 11, 2) := by decide +kernel
theorem zd_215_30 : decode prog_14_method_219_code 30 = .ok (.iconst 5, 1) := by decide +kernel
theorem zd_215_31 : decode prog_14_method_219_code 31 = .ok (.invokestatic 1677, 3) := by decide +kernel
theorem zd_215_34 : decode prog_14_method_219_code 34 = .ok (.istore 5, 2) := by decide +kernel
theorem zd_215_36 : decode prog_14_method_219_code 36 = .ok (.iload_n 2, 1) := by decide +kernel
theorem zd_215_37 : decode prog_14_method_219_code 37 = .ok (.bipush 6, 2) := by decide +kernel
theorem zd_215_39 : decode prog_14_method_219_code 39 = .ok (.iconst 5, 1) := by decide +kernel
theorem zd_215_40 : decode prog_14_method_219_code 40 = .ok (.invokestatic 1677, 3) := by decide +kernel
theorem zd_215_43 : decode prog_14_method_219_code 43 = .ok (.istore 6, 2) := by decide +kernel
theorem zd_215_45 : decode prog_14_method_219_code 45 = .ok (.iload_n 1, 1) := by decide +kernel
theorem zd_215_46 : decode prog_14_method_219_code 46 = .ok (.tableswitch 291 0 13 #[70, 83, 96, 109, 122, 135, 150, 170, 201, 215, 229, 243, 259, 275], 70) := by decide +kernel
theorem zd_215_116 : decode prog_14_method_219_code 116 = .ok (.aload_n 0, 1) := by decide +kernel
theorem zd_215_117 : decode prog_14_method_219_code 117 = .ok (.iload 5, 2) := by decide +kernel
theorem zd_215_119 : decode prog_14_method_219_code 119 = .ok (.iload_n 3, 1) := by decide +kernel
theorem zd_215_120 : decode prog_14_method_219_code 120 = .ok (.iload 4, 2) := by decide +kernel
theorem zd_215_122 : decode prog_14_method_219_code 122 = .ok (.iadd, 1) := by decide +kernel
theorem zd_215_123 : decode prog_14_method_219_code 123 = .ok (.invokevirtual 1690, 3) := by decide +kernel
theorem zd_215_126 : decode prog_14_method_219_code 126 = .ok (.goto 221, 3) := by decide +kernel
theorem zd_215_129 : decode prog_14_method_219_code 129 = .ok (.aload_n 0, 1) := by decide +kernel
theorem zd_215_130 : decode prog_14_method_219_code 130 = .ok (.iload 5, 2) := by decide +kernel
theorem zd_215_132 : decode prog_14_method_219_code 132 = .ok (.iload_n 3, 1) := by decide +kernel
theorem zd_215_133 : decode prog_14_method_219_code 133 = .ok (.iload 4, 2) := by decide +kernel
theorem zd_215_135 : decode prog_14_method_219_code 135 = .ok (.isub, 1) := by decide +kernel
theorem zd_215_136 : decode prog_14_method_219_code 136 = .ok (.invokevirtual 1690, 3) := by decide +kernel
theorem zd_215_139 : decode prog_14_method_219_code 139 = .ok (.goto 208, 3) := by decide +kernel
theorem zd_215_142 : decode prog_14_method_219_code 142 = .ok (.aload_n 0, 1) := by decide +kernel
theorem zd_215_143 : decode prog_14_method_219_code 143 = .ok (.iload 5, 2) := by decide +kernel
theorem zd_215_145 : decode prog_14_method_219_code 145 = .ok (.iload_n 3, 1) := by decide +kernel
theorem zd_215_146 : decode prog_14_method_219_code 146 = .ok (.iload 4, 2) := by decide +kernel
theorem zd_215_148 : decode prog_14_method_219_code 148 = .ok (.iand, 1) := by decide +kernel
theorem zd_215_149 : decode prog_14_method_219_code 149 = .ok (.invokevirtual 1690, 3) := by decide +kernel
theorem zd_215_152 : decode prog_14_method_219_code 152 = .ok (.goto 195, 3) := by decide +kernel
theorem zd_215_155 : decode prog_14_method_219_code 155 = .ok (.aload_n 0, 1) := by decide +kernel
theorem zd_215_156 : decode prog_14_method_219_code 156 = .ok (.iload 5, 2) := by decide +kernel
theorem zd_215_158 : decode prog_14_method_219_code 158 = .ok (.iload_n 3, 1) := by decide +kernel
theorem zd_215_159 : decode prog_14_method_219_code 159 = .ok (.iload 4, 2) := by decide +kernel
theorem zd_215_161 : decode prog_14_method_219_code 161 = .ok (.ior, 1) := by decide +kernel
theorem zd_215_162 : decode prog_14_method_219_code 162 = .ok (.invokevirtual 1690, 3) := by decide +kernel
theorem zd_215_165 : decode prog_14_method_219_code 165 = .ok (.goto 182, 3) := by decide +kernel
theorem zd_215_168 : decode prog_14_method_219_code 168 = .ok (.aload_n 0, 1) := by decide +kernel
theorem zd_215_169 : decode prog_14_method_219_code 169 = .ok (.iload 5, 2) := by decide +kernel
theorem zd_215_171 : decode prog_14_method_219_code 171 = .ok (.iload_n 3, 1) := by decide +kernel
theorem zd_215_172 : decode prog_14_method_219_code 172 = .ok (.iload 4, 2) := by decide +kernel
theorem zd_215_174 : decode prog_14_method_219_code 174 = .ok (.ixor, 1) := by decide +kernel
theorem zd_215_175 : decode prog_14_method_219_code 175 = .ok (.invokevirtual 1690, 3) := by decide +kernel
theorem zd_215_178 : decode prog_14_method_219_code 178 = .ok (.goto 169, 3) := by decide +kernel
theorem zd_215_181 : decode prog_14_method_219_code 181 = .ok (.aload_n 0, 1) := by decide +kernel
theorem zd_215_182 : decode prog_14_method_219_code 182 = .ok (.iload 5, 2) := by decide +kernel
theorem zd_215_184 : decode prog_14_method_219_code 184 = .ok (.iload_n 3, 1) := by decide +kernel
theorem zd_215_185 : decode prog_14_method_219_code 185 = .ok (.iload 4, 2) := by decide +kernel
theorem zd_215_187 : decode prog_14_method_219_code 187 = .ok (.ior, 1) := by decide +kernel
theorem zd_215_188 : decode prog_14_method_219_code 188 = .ok (.iconst (-1), 1) := by decide +kernel
theorem zd_215_189 : decode prog_14_method_219_code 189 = .ok (.ixor, 1) := by decide +kernel
theorem zd_215_190 : decode prog_14_method_219_code 190 = .ok (.invokevirtual 1690, 3) := by decide +kernel
theorem zd_215_193 : decode prog_14_method_219_code 193 = .ok (.goto 154, 3) := by decide +kernel
theorem zd_215_196 : decode prog_14_method_219_code 196 = .ok (.aload_n 0, 1) := by decide +kernel
theorem zd_215_197 : decode prog_14_method_219_code 197 = .ok (.iload 5, 2) := by decide +kernel
theorem zd_215_199 : decode prog_14_method_219_code 199 = .ok (.iload_n 3, 1) := by decide +kernel
theorem zd_215_200 : decode prog_14_method_219_code 200 = .ok (.iload 4, 2) := by decide +kernel
theorem zd_215_202 : decode prog_14_method_219_code 202 = .ok (.if_icmp .ge 7, 3) := by decide +kernel
theorem zd_215_205 : decode prog_14_method_219_code 205 = .ok (.iconst 1, 1) := by decide +kernel
theorem zd_215_206 : decode prog_14_method_219_code 206 = .ok (.goto 4, 3) := by decide +kernel
theorem zd_215_209 : decode prog_14_method_219_code 209 = .ok (.iconst 0, 1) := by decide +kernel
theorem zd_215_210 : decode prog_14_method_219_code 210 = .ok (.invokevirtual 1690, 3) := by decide +kernel
theorem zd_215_213 : decode prog_14_method_219_code 213 = .ok (.goto 134, 3) := by decide +kernel
theorem zd_215_216 : decode prog_14_method_219_code 216 = .ok (.aload_n 0, 1) := by decide +kernel
theorem zd_215_217 : decode prog_14_method_219_code 217 = .ok (.iload 5, 2) := by decide +kernel
theorem zd_215_219 : decode prog_14_method_219_code 219 = .ok (.iload_n 3, 1) := by decide +kernel
theorem zd_215_220 : decode prog_14_method_219_code 220 = .ok (.i2l, 1) := by decide +kernel
theorem zd_215_221 : decode prog_14_method_219_code 221 = .ok (.ldc2_w 1245, 3) := by decide +kernel
theorem zd_215_224 : decode prog_14_method_219_code 224 = .ok (.land, 1) := by decide +kernel
theorem zd_215_225 : decode prog_14_method_219_code 225 = .ok (.iload 4, 2) := by decide +kernel
theorem zd_215_227 : decode prog_14_method_219_code 227 = .ok (.i2l, 1) := by decide +kernel
theorem zd_215_228 : decode prog_14_method_219_code 228 = .ok (.ldc2_w 1245, 3) := by decide +kernel
theorem zd_215_231 : decode prog_14_method_219_code 231 = .ok (.land, 1) := by decide +kernel
theorem zd_215_232 : decode prog_14_method_219_code 232 = .ok (.lcmp, 1) := by decide +kernel
theorem zd_215_233 : decode prog_14_method_219_code 233 = .ok (.ifCond .ge 7, 3) := by decide +kernel
theorem zd_215_236 : decode prog_14_method_219_code 236 = .ok (.iconst 1, 1) := by decide +kernel
theorem zd_215_237 : decode prog_14_method_219_code 237 = .ok (.goto 4, 3) := by decide +kernel
theorem zd_215_240 : decode prog_14_method_219_code 240 = .ok (.iconst 0, 1) := by decide +kernel
theorem zd_215_241 : decode prog_14_method_219_code 241 = .ok (.invokevirtual 1690, 3) := by decide +kernel
theorem zd_215_244 : decode prog_14_method_219_code 244 = .ok (.goto 103, 3) := by decide +kernel
theorem zd_215_247 : decode prog_14_method_219_code 247 = .ok (.aload_n 0, 1) := by decide +kernel
theorem zd_215_248 : decode prog_14_method_219_code 248 = .ok (.iload 5, 2) := by decide +kernel
theorem zd_215_250 : decode prog_14_method_219_code 250 = .ok (.iload 4, 2) := by decide +kernel
theorem zd_215_252 : decode prog_14_method_219_code 252 = .ok (.iload 6, 2) := by decide +kernel
theorem zd_215_254 : decode prog_14_method_219_code 254 = .ok (.ishl, 1) := by decide +kernel
theorem zd_215_255 : decode prog_14_method_219_code 255 = .ok (.invokevirtual 1690, 3) := by decide +kernel
theorem zd_215_258 : decode prog_14_method_219_code 258 = .ok (.goto 89, 3) := by decide +kernel
theorem zd_215_261 : decode prog_14_method_219_code 261 = .ok (.aload_n 0, 1) := by decide +kernel
theorem zd_215_262 : decode prog_14_method_219_code 262 = .ok (.iload 5, 2) := by decide +kernel
theorem zd_215_264 : decode prog_14_method_219_code 264 = .ok (.iload 4, 2) := by decide +kernel
theorem zd_215_266 : decode prog_14_method_219_code 266 = .ok (.iload 6, 2) := by decide +kernel
theorem zd_215_268 : decode prog_14_method_219_code 268 = .ok (.iushr, 1) := by decide +kernel
theorem zd_215_269 : decode prog_14_method_219_code 269 = .ok (.invokevirtual 1690, 3) := by decide +kernel
theorem zd_215_272 : decode prog_14_method_219_code 272 = .ok (.goto 75, 3) := by decide +kernel
theorem zd_215_275 : decode prog_14_method_219_code 275 = .ok (.aload_n 0, 1) := by decide +kernel
theorem zd_215_276 : decode prog_14_method_219_code 276 = .ok (.iload 5, 2) := by decide +kernel
theorem zd_215_278 : decode prog_14_method_219_code 278 = .ok (.iload 4, 2) := by decide +kernel
theorem zd_215_280 : decode prog_14_method_219_code 280 = .ok (.iload 6, 2) := by decide +kernel
theorem zd_215_282 : decode prog_14_method_219_code 282 = .ok (.ishr, 1) := by decide +kernel
theorem zd_215_283 : decode prog_14_method_219_code 283 = .ok (.invokevirtual 1690, 3) := by decide +kernel
theorem zd_215_286 : decode prog_14_method_219_code 286 = .ok (.goto 61, 3) := by decide +kernel
theorem zd_215_289 : decode prog_14_method_219_code 289 = .ok (.aload_n 0, 1) := by decide +kernel
theorem zd_215_290 : decode prog_14_method_219_code 290 = .ok (.iload 5, 2) := by decide +kernel
theorem zd_215_292 : decode prog_14_method_219_code 292 = .ok (.iload 4, 2) := by decide +kernel
theorem zd_215_294 : decode prog_14_method_219_code 294 = .ok (.iload_n 3, 1) := by decide +kernel
theorem zd_215_295 : decode prog_14_method_219_code 295 = .ok (.bipush 31, 2) := by decide +kernel
theorem zd_215_297 : decode prog_14_method_219_code 297 = .ok (.iand, 1) := by decide +kernel
theorem zd_215_298 : decode prog_14_method_219_code 298 = .ok (.ishl, 1) := by decide +kernel
theorem zd_215_299 : decode prog_14_method_219_code 299 = .ok (.invokevirtual 1690, 3) := by decide +kernel
theorem zd_215_302 : decode prog_14_method_219_code 302 = .ok (.goto 45, 3) := by decide +kernel
theorem zd_215_305 : decode prog_14_method_219_code 305 = .ok (.aload_n 0, 1) := by decide +kernel
theorem zd_215_306 : decode prog_14_method_219_code 306 = .ok (.iload 5, 2) := by decide +kernel
theorem zd_215_308 : decode prog_14_method_219_code 308 = .ok (.iload 4, 2) := by decide +kernel
theorem zd_215_310 : decode prog_14_method_219_code 310 = .ok (.iload_n 3, 1) := by decide +kernel
theorem zd_215_311 : decode prog_14_method_219_code 311 = .ok (.bipush 31, 2) := by decide +kernel
theorem zd_215_313 : decode prog_14_method_219_code 313 = .ok (.iand, 1) := by decide +kernel
theorem zd_215_314 : decode prog_14_method_219_code 314 = .ok (.iushr, 1) := by decide +kernel
theorem zd_215_315 : decode prog_14_method_219_code 315 = .ok (.invokevirtual 1690, 3) := by decide +kernel
theorem zd_215_318 : decode prog_14_method_219_code 318 = .ok (.goto 29, 3) := by decide +kernel
theorem zd_215_321 : decode prog_14_method_219_code 321 = .ok (.aload_n 0, 1) := by decide +kernel
theorem zd_215_322 : decode prog_14_method_219_code 322 = .ok (.iload 5, 2) := by decide +kernel
theorem zd_215_324 : decode prog_14_method_219_code 324 = .ok (.iload 4, 2) := by decide +kernel
theorem zd_215_326 : decode prog_14_method_219_code 326 = .ok (.iload_n 3, 1) := by decide +kernel
theorem zd_215_327 : decode prog_14_method_219_code 327 = .ok (.bipush 31, 2) := by decide +kernel
theorem zd_215_329 : decode prog_14_method_219_code 329 = .ok (.iand, 1) := by decide +kernel
theorem zd_215_330 : decode prog_14_method_219_code 330 = .ok (.ishr, 1) := by decide +kernel
theorem zd_215_331 : decode prog_14_method_219_code 331 = .ok (.invokevirtual 1690, 3) := by decide +kernel
theorem zd_215_334 : decode prog_14_method_219_code 334 = .ok (.goto 13, 3) := by decide +kernel
theorem zd_215_337 : decode prog_14_method_219_code 337 = .ok (.aload_n 0, 1) := by decide +kernel
theorem zd_215_338 : decode prog_14_method_219_code 338 = .ok (.iload_n 1, 1) := by decide +kernel
theorem zd_215_339 : decode prog_14_method_219_code 339 = .ok (.iload_n 3, 1) := by decide +kernel
theorem zd_215_340 : decode prog_14_method_219_code 340 = .ok (.iload 4, 2) := by decide +kernel
theorem zd_215_342 : decode prog_14_method_219_code 342 = .ok (.iload 5, 2) := by decide +kernel
theorem zd_215_344 : decode prog_14_method_219_code 344 = .ok (.invokevirtual 1696, 3) := by decide +kernel
theorem zd_216_0 : decode prog_14_method_209_code 0 = .ok (.aload_n 0, 1) := by decide +kernel
theorem zd_216_1 : decode prog_14_method_209_code 1 = .ok (.getfield 452, 3) := by decide +kernel
theorem zd_216_4 : decode prog_14_method_209_code 4 = .ok (.iload_n 1, 1) := by decide +kernel
theorem zd_216_5 : decode prog_14_method_209_code 5 = .ok (.aload_n 0, 1) := by decide +kernel
theorem zd_216_6 : decode prog_14_method_209_code 6 = .ok (.getfield 1597, 3) := by decide +kernel
theorem zd_216_9 : decode prog_14_method_209_code 9 = .ok (.isub, 1) := by decide +kernel
theorem zd_216_10 : decode prog_14_method_209_code 10 = .ok (.baload, 1) := by decide +kernel
theorem zd_216_11 : decode prog_14_method_209_code 11 = .ok (.sipush 255, 3) := by decide +kernel
theorem zd_216_14 : decode prog_14_method_209_code 14 = .ok (.iand, 1) := by decide +kernel
theorem zd_217_0 : decode prog_14_method_233_code 0 = .ok (.aload_n 0, 1) := by decide +kernel
theorem zd_217_1 : decode prog_14_method_233_code 1 = .ok (.bipush 36, 2) := by decide +kernel
theorem zd_217_3 : decode prog_14_method_233_code 3 = .ok (.invokevirtual 1730, 3) := by decide +kernel
theorem zd_217_6 : decode prog_14_method_233_code 6 = .ok (.aload_n 0, 1) := by decide +kernel
theorem zd_217_7 : decode prog_14_method_233_code 7 = .ok (.bipush 93, 2) := by decide +kernel
theorem zd_217_9 : decode prog_14_method_233_code 9 = .ok (.iload_n 1, 1) := by decide +kernel
theorem zd_217_10 : decode prog_14_method_233_code 10 = .ok (.iadd, 1) := by decide +kernel
theorem zd_217_11 : decode prog_14_method_233_code 11 = .ok (.invokevirtual 1733, 3) := by decide +kernel
theorem zd_217_14 : decode prog_14_method_233_code 14 = .ok (.iload_n 2, 1) := by decide +kernel
theorem zd_217_15 : decode prog_14_method_233_code 15 = .ok (.ifCond .eq 9, 3) := by decide +kernel
theorem zd_217_18 : decode prog_14_method_233_code 18 = .ok (.aload_n 0, 1) := by decide +kernel
theorem zd_217_19 : decode prog_14_method_233_code 19 = .ok (.bipush 44, 2) := by decide +kernel
theorem zd_217_21 : decode prog_14_method_233_code 21 = .ok (.invokevirtual 1730, 3) := by decide +kernel
theorem zd_218_0 : decode prog_14_method_239_code 0 = .ok (.aload_n 0, 1) := by decide +kernel
theorem zd_218_1 : decode prog_14_method_239_code 1 = .ok (.iload_n 1, 1) := by decide +kernel
theorem zd_218_2 : decode prog_14_method_239_code 2 = .ok (.putfield 1750, 3) := by decide +kernel
theorem zd_218_5 : decode prog_14_method_239_code 5 = .ok (.aload_n 0, 1) := by decide +kernel
theorem zd_218_6 : decode prog_14_method_239_code 6 = .ok (.iload_n 2, 1) := by decide +kernel
theorem zd_218_7 : decode prog_14_method_239_code 7 = .ok (.putfield 1753, 3) := by decide +kernel
theorem zd_218_10 : decode prog_14_method_239_code 10 = .ok (.aload_n 0, 1) := by decide +kernel
theorem zd_218_11 : decode prog_14_method_239_code 11 = .ok (.iconst 1, 1) := by decide +kernel
theorem zd_218_12 : decode prog_14_method_239_code 12 = .ok (.putfield 1756, 3) := by decide +kernel
theorem zd_219_0 : decode prog_14_method_240_code 0 = .ok (.bipush 10, 2) := by decide +kernel
theorem zd_219_2 : decode prog_14_method_240_code 2 = .ok (.aload_n 0, 1) := by decide +kernel
theorem zd_219_3 : decode prog_14_method_240_code 3 = .ok (.getfield 1759, 3) := by decide +kernel
theorem zd_219_6 : decode prog_14_method_240_code 6 = .ok (.iconst 1, 1) := by decide +kernel
theorem zd_219_7 : decode prog_14_method_240_code 7 = .ok (.isub, 1) := by decide +kernel
theorem zd_219_8 : decode prog_14_method_240_code 8 = .ok (.imul, 1) := by decide +kernel
theorem zd_219_9 : decode prog_14_method_240_code 9 = .ok (.iload_n 1, 1) := by decide +kernel
theorem zd_219_10 : decode prog_14_method_240_code 10 = .ok (.iadd, 1) := by decide +kernel
theorem zd_220_0 : decode prog_14_method_244_code 0 = .ok (.aload_n 0, 1) := by decide +kernel
theorem zd_220_1 : decode prog_14_method_244_code 1 = .ok (.getfield 1777, 3) := by decide +kernel
theorem zd_220_4 : decode prog_14_method_244_code 4 = .ok (.aload_n 0, 1) := by decide +kernel
theorem zd_220_5 : decode prog_14_method_244_code 5 = .ok (.getfield 1780, 3) := by decide +kernel
theorem zd_220_8 : decode prog_14_method_244_code 8 = .ok (.if_icmp .ne 11, 3) := by decide +kernel
theorem zd_220_11 : decode prog_14_method_244_code 11 = .ok (.aload_n 0, 1) := by decide +kernel
theorem zd_220_12 : decode prog_14_method_244_code 12 = .ok (.iconst 0, 1) := by decide +kernel
theorem zd_220_13 : decode prog_14_method_244_code 13 = .ok (.iconst 0, 1) := by decide +kernel
theorem zd_220_14 : decode prog_14_method_244_code 14 = .ok (.invokevirtual 1765, 3) := by decide +kernel
theorem zd_220_17 : decode prog_14_method_244_code 17 = .ok (.iconst 0, 1) := by decide +kernel
theorem zd_220_19 : decode prog_14_method_244_code 19 = .ok (.aload_n 0, 1) := by decide +kernel
theorem zd_220_20 : decode prog_14_method_244_code 20 = .ok (.dup, 1) := by decide +kernel
theorem zd_220_21 : decode prog_14_method_244_code 21 = .ok (.getfield 1777, 3) := by decide +kernel
theorem zd_220_24 : decode prog_14_method_244_code 24 = .ok (.iconst 1, 1) := by decide +kernel
theorem zd_220_25 : decode prog_14_method_244_code 25 = .ok (.iadd, 1) := by decide +kernel
theorem zd_220_26 : decode prog_14_method_244_code 26 = .ok (.putfield 1777, 3) := by decide +kernel
theorem zd_220_29 : decode prog_14_method_244_code 29 = .ok (.iconst 1, 1) := by decide +kernel
theorem zd_221_0 : decode prog_14_method_243_code 0 = .ok (.aload_n 0, 1) := by decide +kernel
theorem zd_221_1 : decode prog_14_method_243_code 1 = .ok (.dup, 1) := by decide +kernel
theorem zd_221_2 : decode prog_14_method_243_code 2 = .ok (.getfield 1759, 3) := by decide +kernel
theorem zd_221_5 : decode prog_14_method_243_code 5 = .ok (.iconst 1, 1) := by decide +kernel
theorem zd_221_6 : decode prog_14_method_243_code 6 = .ok (.isub, 1) := by decide +kernel
theorem zd_221_7 : decode prog_14_method_243_code 7 = .ok (.putfield 1759, 3) := by decide +kernel
theorem zd_221_10 : decode prog_14_method_243_code 10 = .ok (.aload_n 0, 1) := by decide +kernel
theorem zd_221_11 : decode prog_14_method_243_code 11 = .ok (.getfield 1759, 3) := by decide +kernel
theorem zd_221_14 : decode prog_14_method_243_code 14 = .ok (.ifCond .ne 10, 3) := by decide +kernel
theorem zd_221_17 : decode prog_14_method_243_code 17 = .ok (.aload_n 0, 1) := by decide +kernel
theorem zd_221_18 : decode prog_14_method_243_code 18 = .ok (.iconst 1, 1) := by decide +kernel
theorem zd_221_19 : decode prog_14_method_243_code 19 = .ok (.iload_n 1, 1) := by decide +kernel
theorem zd_221_20 : decode prog_14_method_243_code 20 = .ok (.invokevirtual 1765, 3) := by decide +kernel
theorem zd_221_24 : decode prog_14_method_243_code 24 = .ok (.aload_n 0, 1) := by decide +kernel
theorem zd_221_25 : decode prog_14_method_243_code 25 = .ok (.aload_n 0, 1) := by decide +kernel
theorem zd_221_26 : decode prog_14_method_243_code 26 = .ok (.getfield 483, 3) := by decide +kernel
theorem zd_221_29 : decode prog_14_method_243_code 29 = .ok (.aload_n 0, 1) := by decide +kernel
theorem zd_221_30 : decode prog_14_method_243_code 30 = .ok (.getfield 1759, 3) := by decide +kernel
theorem zd_221_33 : decode prog_14_method_243_code 33 = .ok (.iaload, 1) := by decide +kernel
theorem zd_221_34 : decode prog_14_method_243_code 34 = .ok (.putfield 1771, 3) := by decide +kernel
theorem zd_221_37 : decode prog_14_method_243_code 37 = .ok (.aload_n 0, 1) := by decide +kernel
theorem zd_221_38 : decode prog_14_method_243_code 38 = .ok (.aload_n 0, 1) := by decide +kernel
theorem zd_221_39 : decode prog_14_method_243_code 39 = .ok (.getfield 486, 3) := by decide +kernel
theorem zd_221_42 : decode prog_14_method_243_code 42 = .ok (.aload_n 0, 1) := by decide +kernel
theorem zd_221_43 : decode prog_14_method_243_code 43 = .ok (.getfield 1759, 3) := by decide +kernel
theorem zd_221_46 : decode prog_14_method_243_code 46 = .ok (.iaload, 1) := by decide +kernel
theorem zd_221_47 : decode prog_14_method_243_code 47 = .ok (.iload_n 1, 1) := by decide +kernel
theorem zd_221_48 : decode prog_14_method_243_code 48 = .ok (.invokevirtual 1774, 3) := by decide +kernel
theorem zd_222_0 : decode prog_14_method_248_code 0 = .ok (.aload_n 0, 1) := by decide +kernel
theorem zd_222_1 : decode prog_14_method_248_code 1 = .ok (.getfield 136, 3) := by decide +kernel
theorem zd_222_4 : decode prog_14_method_248_code 4 = .ok (.iload_n 1, 1) := by decide +kernel
theorem zd_222_5 : decode prog_14_method_248_code 5 = .ok (.iaload, 1) := by decide +kernel
theorem zd_222_6 : decode prog_14_method_248_code 6 = .ok (.istore_n 2, 1) := by decide +kernel
theorem zd_222_7 : decode prog_14_method_248_code 7 = .ok (.aload_n 0, 1) := by decide +kernel
theorem zd_222_8 : decode prog_14_method_248_code 8 = .ok (.getfield 139, 3) := by decide +kernel
theorem zd_222_11 : decode prog_14_method_248_code 11 = .ok (.iload_n 1, 1) := by decide +kernel
theorem zd_222_12 : decode prog_14_method_248_code 12 = .ok (.iaload, 1) := by decide +kernel
theorem zd_222_13 : decode prog_14_method_248_code 13 = .ok (.istore_n 3, 1) := by decide +kernel
theorem zd_222_14 : decode prog_14_method_248_code 14 = .ok (.aload_n 0, 1) := by decide +kernel
theorem zd_222_15 : decode prog_14_method_248_code 15 = .ok (.getfield 142, 3) := by decide +kernel
theorem zd_222_18 : decode prog_14_method_248_code 18 = .ok (.iload_n 1, 1) := by decide +kernel
theorem zd_222_19 : decode prog_14_method_248_code 19 = .ok (.iaload, 1) := by decide +kernel
theorem zd_222_20 : decode prog_14_method_248_code 20 = .ok (.istore 4, 2) := by decide +kernel
theorem zd_222_22 : decode prog_14_method_248_code 22 = .ok (.sipush 405, 3) := by decide +kernel
theorem zd_222_25 : decode prog_14_method_248_code 25 = .ok (.aload_n 0, 1) := by decide +kernel
theorem zd_222_26 : decode prog_14_method_248_code 26 = .ok (.getfield 1759, 3) := by decide +kernel
theorem zd_222_29 : decode prog_14_method_248_code 29 = .ok (.iconst 1, 1) := by decide +kernel
theorem zd_222_30 : decode prog_14_method_248_code 30 = .ok (.isub, 1) := by decide +kernel
theorem zd_222_31 : decode prog_14_method_248_code 31 = .ok (.imul, 1) := by decide +kernel
theorem zd_222_32 : decode prog_14_method_248_code 32 = .ok (.istore 5, 2) := by decide +kernel
theorem zd_222_34 : decode prog_14_method_248_code 34 = .ok (.aload_n 0, 1) := by decide +kernel
theorem zd_222_35 : decode prog_14_method_248_code 35 = .ok (.getfield 133, 3) := by decide +kernel
theorem zd_222_38 : decode prog_14_method_248_code 38 = .ok (.iload_n 1, 1) := by decide +kernel
theorem zd_222_39 : decode prog_14_method_248_code 39 = .ok (.iaload, 1) := by decide +kernel
theorem zd_222_40 : decode prog_14_method_248_code 40 = .ok (.tableswitch 483 3 12 #[56, 66, 75, 112, 173, 483, 234, 291, 359, 410], 56) := by decide +kernel
theorem zd_222_96 : decode prog_14_method_248_code 96 = .ok (.aload_n 0, 1) := by decide +kernel
theorem zd_222_97 : decode prog_14_method_248_code 97 = .ok (.iload 4, 2) := by decide +kernel
theorem zd_222_99 : decode prog_14_method_248_code 99 = .ok (.iload_n 2, 1) := by decide +kernel
theorem zd_222_100 : decode prog_14_method_248_code 100 = .ok (.invokevirtual 1774, 3) := by decide +kernel
theorem zd_222_103 : decode prog_14_method_248_code 103 = .ok (.goto 459, 3) := by decide +kernel
theorem zd_222_106 : decode prog_14_method_248_code 106 = .ok (.aload_n 0, 1) := by decide +kernel
theorem zd_222_107 : decode prog_14_method_248_code 107 = .ok (.iload 4, 2) := by decide +kernel
theorem zd_222_109 : decode prog_14_method_248_code 109 = .ok (.invokevirtual 1786, 3) := by decide +kernel
theorem zd_222_112 : decode prog_14_method_248_code 112 = .ok (.goto 450, 3) := by decide +kernel
theorem zd_222_115 : decode prog_14_method_248_code 115 = .ok (.aload_n 0, 1) := by decide +kernel
theorem zd_222_116 : decode prog_14_method_248_code 116 = .ok (.iload 4, 2) := by decide +kernel
theorem zd_222_118 : decode prog_14_method_248_code 118 = .ok (.iload_n 3, 1) := by decide +kernel
theorem zd_222_119 : decode prog_14_method_248_code 119 = .ok (.ifCond .lt 17, 3) := by decide +kernel
theorem zd_222_122 : decode prog_14_method_248_code 122 = .ok (.aload_n 0, 1) := by decide +kernel
theorem zd_222_123 : decode prog_14_method_248_code 123 = .ok (.getfield 489, 3) := by decide +kernel
theorem zd_222_126 : decode prog_14_method_248_code 126 = .ok (.iload 5, 2) := by decide +kernel
theorem zd_222_128 : decode prog_14_method_248_code 128 = .ok (.iload_n 3, 1) := by decide +kernel
theorem zd_222_129 : decode prog_14_method_248_code 129 = .ok (.iconst 4, 1) := by decide +kernel
theorem zd_222_130 : decode prog_14_method_248_code 130 = .ok (.idiv, 1) := by decide +kernel
theorem zd_222_131 : decode prog_14_method_248_code 131 = .ok (.iadd, 1) := by decide +kernel
theorem zd_222_132 : decode prog_14_method_248_code 132 = .ok (.iaload, 1) := by decide +kernel
theorem zd_222_133 : decode prog_14_method_248_code 133 = .ok (.goto 13, 3) := by decide +kernel
theorem zd_222_136 : decode prog_14_method_248_code 136 = .ok (.aload_n 0, 1) := by decide +kernel
theorem zd_222_137 : decode prog_14_method_248_code 137 = .ok (.getfield 477, 3) := by decide +kernel
theorem zd_222_140 : decode prog_14_method_248_code 140 = .ok (.aload_n 0, 1) := by decide +kernel
theorem zd_222_141 : decode prog_14_method_248_code 141 = .ok (.iload_n 1, 1) := by decide +kernel
theorem zd_222_142 : decode prog_14_method_248_code 142 = .ok (.invokevirtual 1789, 3) := by decide +kernel
theorem zd_222_145 : decode prog_14_method_248_code 145 = .ok (.iaload, 1) := by decide +kernel
theorem zd_222_146 : decode prog_14_method_248_code 146 = .ok (.invokevirtual 1774, 3) := by decide +kernel
theorem zd_222_149 : decode prog_14_method_248_code 149 = .ok (.goto 413, 3) := by decide +kernel
theorem zd_222_152 : decode prog_14_method_248_code 152 = .ok (.iload_n 3, 1) := by decide +kernel
theorem zd_222_153 : decode prog_14_method_248_code 153 = .ok (.ifCond .lt 12, 3) := by decide +kernel
theorem zd_222_156 : decode prog_14_method_248_code 156 = .ok (.aload_n 0, 1) := by decide +kernel
theorem zd_222_157 : decode prog_14_method_248_code 157 = .ok (.getfield 145, 3) := by decide +kernel
theorem zd_222_160 : decode prog_14_method_248_code 160 = .ok (.iload_n 1, 1) := by decide +kernel
theorem zd_222_161 : decode prog_14_method_248_code 161 = .ok (.iaload, 1) := by decide +kernel
theorem zd_222_162 : decode prog_14_method_248_code 162 = .ok (.goto 18, 3) := by decide +kernel
theorem zd_222_165 : decode prog_14_method_248_code 165 = .ok (.aload_n 0, 1) := by decide +kernel
theorem zd_222_166 : decode prog_14_method_248_code 166 = .ok (.getfield 157, 3) := by decide +kernel
theorem zd_222_169 : decode prog_14_method_248_code 169 = .ok (.aload_n 0, 1) := by decide +kernel
theorem zd_222_170 : decode prog_14_method_248_code 170 = .ok (.iload_n 1, 1) := by decide +kernel
theorem zd_222_171 : decode prog_14_method_248_code 171 = .ok (.sipush 8000, 3) := by decide +kernel
theorem zd_222_174 : decode prog_14_method_248_code 174 = .ok (.idiv, 1) := by decide +kernel
theorem zd_222_175 : decode prog_14_method_248_code 175 = .ok (.iload_n 2, 1) := by decide +kernel
theorem zd_222_176 : decode prog_14_method_248_code 176 = .ok (.invokevirtual 1745, 3) := by decide +kernel
theorem zd_222_179 : decode prog_14_method_248_code 179 = .ok (.iaload, 1) := by decide +kernel
theorem zd_222_180 : decode prog_14_method_248_code 180 = .ok (.istore 6, 2) := by decide +kernel
theorem zd_222_182 : decode prog_14_method_248_code 182 = .ok (.aload_n 0, 1) := by decide +kernel
theorem zd_222_183 : decode prog_14_method_248_code 183 = .ok (.getfield 492, 3) := by decide +kernel
theorem zd_222_186 : decode prog_14_method_248_code 186 = .ok (.aload_n 0, 1) := by decide +kernel
theorem zd_222_187 : decode prog_14_method_248_code 187 = .ok (.iload 4, 2) := by decide +kernel
theorem zd_222_189 : decode prog_14_method_248_code 189 = .ok (.invokevirtual 1762, 3) := by decide +kernel
theorem zd_222_192 : decode prog_14_method_248_code 192 = .ok (.iaload, 1) := by decide +kernel
theorem zd_222_193 : decode prog_14_method_248_code 193 = .ok (.iconst 0, 1) := by decide +kernel
theorem zd_222_194 : decode prog_14_method_248_code 194 = .ok (.iload 6, 2) := by decide +kernel
theorem zd_222_196 : decode prog_14_method_248_code 196 = .ok (.iconst 1, 1) := by decide +kernel
theorem zd_222_197 : decode prog_14_method_248_code 197 = .ok (.isub, 1) := by decide +kernel
theorem zd_222_198 : decode prog_14_method_248_code 198 = .ok (.invokestatic 504, 3) := by decide +kernel
theorem zd_222_201 : decode prog_14_method_248_code 201 = .ok (.ifCond .ne 361, 3) := by decide +kernel
theorem zd_222_204 : decode prog_14_method_248_code 204 = .ok (.aload_n 0, 1) := by decide +kernel
theorem zd_222_205 : decode prog_14_method_248_code 205 = .ok (.iconst 2, 1) := by decide +kernel
theorem zd_222_206 : decode prog_14_method_248_code 206 = .ok (.iconst 2, 1) := by decide +kernel
theorem zd_222_207 : decode prog_14_method_248_code 207 = .ok (.invokevirtual 1765, 3) := by decide +kernel
theorem zd_222_210 : decode prog_14_method_248_code 210 = .ok (.goto 352, 3) := by decide +kernel
theorem zd_222_213 : decode prog_14_method_248_code 213 = .ok (.aload_n 0, 1) := by decide +kernel
theorem zd_222_214 : decode prog_14_method_248_code 214 = .ok (.iload 4, 2) := by decide +kernel
theorem zd_222_216 : decode prog_14_method_248_code 216 = .ok (.iload_n 3, 1) := by decide +kernel
theorem zd_222_217 : decode prog_14_method_248_code 217 = .ok (.ifCond .lt 29, 3) := by decide +kernel
theorem zd_222_220 : decode prog_14_method_248_code 220 = .ok (.aload_n 0, 1) := by decide +kernel
theorem zd_222_221 : decode prog_14_method_248_code 221 = .ok (.getfield 489, 3) := by decide +kernel
theorem zd_222_224 : decode prog_14_method_248_code 224 = .ok (.iload 5, 2) := by decide +kernel
theorem zd_222_226 : decode prog_14_method_248_code 226 = .ok (.iload_n 3, 1) := by decide +kernel
theorem zd_222_227 : decode prog_14_method_248_code 227 = .ok (.iconst 4, 1) := by decide +kernel
theorem zd_222_228 : decode prog_14_method_248_code 228 = .ok (.idiv, 1) := by decide +kernel
theorem zd_222_229 : decode prog_14_method_248_code 229 = .ok (.iadd, 1) := by decide +kernel
theorem zd_222_230 : decode prog_14_method_248_code 230 = .ok (.aload_n 0, 1) := by decide +kernel
theorem zd_222_231 : decode prog_14_method_248_code 231 = .ok (.getfield 492, 3) := by decide +kernel
theorem zd_222_234 : decode prog_14_method_248_code 234 = .ok (.aload_n 0, 1) := by decide +kernel
theorem zd_222_235 : decode prog_14_method_248_code 235 = .ok (.iload 4, 2) := by decide +kernel
theorem zd_222_237 : decode prog_14_method_248_code 237 = .ok (.invokevirtual 1762, 3) := by decide +kernel
theorem zd_222_240 : decode prog_14_method_248_code 240 = .ok (.iaload, 1) := by decide +kernel
theorem zd_222_241 : decode prog_14_method_248_code 241 = .ok (.iadd, 1) := by decide +kernel
theorem zd_222_242 : decode prog_14_method_248_code 242 = .ok (.iaload, 1) := by decide +kernel
theorem zd_222_243 : decode prog_14_method_248_code 243 = .ok (.goto 25, 3) := by decide +kernel
theorem zd_222_246 : decode prog_14_method_248_code 246 = .ok (.aload_n 0, 1) := by decide +kernel
theorem zd_222_247 : decode prog_14_method_248_code 247 = .ok (.getfield 477, 3) := by decide +kernel
theorem zd_222_250 : decode prog_14_method_248_code 250 = .ok (.aload_n 0, 1) := by decide +kernel
theorem zd_222_251 : decode prog_14_method_248_code 251 = .ok (.iload_n 1, 1) := by decide +kernel
theorem zd_222_252 : decode prog_14_method_248_code 252 = .ok (.invokevirtual 1789, 3) := by decide +kernel
theorem zd_222_255 : decode prog_14_method_248_code 255 = .ok (.aload_n 0, 1) := by decide +kernel
theorem zd_222_256 : decode prog_14_method_248_code 256 = .ok (.getfield 492, 3) := by decide +kernel
theorem zd_222_259 : decode prog_14_method_248_code 259 = .ok (.aload_n 0, 1) := by decide +kernel
theorem zd_222_260 : decode prog_14_method_248_code 260 = .ok (.iload 4, 2) := by decide +kernel
theorem zd_222_262 : decode prog_14_method_248_code 262 = .ok (.invokevirtual 1762, 3) := by decide +kernel
theorem zd_222_265 : decode prog_14_method_248_code 265 = .ok (.iaload, 1) := by decide +kernel
theorem zd_222_266 : decode prog_14_method_248_code 266 = .ok (.iadd, 1) := by decide +kernel
theorem zd_222_267 : decode prog_14_method_248_code 267 = .ok (.iaload, 1) := by decide +kernel
theorem zd_222_268 : decode prog_14_method_248_code 268 = .ok (.invokevirtual 1774, 3) := by decide +kernel
theorem zd_222_271 : decode prog_14_method_248_code 271 = .ok (.goto 291, 3) := by decide +kernel
theorem zd_222_274 : decode prog_14_method_248_code 274 = .ok (.aload_n 0, 1) := by decide +kernel
theorem zd_222_275 : decode prog_14_method_248_code 275 = .ok (.getfield 492, 3) := by decide +kernel
theorem zd_222_278 : decode prog_14_method_248_code 278 = .ok (.aload_n 0, 1) := by decide +kernel
theorem zd_222_279 : decode prog_14_method_248_code 279 = .ok (.iload 4, 2) := by decide +kernel
theorem zd_222_281 : decode prog_14_method_248_code 281 = .ok (.invokevirtual 1762, 3) := by decide +kernel
theorem zd_222_284 : decode prog_14_method_248_code 284 = .ok (.iaload, 1) := by decide +kernel
theorem zd_222_285 : decode prog_14_method_248_code 285 = .ok (.istore 6, 2) := by decide +kernel
theorem zd_222_287 : decode prog_14_method_248_code 287 = .ok (.aload_n 0, 1) := by decide +kernel
theorem zd_222_288 : decode prog_14_method_248_code 288 = .ok (.iload 4, 2) := by decide +kernel
theorem zd_222_290 : decode prog_14_method_248_code 290 = .ok (.iload_n 2, 1) := by decide +kernel
theorem zd_222_291 : decode prog_14_method_248_code 291 = .ok (.bipush 45, 2) := by decide +kernel
theorem zd_222_293 : decode prog_14_method_248_code 293 = .ok (.if_icmp .ne 9, 3) := by decide +kernel
theorem zd_222_296 : decode prog_14_method_248_code 296 = .ok (.iload 6, 2) := by decide +kernel
theorem zd_222_298 : decode prog_14_method_248_code 298 = .ok (.ineg, 1) := by decide +kernel
theorem zd_222_299 : decode prog_14_method_248_code 299 = .ok (.goto 26, 3) := by decide +kernel
theorem zd_222_302 : decode prog_14_method_248_code 302 = .ok (.iload_n 2, 1) := by decide +kernel
theorem zd_222_303 : decode prog_14_method_248_code 303 = .ok (.bipush 126, 2) := by decide +kernel
theorem zd_222_305 : decode prog_14_method_248_code 305 = .ok (.if_icmp .ne 10, 3) := by decide +kernel
theorem zd_222_308 : decode prog_14_method_248_code 308 = .ok (.iload 6, 2) := by decide +kernel
theorem zd_222_310 : decode prog_14_method_248_code 310 = .ok (.iconst (-1), 1) := by decide +kernel
theorem zd_222_311 : decode prog_14_method_248_code 311 = .ok (.ixor, 1) := by decide +kernel
theorem zd_222_312 : decode prog_14_method_248_code 312 = .ok (.goto 13, 3) := by decide +kernel
theorem zd_222_315 : decode prog_14_method_248_code 315 = .ok (.iload 6, 2) := by decide +kernel
theorem zd_222_317 : decode prog_14_method_248_code 317 = .ok (.ifCond .ne 7, 3) := by decide +kernel
theorem zd_222_320 : decode prog_14_method_248_code 320 = .ok (.iconst 1, 1) := by decide +kernel
theorem zd_222_321 : decode prog_14_method_248_code 321 = .ok (.goto 4, 3) := by decide +kernel
theorem zd_222_324 : decode prog_14_method_248_code 324 = .ok (.iconst 0, 1) := by decide +kernel
theorem zd_222_325 : decode prog_14_method_248_code 325 = .ok (.invokevirtual 1774, 3) := by decide +kernel
theorem zd_222_328 : decode prog_14_method_248_code 328 = .ok (.goto 234, 3) := by decide +kernel
theorem zd_222_331 : decode prog_14_method_248_code 331 = .ok (.aload_n 0, 1) := by decide +kernel
theorem zd_222_332 : decode prog_14_method_248_code 332 = .ok (.getfield 492, 3) := by decide +kernel
theorem zd_222_335 : decode prog_14_method_248_code 335 = .ok (.aload_n 0, 1) := by decide +kernel
theorem zd_222_336 : decode prog_14_method_248_code 336 = .ok (.iload 4, 2) := by decide +kernel
theorem zd_222_338 : decode prog_14_method_248_code 338 = .ok (.iconst 1, 1) := by decide +kernel
theorem zd_222_339 : decode prog_14_method_248_code 339 = .ok (.iadd, 1) := by decide +kernel
theorem zd_222_340 : decode prog_14_method_248_code 340 = .ok (.invokevirtual 1762, 3) := by decide +kernel
theorem zd_222_343 : decode prog_14_method_248_code 343 = .ok (.iaload, 1) := by decide +kernel
theorem zd_222_344 : decode prog_14_method_248_code 344 = .ok (.istore 6, 2) := by decide +kernel
theorem zd_222_346 : decode prog_14_method_248_code 346 = .ok (.iload_n 2, 1) := by decide +kernel
theorem zd_222_347 : decode prog_14_method_248_code 347 = .ok (.bipush 47, 2) := by decide +kernel
theorem zd_222_349 : decode prog_14_method_248_code 349 = .ok (.if_icmp .eq 9, 3) := by decide +kernel
theorem zd_222_352 : decode prog_14_method_248_code 352 = .ok (.iload_n 2, 1) := by decide +kernel
theorem zd_222_353 : decode prog_14_method_248_code 353 = .ok (.bipush 37, 2) := by decide +kernel
theorem zd_222_355 : decode prog_14_method_248_code 355 = .ok (.if_icmp .ne 17, 3) := by decide +kernel
theorem zd_222_358 : decode prog_14_method_248_code 358 = .ok (.iload 6, 2) := by decide +kernel
theorem zd_222_360 : decode prog_14_method_248_code 360 = .ok (.ifCond .ne 12, 3) := by decide +kernel
theorem zd_222_363 : decode prog_14_method_248_code 363 = .ok (.aload_n 0, 1) := by decide +kernel
theorem zd_222_364 : decode prog_14_method_248_code 364 = .ok (.iconst 2, 1) := by decide +kernel
theorem zd_222_365 : decode prog_14_method_248_code 365 = .ok (.iconst 1, 1) := by decide +kernel
theorem zd_222_366 : decode prog_14_method_248_code 366 = .ok (.invokevirtual 1765, 3) := by decide +kernel
theorem zd_222_369 : decode prog_14_method_248_code 369 = .ok (.goto 193, 3) := by decide +kernel
theorem zd_222_372 : decode prog_14_method_248_code 372 = .ok (.aload_n 0, 1) := by decide +kernel
theorem zd_222_373 : decode prog_14_method_248_code 373 = .ok (.iload 4, 2) := by decide +kernel
theorem zd_222_375 : decode prog_14_method_248_code 375 = .ok (.aload_n 0, 1) := by decide +kernel
theorem zd_222_376 : decode prog_14_method_248_code 376 = .ok (.iload_n 2, 1) := by decide +kernel
theorem zd_222_377 : decode prog_14_method_248_code 377 = .ok (.aload_n 0, 1) := by decide +kernel
theorem zd_222_378 : decode prog_14_method_248_code 378 = .ok (.getfield 492, 3) := by decide +kernel
theorem zd_222_381 : decode prog_14_method_248_code 381 = .ok (.aload_n 0, 1) := by decide +kernel
theorem zd_222_382 : decode prog_14_method_248_code 382 = .ok (.iload 4, 2) := by decide +kernel
theorem zd_222_384 : decode prog_14_method_248_code 384 = .ok (.invokevirtual 1762, 3) := by decide +kernel
theorem zd_222_387 : decode prog_14_method_248_code 387 = .ok (.iaload, 1) := by decide +kernel
theorem zd_222_388 : decode prog_14_method_248_code 388 = .ok (.iload 6, 2) := by decide +kernel
theorem zd_222_390 : decode prog_14_method_248_code 390 = .ok (.invokevirtual 1792, 3) := by decide +kernel
theorem zd_222_393 : decode prog_14_method_248_code 393 = .ok (.invokevirtual 1774, 3) := by decide +kernel
theorem zd_222_396 : decode prog_14_method_248_code 396 = .ok (.goto 166, 3) := by decide +kernel
theorem zd_222_399 : decode prog_14_method_248_code 399 = .ok (.iload_n 3, 1) := by decide +kernel
theorem zd_222_400 : decode prog_14_method_248_code 400 = .ok (.ifCond .lt 27, 3) := by decide +kernel
theorem zd_222_403 : decode prog_14_method_248_code 403 = .ok (.aload_n 0, 1) := by decide +kernel
theorem zd_222_404 : decode prog_14_method_248_code 404 = .ok (.getfield 489, 3) := by decide +kernel
theorem zd_222_407 : decode prog_14_method_248_code 407 = .ok (.iload 5, 2) := by decide +kernel
theorem zd_222_409 : decode prog_14_method_248_code 409 = .ok (.iload_n 3, 1) := by decide +kernel
theorem zd_222_410 : decode prog_14_method_248_code 410 = .ok (.iconst 4, 1) := by decide +kernel
theorem zd_222_411 : decode prog_14_method_248_code 411 = .ok (.idiv, 1) := by decide +kernel
theorem zd_222_412 : decode prog_14_method_248_code 412 = .ok (.iadd, 1) := by decide +kernel
theorem zd_222_413 : decode prog_14_method_248_code 413 = .ok (.aload_n 0, 1) := by decide +kernel
theorem zd_222_414 : decode prog_14_method_248_code 414 = .ok (.getfield 492, 3) := by decide +kernel
theorem zd_222_417 : decode prog_14_method_248_code 417 = .ok (.aload_n 0, 1) := by decide +kernel
theorem zd_222_418 : decode prog_14_method_248_code 418 = .ok (.iconst 0, 1) := by decide +kernel
theorem zd_222_419 : decode prog_14_method_248_code 419 = .ok (.invokevirtual 1762, 3) := by decide +kernel
theorem zd_222_422 : decode prog_14_method_248_code 422 = .ok (.iaload, 1) := by decide +kernel
theorem zd_222_423 : decode prog_14_method_248_code 423 = .ok (.iastore, 1) := by decide +kernel
theorem zd_222_424 : decode prog_14_method_248_code 424 = .ok (.goto 138, 3) := by decide +kernel
theorem zd_222_427 : decode prog_14_method_248_code 427 = .ok (.aload_n 0, 1) := by decide +kernel
theorem zd_222_428 : decode prog_14_method_248_code 428 = .ok (.getfield 477, 3) := by decide +kernel
theorem zd_222_431 : decode prog_14_method_248_code 431 = .ok (.aload_n 0, 1) := by decide +kernel
theorem zd_222_432 : decode prog_14_method_248_code 432 = .ok (.iload_n 1, 1) := by decide +kernel
theorem zd_222_433 : decode prog_14_method_248_code 433 = .ok (.invokevirtual 1789, 3) := by decide +kernel
theorem zd_222_436 : decode prog_14_method_248_code 436 = .ok (.aload_n 0, 1) := by decide +kernel
theorem zd_222_437 : decode prog_14_method_248_code 437 = .ok (.getfield 492, 3) := by decide +kernel
theorem zd_222_440 : decode prog_14_method_248_code 440 = .ok (.aload_n 0, 1) := by decide +kernel
theorem zd_222_441 : decode prog_14_method_248_code 441 = .ok (.iconst 0, 1) := by decide +kernel
theorem zd_222_442 : decode prog_14_method_248_code 442 = .ok (.invokevirtual 1762, 3) := by decide +kernel
theorem zd_222_445 : decode prog_14_method_248_code 445 = .ok (.iaload, 1) := by decide +kernel
theorem zd_222_446 : decode prog_14_method_248_code 446 = .ok (.iastore, 1) := by decide +kernel
theorem zd_222_447 : decode prog_14_method_248_code 447 = .ok (.goto 115, 3) := by decide +kernel
theorem zd_222_450 : decode prog_14_method_248_code 450 = .ok (.iload_n 3, 1) := by decide +kernel
theorem zd_222_451 : decode prog_14_method_248_code 451 = .ok (.ifCond .lt 38, 3) := by decide +kernel
theorem zd_222_454 : decode prog_14_method_248_code 454 = .ok (.aload_n 0, 1) := by decide +kernel
theorem zd_222_455 : decode prog_14_method_248_code 455 = .ok (.getfield 489, 3) := by decide +kernel
theorem zd_222_458 : decode prog_14_method_248_code 458 = .ok (.iload 5, 2) := by decide +kernel
theorem zd_222_460 : decode prog_14_method_248_code 460 = .ok (.iload_n 3, 1) := by decide +kernel
theorem zd_222_461 : decode prog_14_method_248_code 461 = .ok (.iconst 4, 1) := by decide +kernel
theorem zd_222_462 : decode prog_14_method_248_code 462 = .ok (.idiv, 1) := by decide +kernel
theorem zd_222_463 : decode prog_14_method_248_code 463 = .ok (.iadd, 1) := by decide +kernel
theorem zd_222_464 : decode prog_14_method_248_code 464 = .ok (.aload_n 0, 1) := by decide +kernel
theorem zd_222_465 : decode prog_14_method_248_code 465 = .ok (.getfield 492, 3) := by decide +kernel
theorem zd_222_468 : decode prog_14_method_248_code 468 = .ok (.aload_n 0, 1) := by decide +kernel
theorem zd_222_469 : decode prog_14_method_248_code 469 = .ok (.iconst 0, 1) := by decide +kernel
theorem zd_222_470 : decode prog_14_method_248_code 470 = .ok (.invokevirtual 1762, 3) := by decide +kernel
theorem zd_222_473 : decode prog_14_method_248_code 473 = .ok (.iaload, 1) := by decide +kernel
theorem zd_222_474 : decode prog_14_method_248_code 474 = .ok (.iadd, 1) := by decide +kernel
theorem zd_222_475 : decode prog_14_method_248_code 475 = .ok (.aload_n 0, 1) := by decide +kernel
theorem zd_222_476 : decode prog_14_method_248_code 476 = .ok (.getfield 492, 3) := by decide +kernel
theorem zd_222_479 : decode prog_14_method_248_code 479 = .ok (.aload_n 0, 1) := by decide +kernel
theorem zd_222_480 : decode prog_14_method_248_code 480 = .ok (.iconst 1, 1) := by decide +kernel
theorem zd_222_481 : decode prog_14_method_248_code 481 = .ok (.invokevirtual 1762, 3) := by decide +kernel
theorem zd_222_484 : decode prog_14_method_248_code 484 = .ok (.iaload, 1) := by decide +kernel
theorem zd_222_485 : decode prog_14_method_248_code 485 = .ok (.iastore, 1) := by decide +kernel
theorem zd_222_486 : decode prog_14_method_248_code 486 = .ok (.goto 76, 3) := by decide +kernel
theorem zd_222_489 : decode prog_14_method_248_code 489 = .ok (.aload_n 0, 1) := by decide +kernel
theorem zd_222_490 : decode prog_14_method_248_code 490 = .ok (.getfield 477, 3) := by decide +kernel
theorem zd_222_493 : decode prog_14_method_248_code 493 = .ok (.aload_n 0, 1) := by decide +kernel
theorem zd_222_494 : decode prog_14_method_248_code 494 = .ok (.iload_n 1, 1) := by decide +kernel
theorem zd_222_495 : decode prog_14_method_248_code 495 = .ok (.invokevirtual 1789, 3) := by decide +kernel
theorem zd_222_498 : decode prog_14_method_248_code 498 = .ok (.aload_n 0, 1) := by decide +kernel
theorem zd_222_499 : decode prog_14_method_248_code 499 = .ok (.getfield 492, 3) := by decide +kernel
theorem zd_222_502 : decode prog_14_method_248_code 502 = .ok (.aload_n 0, 1) := by decide +kernel
theorem zd_222_503 : decode prog_14_method_248_code 503 = .ok (.iconst 0, 1) := by decide +kernel
theorem zd_222_504 : decode prog_14_method_248_code 504 = .ok (.invokevirtual 1762, 3) := by decide +kernel
theorem zd_222_507 : decode prog_14_method_248_code 507 = .ok (.iaload, 1) := by decide +kernel
theorem zd_222_508 : decode prog_14_method_248_code 508 = .ok (.iadd, 1) := by decide +kernel
theorem zd_222_509 : decode prog_14_method_248_code 509 = .ok (.aload_n 0, 1) := by decide +kernel
theorem zd_222_510 : decode prog_14_method_248_code 510 = .ok (.getfield 492, 3) := by decide +kernel
theorem zd_222_513 : decode prog_14_method_248_code 513 = .ok (.aload_n 0, 1) := by decide +kernel
theorem zd_222_514 : decode prog_14_method_248_code 514 = .ok (.iconst 1, 1) := by decide +kernel
theorem zd_222_515 : decode prog_14_method_248_code 515 = .ok (.invokevirtual 1762, 3) := by decide +kernel
theorem zd_222_518 : decode prog_14_method_248_code 518 = .ok (.iaload, 1) := by decide +kernel
theorem zd_222_519 : decode prog_14_method_248_code 519 = .ok (.iastore, 1) := by decide +kernel
theorem zd_222_520 : decode prog_14_method_248_code 520 = .ok (.goto 42, 3) := by decide +kernel
theorem zd_222_523 : decode prog_14_method_248_code 523 = .ok (.aload_n 0, 1) := by decide +kernel
theorem zd_222_524 : decode prog_14_method_248_code 524 = .ok (.getfield 1795, 3) := by decide +kernel
theorem zd_222_527 : decode prog_14_method_248_code 527 = .ok (.sipush 200, 3) := by decide +kernel
theorem zd_222_530 : decode prog_14_method_248_code 530 = .ok (.if_icmp .ge 22, 3) := by decide +kernel
theorem zd_222_533 : decode prog_14_method_248_code 533 = .ok (.aload_n 0, 1) := by decide +kernel
theorem zd_222_534 : decode prog_14_method_248_code 534 = .ok (.getfield 470, 3) := by decide +kernel
theorem zd_222_537 : decode prog_14_method_248_code 537 = .ok (.aload_n 0, 1) := by decide +kernel
theorem zd_222_538 : decode prog_14_method_248_code 538 = .ok (.getfield 1795, 3) := by decide +kernel
theorem zd_222_541 : decode prog_14_method_248_code 541 = .ok (.aload_n 0, 1) := by decide +kernel
theorem zd_222_542 : decode prog_14_method_248_code 542 = .ok (.getfield 492, 3) := by decide +kernel
theorem zd_222_545 : decode prog_14_method_248_code 545 = .ok (.aload_n 0, 1) := by decide +kernel
theorem zd_222_546 : decode prog_14_method_248_code 546 = .ok (.iconst 0, 1) := by decide +kernel
theorem zd_222_547 : decode prog_14_method_248_code 547 = .ok (.invokevirtual 1762, 3) := by decide +kernel
theorem zd_222_550 : decode prog_14_method_248_code 550 = .ok (.iaload, 1) := by decide +kernel
theorem zd_222_551 : decode prog_14_method_248_code 551 = .ok (.iastore, 1) := by decide +kernel
theorem zd_222_552 : decode prog_14_method_248_code 552 = .ok (.aload_n 0, 1) := by decide +kernel
theorem zd_222_553 : decode prog_14_method_248_code 553 = .ok (.dup, 1) := by decide +kernel
