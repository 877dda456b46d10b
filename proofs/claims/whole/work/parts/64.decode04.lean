/-! decode rows, by program -/
theorem zd_88_7 : decode prog_14_method_164_code 7 = .ok (.putfield 1453, 3) := by decide +kernel
theorem zd_88_10 : decode prog_14_method_164_code 10 = .ok (.aload_n 0, 1) := by decide +kernel
theorem zd_88_11 : decode prog_14_method_164_code 11 = .ok (.getfield 1453, 3) := by decide +kernel
theorem zd_88_14 : decode prog_14_method_164_code 14 = .ok (.sipush 4000, 3) := by decide +kernel
theorem zd_88_17 : decode prog_14_method_164_code 17 = .ok (.if_icmp .le 25, 3) := by decide +kernel
theorem zd_89_0 : decode prog_14_method_107_code 0 = .ok (.aload_n 0, 1) := by decide +kernel
theorem zd_89_1 : decode prog_14_method_107_code 1 = .ok (.iconst 0, 1) := by decide +kernel
theorem zd_89_2 : decode prog_14_method_107_code 2 = .ok (.putfield 1204, 3) := by decide +kernel
theorem zd_89_5 : decode prog_14_method_107_code 5 = .ok (.aload_n 0, 1) := by decide +kernel
theorem zd_89_6 : decode prog_14_method_107_code 6 = .ok (.getfield 319, 3) := by decide +kernel
theorem zd_89_9 : decode prog_14_method_107_code 9 = .ok (.iload_n 2, 1) := by decide +kernel
theorem zd_89_10 : decode prog_14_method_107_code 10 = .ok (.iaload, 1) := by decide +kernel
theorem zd_89_11 : decode prog_14_method_107_code 11 = .ok (.istore_n 3, 1) := by decide +kernel
theorem zd_89_12 : decode prog_14_method_107_code 12 = .ok (.aload_n 0, 1) := by decide +kernel
theorem zd_89_13 : decode prog_14_method_107_code 13 = .ok (.getfield 292, 3) := by decide +kernel
theorem zd_89_16 : decode prog_14_method_107_code 16 = .ok (.iload_n 1, 1) := by decide +kernel
theorem zd_89_17 : decode prog_14_method_107_code 17 = .ok (.iaload, 1) := by decide +kernel
theorem zd_89_18 : decode prog_14_method_107_code 18 = .ok (.istore 4, 2) := by decide +kernel
theorem zd_89_20 : decode prog_14_method_107_code 20 = .ok (.iload 4, 2) := by decide +kernel
theorem zd_89_22 : decode prog_14_method_107_code 22 = .ok (.aload_n 0, 1) := by decide +kernel
theorem zd_89_23 : decode prog_14_method_107_code 23 = .ok (.getfield 295, 3) := by decide +kernel
theorem zd_89_26 : decode prog_14_method_107_code 26 = .ok (.iload_n 1, 1) := by decide +kernel
theorem zd_89_27 : decode prog_14_method_107_code 27 = .ok (.iaload, 1) := by decide +kernel
theorem zd_89_28 : decode prog_14_method_107_code 28 = .ok (.if_icmp .ge 106, 3) := by decide +kernel
theorem zd_89_31 : decode prog_14_method_107_code 31 = .ok (.aload_n 0, 1) := by decide +kernel
theorem zd_89_32 : decode prog_14_method_107_code 32 = .ok (.getfield 1183, 3) := by decide +kernel
theorem zd_89_35 : decode prog_14_method_107_code 35 = .ok (.ifCond .ne 99, 3) := by decide +kernel
theorem zd_89_38 : decode prog_14_method_107_code 38 = .ok (.aload_n 0, 1) := by decide +kernel
theorem zd_89_39 : decode prog_14_method_107_code 39 = .ok (.iload 4, 2) := by decide +kernel
theorem zd_89_41 : decode prog_14_method_107_code 41 = .ok (.invokevirtual 1195, 3) := by decide +kernel
theorem zd_89_44 : decode prog_14_method_107_code 44 = .ok (.istore 5, 2) := by decide +kernel
theorem zd_89_46 : decode prog_14_method_107_code 46 = .ok (.iload 5, 2) := by decide +kernel
theorem zd_89_48 : decode prog_14_method_107_code 48 = .ok (.bipush 92, 2) := by decide +kernel
theorem zd_89_50 : decode prog_14_method_107_code 50 = .ok (.if_icmp .ne 7, 3) := by decide +kernel
theorem zd_89_57 : decode prog_14_method_107_code 57 = .ok (.aload_n 0, 1) := by decide +kernel
theorem zd_89_58 : decode prog_14_method_107_code 58 = .ok (.iload 5, 2) := by decide +kernel
theorem zd_89_60 : decode prog_14_method_107_code 60 = .ok (.invokevirtual 1207, 3) := by decide +kernel
theorem zd_89_63 : decode prog_14_method_107_code 63 = .ok (.iinc 4 1, 3) := by decide +kernel
theorem zd_89_66 : decode prog_14_method_107_code 66 = .ok (.goto 65, 3) := by decide +kernel
theorem zd_89_131 : decode prog_14_method_107_code 131 = .ok (.goto (-111), 3) := by decide +kernel
theorem zd_89_134 : decode prog_14_method_107_code 134 = .ok (.iload_n 3, 1) := by decide +kernel
theorem zd_89_135 : decode prog_14_method_107_code 135 = .ok (.ifCond .lt 19, 3) := by decide +kernel
theorem zd_90_0 : decode prog_14_method_172_code 0 = .ok (.aload_n 0, 1) := by decide +kernel
theorem zd_90_1 : decode prog_14_method_172_code 1 = .ok (.iconst 0, 1) := by decide +kernel
theorem zd_90_2 : decode prog_14_method_172_code 2 = .ok (.putfield 1219, 3) := by decide +kernel
theorem zd_90_5 : decode prog_14_method_172_code 5 = .ok (.aload_n 0, 1) := by decide +kernel
theorem zd_90_6 : decode prog_14_method_172_code 6 = .ok (.iconst 1, 1) := by decide +kernel
theorem zd_90_7 : decode prog_14_method_172_code 7 = .ok (.putfield 1228, 3) := by decide +kernel
theorem zd_90_10 : decode prog_14_method_172_code 10 = .ok (.aload_n 0, 1) := by decide +kernel
theorem zd_90_11 : decode prog_14_method_172_code 11 = .ok (.iconst 0, 1) := by decide +kernel
theorem zd_90_12 : decode prog_14_method_172_code 12 = .ok (.putfield 1260, 3) := by decide +kernel
theorem zd_90_15 : decode prog_14_method_172_code 15 = .ok (.iconst 0, 1) := by decide +kernel
theorem zd_90_16 : decode prog_14_method_172_code 16 = .ok (.istore_n 1, 1) := by decide +kernel
theorem zd_90_17 : decode prog_14_method_172_code 17 = .ok (.aload_n 0, 1) := by decide +kernel
theorem zd_90_18 : decode prog_14_method_172_code 18 = .ok (.getfield 1183, 3) := by decide +kernel
theorem zd_90_21 : decode prog_14_method_172_code 21 = .ok (.ifCond .ne 173, 3) := by decide +kernel
theorem zd_90_24 : decode prog_14_method_172_code 24 = .ok (.aload_n 0, 1) := by decide +kernel
theorem zd_90_25 : decode prog_14_method_172_code 25 = .ok (.invokevirtual 1225, 3) := by decide +kernel
theorem zd_90_28 : decode prog_14_method_172_code 28 = .ok (.aload_n 0, 1) := by decide +kernel
theorem zd_90_29 : decode prog_14_method_172_code 29 = .ok (.getfield 1219, 3) := by decide +kernel
theorem zd_90_32 : decode prog_14_method_172_code 32 = .ok (.aload_n 0, 1) := by decide +kernel
theorem zd_90_33 : decode prog_14_method_172_code 33 = .ok (.getfield 1204, 3) := by decide +kernel
theorem zd_90_36 : decode prog_14_method_172_code 36 = .ok (.if_icmp .lt 4, 3) := by decide +kernel
theorem zd_90_40 : decode prog_14_method_172_code 40 = .ok (.aload_n 0, 1) := by decide +kernel
theorem zd_90_41 : decode prog_14_method_172_code 41 = .ok (.invokevirtual 1222, 3) := by decide +kernel
theorem zd_90_44 : decode prog_14_method_172_code 44 = .ok (.invokestatic 1198, 3) := by decide +kernel
theorem zd_90_47 : decode prog_14_method_172_code 47 = .ok (.ifCond .eq 45, 3) := by decide +kernel
theorem zd_90_50 : decode prog_14_method_172_code 50 = .ok (.aload_n 0, 1) := by decide +kernel
theorem zd_90_51 : decode prog_14_method_172_code 51 = .ok (.invokevirtual 1254, 3) := by decide +kernel
theorem zd_90_54 : decode prog_14_method_172_code 54 = .ok (.istore_n 2, 1) := by decide +kernel
theorem zd_90_55 : decode prog_14_method_172_code 55 = .ok (.aload_n 0, 1) := by decide +kernel
theorem zd_90_56 : decode prog_14_method_172_code 56 = .ok (.getfield 1228, 3) := by decide +kernel
theorem zd_90_59 : decode prog_14_method_172_code 59 = .ok (.ifCond .ne 9, 3) := by decide +kernel
theorem zd_90_68 : decode prog_14_method_172_code 68 = .ok (.aload_n 0, 1) := by decide +kernel
theorem zd_90_69 : decode prog_14_method_172_code 69 = .ok (.bipush 58, 2) := by decide +kernel
theorem zd_90_71 : decode prog_14_method_172_code 71 = .ok (.invokevirtual 1330, 3) := by decide +kernel
theorem zd_90_74 : decode prog_14_method_172_code 74 = .ok (.ifCond .ne 10, 3) := by decide +kernel
theorem zd_90_77 : decode prog_14_method_172_code 77 = .ok (.aload_n 0, 1) := by decide +kernel
theorem zd_90_78 : decode prog_14_method_172_code 78 = .ok (.iload_n 2, 1) := by decide +kernel
theorem zd_90_79 : decode prog_14_method_172_code 79 = .ok (.iload_n 1, 1) := by decide +kernel
theorem zd_90_80 : decode prog_14_method_172_code 80 = .ok (.invokevirtual 1483, 3) := by decide +kernel
theorem zd_90_84 : decode prog_14_method_172_code 84 = .ok (.aload_n 0, 1) := by decide +kernel
theorem zd_90_85 : decode prog_14_method_172_code 85 = .ok (.iload_n 2, 1) := by decide +kernel
theorem zd_90_86 : decode prog_14_method_172_code 86 = .ok (.invokevirtual 1486, 3) := by decide +kernel
theorem zd_90_89 : decode prog_14_method_172_code 89 = .ok (.goto 90, 3) := by decide +kernel
theorem zd_90_179 : decode prog_14_method_172_code 179 = .ok (.aload_n 0, 1) := by decide +kernel
theorem zd_90_180 : decode prog_14_method_172_code 180 = .ok (.dup, 1) := by decide +kernel
theorem zd_90_181 : decode prog_14_method_172_code 181 = .ok (.getfield 1219, 3) := by decide +kernel
theorem zd_90_184 : decode prog_14_method_172_code 184 = .ok (.iconst 1, 1) := by decide +kernel
theorem zd_90_185 : decode prog_14_method_172_code 185 = .ok (.iadd, 1) := by decide +kernel
theorem zd_90_186 : decode prog_14_method_172_code 186 = .ok (.putfield 1219, 3) := by decide +kernel
theorem zd_90_189 : decode prog_14_method_172_code 189 = .ok (.iconst 1, 1) := by decide +kernel
theorem zd_90_190 : decode prog_14_method_172_code 190 = .ok (.istore_n 1, 1) := by decide +kernel
theorem zd_90_191 : decode prog_14_method_172_code 191 = .ok (.goto (-174), 3) := by decide +kernel
theorem zd_91_0 : decode prog_14_method_169_code 0 = .ok (.aload_n 0, 1) := by decide +kernel
theorem zd_91_1 : decode prog_14_method_169_code 1 = .ok (.getfield 1444, 3) := by decide +kernel
theorem zd_91_4 : decode prog_14_method_169_code 4 = .ok (.aload_n 0, 1) := by decide +kernel
theorem zd_91_5 : decode prog_14_method_169_code 5 = .ok (.getfield 322, 3) := by decide +kernel
theorem zd_91_8 : decode prog_14_method_169_code 8 = .ok (.iload_n 1, 1) := by decide +kernel
theorem zd_91_9 : decode prog_14_method_169_code 9 = .ok (.iaload, 1) := by decide +kernel
theorem zd_91_10 : decode prog_14_method_169_code 10 = .ok (.if_icmp .eq 20, 3) := by decide +kernel
theorem zd_91_30 : decode prog_14_method_169_code 30 = .ok (.aload_n 0, 1) := by decide +kernel
theorem zd_91_31 : decode prog_14_method_169_code 31 = .ok (.getfield 310, 3) := by decide +kernel
theorem zd_91_34 : decode prog_14_method_169_code 34 = .ok (.iload_n 1, 1) := by decide +kernel
theorem zd_91_35 : decode prog_14_method_169_code 35 = .ok (.dup2, 1) := by decide +kernel
theorem zd_91_36 : decode prog_14_method_169_code 36 = .ok (.iaload, 1) := by decide +kernel
theorem zd_91_37 : decode prog_14_method_169_code 37 = .ok (.iconst 1, 1) := by decide +kernel
theorem zd_91_38 : decode prog_14_method_169_code 38 = .ok (.isub, 1) := by decide +kernel
theorem zd_91_39 : decode prog_14_method_169_code 39 = .ok (.iastore, 1) := by decide +kernel
theorem zd_91_40 : decode prog_14_method_169_code 40 = .ok (.aload_n 0, 1) := by decide +kernel
theorem zd_91_41 : decode prog_14_method_169_code 41 = .ok (.getfield 307, 3) := by decide +kernel
theorem zd_91_44 : decode prog_14_method_169_code 44 = .ok (.iload_n 1, 1) := by decide +kernel
theorem zd_91_45 : decode prog_14_method_169_code 45 = .ok (.aload_n 0, 1) := by decide +kernel
theorem zd_91_46 : decode prog_14_method_169_code 46 = .ok (.getfield 301, 3) := by decide +kernel
theorem zd_91_49 : decode prog_14_method_169_code 49 = .ok (.iload_n 1, 1) := by decide +kernel
theorem zd_91_50 : decode prog_14_method_169_code 50 = .ok (.iaload, 1) := by decide +kernel
theorem zd_91_51 : decode prog_14_method_169_code 51 = .ok (.iastore, 1) := by decide +kernel
theorem zd_91_52 : decode prog_14_method_169_code 52 = .ok (.aload_n 0, 1) := by decide +kernel
theorem zd_91_53 : decode prog_14_method_169_code 53 = .ok (.getfield 310, 3) := by decide +kernel
theorem zd_91_56 : decode prog_14_method_169_code 56 = .ok (.iload_n 1, 1) := by decide +kernel
theorem zd_91_57 : decode prog_14_method_169_code 57 = .ok (.iaload, 1) := by decide +kernel
theorem zd_91_58 : decode prog_14_method_169_code 58 = .ok (.ifCond .gt 34, 3) := by decide +kernel
theorem zd_91_61 : decode prog_14_method_169_code 61 = .ok (.aload_n 0, 1) := by decide +kernel
theorem zd_91_62 : decode prog_14_method_169_code 62 = .ok (.dup, 1) := by decide +kernel
theorem zd_91_63 : decode prog_14_method_169_code 63 = .ok (.getfield 1447, 3) := by decide +kernel
theorem zd_91_66 : decode prog_14_method_169_code 66 = .ok (.iconst 1, 1) := by decide +kernel
theorem zd_91_67 : decode prog_14_method_169_code 67 = .ok (.isub, 1) := by decide +kernel
theorem zd_91_68 : decode prog_14_method_169_code 68 = .ok (.putfield 1447, 3) := by decide +kernel
theorem zd_91_71 : decode prog_14_method_169_code 71 = .ok (.aload_n 0, 1) := by decide +kernel
theorem zd_91_72 : decode prog_14_method_169_code 72 = .ok (.aload_n 0, 1) := by decide +kernel
theorem zd_91_73 : decode prog_14_method_169_code 73 = .ok (.getfield 1447, 3) := by decide +kernel
theorem zd_91_76 : decode prog_14_method_169_code 76 = .ok (.ifCond .le 12, 3) := by decide +kernel
theorem zd_91_88 : decode prog_14_method_169_code 88 = .ok (.iconst 0, 1) := by decide +kernel
theorem zd_91_89 : decode prog_14_method_169_code 89 = .ok (.putfield 1468, 3) := by decide +kernel
theorem zd_92_0 : decode prog_14_method_177_code 0 = .ok (.aload_n 0, 1) := by decide +kernel
theorem zd_92_1 : decode prog_14_method_177_code 1 = .ok (.getfield 416, 3) := by decide +kernel
theorem zd_92_4 : decode prog_14_method_177_code 4 = .ok (.iload_n 1, 1) := by decide +kernel
theorem zd_92_5 : decode prog_14_method_177_code 5 = .ok (.iaload, 1) := by decide +kernel
theorem zd_92_6 : decode prog_14_method_177_code 6 = .ok (.iconst 3, 1) := by decide +kernel
theorem zd_92_7 : decode prog_14_method_177_code 7 = .ok (.if_icmp .ne 15, 3) := by decide +kernel
theorem zd_92_22 : decode prog_14_method_177_code 22 = .ok (.iconst (-1), 1) := by decide +kernel
theorem zd_92_23 : decode prog_14_method_177_code 23 = .ok (.istore_n 2, 1) := by decide +kernel
theorem zd_92_24 : decode prog_14_method_177_code 24 = .ok (.aload_n 0, 1) := by decide +kernel
theorem zd_92_25 : decode prog_14_method_177_code 25 = .ok (.getfield 425, 3) := by decide +kernel
theorem zd_92_28 : decode prog_14_method_177_code 28 = .ok (.iload_n 1, 1) := by decide +kernel
theorem zd_92_29 : decode prog_14_method_177_code 29 = .ok (.iaload, 1) := by decide +kernel
theorem zd_92_30 : decode prog_14_method_177_code 30 = .ok (.istore_n 3, 1) := by decide +kernel
theorem zd_92_31 : decode prog_14_method_177_code 31 = .ok (.aload_n 0, 1) := by decide +kernel
theorem zd_92_32 : decode prog_14_method_177_code 32 = .ok (.getfield 422, 3) := by decide +kernel
theorem zd_92_35 : decode prog_14_method_177_code 35 = .ok (.iload_n 1, 1) := by decide +kernel
theorem zd_92_36 : decode prog_14_method_177_code 36 = .ok (.iaload, 1) := by decide +kernel
theorem zd_92_37 : decode prog_14_method_177_code 37 = .ok (.istore 4, 2) := by decide +kernel
theorem zd_92_39 : decode prog_14_method_177_code 39 = .ok (.aload_n 0, 1) := by decide +kernel
theorem zd_92_40 : decode prog_14_method_177_code 40 = .ok (.getfield 416, 3) := by decide +kernel
theorem zd_92_43 : decode prog_14_method_177_code 43 = .ok (.iload_n 1, 1) := by decide +kernel
theorem zd_92_44 : decode prog_14_method_177_code 44 = .ok (.iaload, 1) := by decide +kernel
theorem zd_92_45 : decode prog_14_method_177_code 45 = .ok (.iconst 1, 1) := by decide +kernel
theorem zd_92_46 : decode prog_14_method_177_code 46 = .ok (.if_icmp .ne 86, 3) := by decide +kernel
theorem zd_92_49 : decode prog_14_method_177_code 49 = .ok (.aload_n 0, 1) := by decide +kernel
theorem zd_92_50 : decode prog_14_method_177_code 50 = .ok (.aload_n 0, 1) := by decide +kernel
theorem zd_92_51 : decode prog_14_method_177_code 51 = .ok (.getfield 419, 3) := by decide +kernel
theorem zd_92_54 : decode prog_14_method_177_code 54 = .ok (.iload_n 1, 1) := by decide +kernel
theorem zd_92_55 : decode prog_14_method_177_code 55 = .ok (.iaload, 1) := by decide +kernel
theorem zd_92_56 : decode prog_14_method_177_code 56 = .ok (.invokevirtual 1299, 3) := by decide +kernel
theorem zd_92_59 : decode prog_14_method_177_code 59 = .ok (.istore 5, 2) := by decide +kernel
theorem zd_92_61 : decode prog_14_method_177_code 61 = .ok (.iload 5, 2) := by decide +kernel
theorem zd_92_63 : decode prog_14_method_177_code 63 = .ok (.ifCond .ge 12, 3) := by decide +kernel
theorem zd_92_66 : decode prog_14_method_177_code 66 = .ok (.aload_n 0, 1) := by decide +kernel
theorem zd_92_67 : decode prog_14_method_177_code 67 = .ok (.getfield 419, 3) := by decide +kernel
theorem zd_92_70 : decode prog_14_method_177_code 70 = .ok (.iload_n 1, 1) := by decide +kernel
theorem zd_92_71 : decode prog_14_method_177_code 71 = .ok (.iaload, 1) := by decide +kernel
theorem zd_92_72 : decode prog_14_method_177_code 72 = .ok (.goto 4, 3) := by decide +kernel
theorem zd_92_76 : decode prog_14_method_177_code 76 = .ok (.istore_n 2, 1) := by decide +kernel
theorem zd_92_77 : decode prog_14_method_177_code 77 = .ok (.iload 5, 2) := by decide +kernel
theorem zd_92_79 : decode prog_14_method_177_code 79 = .ok (.ifCond .ge 7, 3) := by decide +kernel
theorem zd_92_82 : decode prog_14_method_177_code 82 = .ok (.iconst (-1), 1) := by decide +kernel
theorem zd_92_83 : decode prog_14_method_177_code 83 = .ok (.goto 19, 3) := by decide +kernel
theorem zd_92_102 : decode prog_14_method_177_code 102 = .ok (.istore 4, 2) := by decide +kernel
theorem zd_92_104 : decode prog_14_method_177_code 104 = .ok (.iload 5, 2) := by decide +kernel
theorem zd_92_106 : decode prog_14_method_177_code 106 = .ok (.ifCond .ge 7, 3) := by decide +kernel
theorem zd_92_109 : decode prog_14_method_177_code 109 = .ok (.iload_n 3, 1) := by decide +kernel
theorem zd_92_110 : decode prog_14_method_177_code 110 = .ok (.goto 21, 3) := by decide +kernel
theorem zd_92_131 : decode prog_14_method_177_code 131 = .ok (.istore_n 3, 1) := by decide +kernel
theorem zd_92_132 : decode prog_14_method_177_code 132 = .ok (.aload_n 0, 1) := by decide +kernel
theorem zd_92_133 : decode prog_14_method_177_code 133 = .ok (.getfield 413, 3) := by decide +kernel
theorem zd_92_136 : decode prog_14_method_177_code 136 = .ok (.iload_n 1, 1) := by decide +kernel
theorem zd_92_137 : decode prog_14_method_177_code 137 = .ok (.iaload, 1) := by decide +kernel
theorem zd_92_138 : decode prog_14_method_177_code 138 = .ok (.iconst 4, 1) := by decide +kernel
theorem zd_92_139 : decode prog_14_method_177_code 139 = .ok (.if_icmp .ne 115, 3) := by decide +kernel
theorem zd_92_254 : decode prog_14_method_177_code 254 = .ok (.sipush 3000, 3) := by decide +kernel
theorem zd_92_257 : decode prog_14_method_177_code 257 = .ok (.aload_n 0, 1) := by decide +kernel
theorem zd_92_258 : decode prog_14_method_177_code 258 = .ok (.getfield 1174, 3) := by decide +kernel
theorem zd_92_261 : decode prog_14_method_177_code 261 = .ok (.imul, 1) := by decide +kernel
theorem zd_92_262 : decode prog_14_method_177_code 262 = .ok (.aload_n 0, 1) := by decide +kernel
theorem zd_92_263 : decode prog_14_method_177_code 263 = .ok (.getfield 93, 3) := by decide +kernel
theorem zd_92_266 : decode prog_14_method_177_code 266 = .ok (.aload_n 0, 1) := by decide +kernel
theorem zd_92_267 : decode prog_14_method_177_code 267 = .ok (.getfield 1174, 3) := by decide +kernel
theorem zd_92_270 : decode prog_14_method_177_code 270 = .ok (.iaload, 1) := by decide +kernel
theorem zd_92_271 : decode prog_14_method_177_code 271 = .ok (.iadd, 1) := by decide +kernel
theorem zd_92_272 : decode prog_14_method_177_code 272 = .ok (.istore 5, 2) := by decide +kernel
theorem zd_92_274 : decode prog_14_method_177_code 274 = .ok (.aload_n 0, 1) := by decide +kernel
theorem zd_92_275 : decode prog_14_method_177_code 275 = .ok (.getfield 96, 3) := by decide +kernel
theorem zd_92_278 : decode prog_14_method_177_code 278 = .ok (.iload 5, 2) := by decide +kernel
theorem zd_92_280 : decode prog_14_method_177_code 280 = .ok (.aload_n 0, 1) := by decide +kernel
theorem zd_92_281 : decode prog_14_method_177_code 281 = .ok (.getfield 407, 3) := by decide +kernel
theorem zd_92_284 : decode prog_14_method_177_code 284 = .ok (.iload_n 1, 1) := by decide +kernel
theorem zd_92_285 : decode prog_14_method_177_code 285 = .ok (.iaload, 1) := by decide +kernel
theorem zd_92_286 : decode prog_14_method_177_code 286 = .ok (.iastore, 1) := by decide +kernel
theorem zd_92_287 : decode prog_14_method_177_code 287 = .ok (.aload_n 0, 1) := by decide +kernel
theorem zd_92_288 : decode prog_14_method_177_code 288 = .ok (.getfield 99, 3) := by decide +kernel
theorem zd_92_291 : decode prog_14_method_177_code 291 = .ok (.iload 5, 2) := by decide +kernel
theorem zd_92_293 : decode prog_14_method_177_code 293 = .ok (.aload_n 0, 1) := by decide +kernel
theorem zd_92_294 : decode prog_14_method_177_code 294 = .ok (.getfield 410, 3) := by decide +kernel
theorem zd_92_297 : decode prog_14_method_177_code 297 = .ok (.iload_n 1, 1) := by decide +kernel
theorem zd_92_298 : decode prog_14_method_177_code 298 = .ok (.iaload, 1) := by decide +kernel
theorem zd_92_299 : decode prog_14_method_177_code 299 = .ok (.iastore, 1) := by decide +kernel
theorem zd_92_300 : decode prog_14_method_177_code 300 = .ok (.aload_n 0, 1) := by decide +kernel
theorem zd_92_301 : decode prog_14_method_177_code 301 = .ok (.getfield 102, 3) := by decide +kernel
theorem zd_92_304 : decode prog_14_method_177_code 304 = .ok (.iload 5, 2) := by decide +kernel
theorem zd_92_306 : decode prog_14_method_177_code 306 = .ok (.aload_n 0, 1) := by decide +kernel
theorem zd_92_307 : decode prog_14_method_177_code 307 = .ok (.getfield 413, 3) := by decide +kernel
theorem zd_92_310 : decode prog_14_method_177_code 310 = .ok (.iload_n 1, 1) := by decide +kernel
theorem zd_92_311 : decode prog_14_method_177_code 311 = .ok (.iaload, 1) := by decide +kernel
theorem zd_92_312 : decode prog_14_method_177_code 312 = .ok (.iastore, 1) := by decide +kernel
theorem zd_92_313 : decode prog_14_method_177_code 313 = .ok (.aload_n 0, 1) := by decide +kernel
theorem zd_92_314 : decode prog_14_method_177_code 314 = .ok (.getfield 105, 3) := by decide +kernel
theorem zd_92_317 : decode prog_14_method_177_code 317 = .ok (.iload 5, 2) := by decide +kernel
theorem zd_92_319 : decode prog_14_method_177_code 319 = .ok (.iload 4, 2) := by decide +kernel
theorem zd_92_321 : decode prog_14_method_177_code 321 = .ok (.iastore, 1) := by decide +kernel
theorem zd_92_322 : decode prog_14_method_177_code 322 = .ok (.aload_n 0, 1) := by decide +kernel
theorem zd_92_323 : decode prog_14_method_177_code 323 = .ok (.getfield 108, 3) := by decide +kernel
theorem zd_92_326 : decode prog_14_method_177_code 326 = .ok (.iload 5, 2) := by decide +kernel
theorem zd_92_328 : decode prog_14_method_177_code 328 = .ok (.iload_n 3, 1) := by decide +kernel
theorem zd_92_329 : decode prog_14_method_177_code 329 = .ok (.iastore, 1) := by decide +kernel
theorem zd_92_330 : decode prog_14_method_177_code 330 = .ok (.aload_n 0, 1) := by decide +kernel
theorem zd_92_331 : decode prog_14_method_177_code 331 = .ok (.getfield 111, 3) := by decide +kernel
theorem zd_92_334 : decode prog_14_method_177_code 334 = .ok (.iload 5, 2) := by decide +kernel
theorem zd_92_336 : decode prog_14_method_177_code 336 = .ok (.iload_n 2, 1) := by decide +kernel
theorem zd_92_337 : decode prog_14_method_177_code 337 = .ok (.iastore, 1) := by decide +kernel
theorem zd_92_338 : decode prog_14_method_177_code 338 = .ok (.aload_n 0, 1) := by decide +kernel
theorem zd_92_339 : decode prog_14_method_177_code 339 = .ok (.getfield 114, 3) := by decide +kernel
theorem zd_92_342 : decode prog_14_method_177_code 342 = .ok (.iload 5, 2) := by decide +kernel
theorem zd_92_344 : decode prog_14_method_177_code 344 = .ok (.aload_n 0, 1) := by decide +kernel
theorem zd_92_345 : decode prog_14_method_177_code 345 = .ok (.getfield 428, 3) := by decide +kernel
theorem zd_92_348 : decode prog_14_method_177_code 348 = .ok (.iload_n 1, 1) := by decide +kernel
theorem zd_92_349 : decode prog_14_method_177_code 349 = .ok (.iaload, 1) := by decide +kernel
theorem zd_92_350 : decode prog_14_method_177_code 350 = .ok (.iastore, 1) := by decide +kernel
theorem zd_92_351 : decode prog_14_method_177_code 351 = .ok (.aload_n 0, 1) := by decide +kernel
theorem zd_92_352 : decode prog_14_method_177_code 352 = .ok (.getfield 93, 3) := by decide +kernel
theorem zd_92_355 : decode prog_14_method_177_code 355 = .ok (.aload_n 0, 1) := by decide +kernel
theorem zd_92_356 : decode prog_14_method_177_code 356 = .ok (.getfield 1174, 3) := by decide +kernel
theorem zd_92_359 : decode prog_14_method_177_code 359 = .ok (.dup2, 1) := by decide +kernel
theorem zd_92_360 : decode prog_14_method_177_code 360 = .ok (.iaload, 1) := by decide +kernel
theorem zd_92_361 : decode prog_14_method_177_code 361 = .ok (.iconst 1, 1) := by decide +kernel
theorem zd_92_362 : decode prog_14_method_177_code 362 = .ok (.iadd, 1) := by decide +kernel
theorem zd_92_363 : decode prog_14_method_177_code 363 = .ok (.iastore, 1) := by decide +kernel
theorem zd_93_0 : decode prog_14_method_151_code 0 = .ok (.iconst (-1), 1) := by decide +kernel
theorem zd_93_1 : decode prog_14_method_151_code 1 = .ok (.istore_n 2, 1) := by decide +kernel
theorem zd_93_2 : decode prog_14_method_151_code 2 = .ok (.iconst 0, 1) := by decide +kernel
theorem zd_93_3 : decode prog_14_method_151_code 3 = .ok (.istore_n 3, 1) := by decide +kernel
theorem zd_93_4 : decode prog_14_method_151_code 4 = .ok (.iload_n 3, 1) := by decide +kernel
theorem zd_93_5 : decode prog_14_method_151_code 5 = .ok (.aload_n 0, 1) := by decide +kernel
theorem zd_93_6 : decode prog_14_method_151_code 6 = .ok (.getfield 1389, 3) := by decide +kernel
theorem zd_93_9 : decode prog_14_method_151_code 9 = .ok (.if_icmp .ge 25, 3) := by decide +kernel
theorem zd_93_34 : decode prog_14_method_151_code 34 = .ok (.iload_n 2, 1) := by decide +kernel
theorem zd_94_0 : decode prog_14_method_152_code 0 = .ok (.iconst 0, 1) := by decide +kernel
theorem zd_94_1 : decode prog_14_method_152_code 1 = .ok (.istore_n 2, 1) := by decide +kernel
theorem zd_94_2 : decode prog_14_method_152_code 2 = .ok (.iconst 0, 1) := by decide +kernel
theorem zd_94_3 : decode prog_14_method_152_code 3 = .ok (.istore_n 3, 1) := by decide +kernel
theorem zd_94_4 : decode prog_14_method_152_code 4 = .ok (.iload_n 3, 1) := by decide +kernel
theorem zd_94_5 : decode prog_14_method_152_code 5 = .ok (.aload_n 0, 1) := by decide +kernel
theorem zd_94_6 : decode prog_14_method_152_code 6 = .ok (.getfield 1392, 3) := by decide +kernel
theorem zd_94_9 : decode prog_14_method_152_code 9 = .ok (.if_icmp .ge 29, 3) := by decide +kernel
theorem zd_94_12 : decode prog_14_method_152_code 12 = .ok (.iload_n 2, 1) := by decide +kernel
theorem zd_94_13 : decode prog_14_method_152_code 13 = .ok (.ifCond .ne 13, 3) := by decide +kernel
theorem zd_94_16 : decode prog_14_method_152_code 16 = .ok (.aload_n 0, 1) := by decide +kernel
theorem zd_94_17 : decode prog_14_method_152_code 17 = .ok (.getfield 368, 3) := by decide +kernel
theorem zd_94_20 : decode prog_14_method_152_code 20 = .ok (.iload_n 3, 1) := by decide +kernel
theorem zd_94_21 : decode prog_14_method_152_code 21 = .ok (.iaload, 1) := by decide +kernel
theorem zd_94_22 : decode prog_14_method_152_code 22 = .ok (.iload_n 1, 1) := by decide +kernel
theorem zd_94_23 : decode prog_14_method_152_code 23 = .ok (.if_icmp .ne 7, 3) := by decide +kernel
theorem zd_94_26 : decode prog_14_method_152_code 26 = .ok (.iconst 1, 1) := by decide +kernel
theorem zd_94_27 : decode prog_14_method_152_code 27 = .ok (.goto 4, 3) := by decide +kernel
theorem zd_94_30 : decode prog_14_method_152_code 30 = .ok (.iconst 0, 1) := by decide +kernel
theorem zd_94_31 : decode prog_14_method_152_code 31 = .ok (.istore_n 2, 1) := by decide +kernel
theorem zd_94_32 : decode prog_14_method_152_code 32 = .ok (.iinc 3 1, 3) := by decide +kernel
theorem zd_94_35 : decode prog_14_method_152_code 35 = .ok (.goto (-31), 3) := by decide +kernel
theorem zd_94_38 : decode prog_14_method_152_code 38 = .ok (.iload_n 2, 1) := by decide +kernel
theorem zd_95_0 : decode prog_1_method_31_code 0 = .ok (.iload_n 0, 1) := by decide +kernel
theorem zd_95_1 : decode prog_1_method_31_code 1 = .ok (.bipush 48, 2) := by decide +kernel
theorem zd_95_3 : decode prog_1_method_31_code 3 = .ok (.if_icmp .lt 13, 3) := by decide +kernel
theorem zd_95_6 : decode prog_1_method_31_code 6 = .ok (.iload_n 0, 1) := by decide +kernel
theorem zd_95_7 : decode prog_1_method_31_code 7 = .ok (.bipush 57, 2) := by decide +kernel
theorem zd_95_9 : decode prog_1_method_31_code 9 = .ok (.if_icmp .gt 7, 3) := by decide +kernel
theorem zd_95_12 : decode prog_1_method_31_code 12 = .ok (.iconst 1, 1) := by decide +kernel
theorem zd_95_13 : decode prog_1_method_31_code 13 = .ok (.goto 4, 3) := by decide +kernel
theorem zd_95_16 : decode prog_1_method_31_code 16 = .ok (.iconst 0, 1) := by decide +kernel
theorem zd_96_0 : decode prog_1_method_32_code 0 = .ok (.iload_n 0, 1) := by decide +kernel
theorem zd_96_1 : decode prog_1_method_32_code 1 = .ok (.bipush 97, 2) := by decide +kernel
theorem zd_96_3 : decode prog_1_method_32_code 3 = .ok (.if_icmp .lt 9, 3) := by decide +kernel
theorem zd_96_6 : decode prog_1_method_32_code 6 = .ok (.iload_n 0, 1) := by decide +kernel
theorem zd_96_7 : decode prog_1_method_32_code 7 = .ok (.bipush 122, 2) := by decide +kernel
theorem zd_96_9 : decode prog_1_method_32_code 9 = .ok (.if_icmp .le 27, 3) := by decide +kernel
theorem zd_96_12 : decode prog_1_method_32_code 12 = .ok (.iload_n 0, 1) := by decide +kernel
theorem zd_96_13 : decode prog_1_method_32_code 13 = .ok (.bipush 48, 2) := by decide +kernel
theorem zd_96_15 : decode prog_1_method_32_code 15 = .ok (.if_icmp .lt 9, 3) := by decide +kernel
theorem zd_96_18 : decode prog_1_method_32_code 18 = .ok (.iload_n 0, 1) := by decide +kernel
theorem zd_96_19 : decode prog_1_method_32_code 19 = .ok (.bipush 57, 2) := by decide +kernel
theorem zd_96_21 : decode prog_1_method_32_code 21 = .ok (.if_icmp .le 15, 3) := by decide +kernel
theorem zd_96_24 : decode prog_1_method_32_code 24 = .ok (.iload_n 0, 1) := by decide +kernel
theorem zd_96_25 : decode prog_1_method_32_code 25 = .ok (.bipush 95, 2) := by decide +kernel
theorem zd_96_27 : decode prog_1_method_32_code 27 = .ok (.if_icmp .eq 9, 3) := by decide +kernel
theorem zd_96_30 : decode prog_1_method_32_code 30 = .ok (.iload_n 0, 1) := by decide +kernel
theorem zd_96_31 : decode prog_1_method_32_code 31 = .ok (.bipush 46, 2) := by decide +kernel
theorem zd_96_33 : decode prog_1_method_32_code 33 = .ok (.if_icmp .ne 7, 3) := by decide +kernel
theorem zd_96_36 : decode prog_1_method_32_code 36 = .ok (.iconst 1, 1) := by decide +kernel
theorem zd_96_37 : decode prog_1_method_32_code 37 = .ok (.goto 4, 3) := by decide +kernel
theorem zd_96_40 : decode prog_1_method_32_code 40 = .ok (.iconst 0, 1) := by decide +kernel
theorem zd_97_0 : decode prog_11_method_4_code 0 = .ok (.iload_n 1, 1) := by decide +kernel
theorem zd_97_1 : decode prog_11_method_4_code 1 = .ok (.istore_n 2, 1) := by decide +kernel
theorem zd_97_2 : decode prog_11_method_4_code 2 = .ok (.iload_n 2, 1) := by decide +kernel
theorem zd_97_3 : decode prog_11_method_4_code 3 = .ok (.aload_n 0, 1) := by decide +kernel
theorem zd_97_4 : decode prog_11_method_4_code 4 = .ok (.getfield 42, 3) := by decide +kernel
theorem zd_97_7 : decode prog_11_method_4_code 7 = .ok (.if_icmp .ge 21, 3) := by decide +kernel
theorem zd_97_10 : decode prog_11_method_4_code 10 = .ok (.aload_n 0, 1) := by decide +kernel
theorem zd_97_11 : decode prog_11_method_4_code 11 = .ok (.getfield 32, 3) := by decide +kernel
theorem zd_97_14 : decode prog_11_method_4_code 14 = .ok (.iload_n 2, 1) := by decide +kernel
theorem zd_97_15 : decode prog_11_method_4_code 15 = .ok (.baload, 1) := by decide +kernel
theorem zd_97_16 : decode prog_11_method_4_code 16 = .ok (.invokestatic 62, 3) := by decide +kernel
theorem zd_97_19 : decode prog_11_method_4_code 19 = .ok (.ifCond .eq 9, 3) := by decide +kernel
theorem zd_97_22 : decode prog_11_method_4_code 22 = .ok (.iinc 2 1, 3) := by decide +kernel
theorem zd_97_25 : decode prog_11_method_4_code 25 = .ok (.goto (-23), 3) := by decide +kernel
theorem zd_97_28 : decode prog_11_method_4_code 28 = .ok (.iload_n 2, 1) := by decide +kernel
theorem zd_98_0 : decode prog_9_method_6_code 0 = .ok (.lconst 0, 1) := by decide +kernel
theorem zd_98_1 : decode prog_9_method_6_code 1 = .ok (.lstore_n 3, 1) := by decide +kernel
theorem zd_98_2 : decode prog_9_method_6_code 2 = .ok (.iconst 0, 1) := by decide +kernel
theorem zd_98_3 : decode prog_9_method_6_code 3 = .ok (.istore 5, 2) := by decide +kernel
theorem zd_98_5 : decode prog_9_method_6_code 5 = .ok (.iload 5, 2) := by decide +kernel
theorem zd_98_7 : decode prog_9_method_6_code 7 = .ok (.bipush 8, 2) := by decide +kernel
theorem zd_98_9 : decode prog_9_method_6_code 9 = .ok (.if_icmp .ge 42, 3) := by decide +kernel
theorem zd_98_12 : decode prog_9_method_6_code 12 = .ok (.iload_n 1, 1) := by decide +kernel
theorem zd_98_13 : decode prog_9_method_6_code 13 = .ok (.iload 5, 2) := by decide +kernel
theorem zd_98_15 : decode prog_9_method_6_code 15 = .ok (.iadd, 1) := by decide +kernel
theorem zd_98_16 : decode prog_9_method_6_code 16 = .ok (.iload_n 2, 1) := by decide +kernel
theorem zd_98_17 : decode prog_9_method_6_code 17 = .ok (.if_icmp .ge 34, 3) := by decide +kernel
theorem zd_98_20 : decode prog_9_method_6_code 20 = .ok (.iload_n 1, 1) := by decide +kernel
theorem zd_98_21 : decode prog_9_method_6_code 21 = .ok (.iload 5, 2) := by decide +kernel
theorem zd_98_23 : decode prog_9_method_6_code 23 = .ok (.iadd, 1) := by decide +kernel
theorem zd_98_24 : decode prog_9_method_6_code 24 = .ok (.aload_n 0, 1) := by decide +kernel
theorem zd_98_25 : decode prog_9_method_6_code 25 = .ok (.arraylength, 1) := by decide +kernel
theorem zd_98_26 : decode prog_9_method_6_code 26 = .ok (.if_icmp .ge 25, 3) := by decide +kernel
theorem zd_98_29 : decode prog_9_method_6_code 29 = .ok (.lload_n 3, 1) := by decide +kernel
theorem zd_98_30 : decode prog_9_method_6_code 30 = .ok (.aload_n 0, 1) := by decide +kernel
theorem zd_98_31 : decode prog_9_method_6_code 31 = .ok (.iload_n 1, 1) := by decide +kernel
theorem zd_98_32 : decode prog_9_method_6_code 32 = .ok (.iload 5, 2) := by decide +kernel
theorem zd_98_34 : decode prog_9_method_6_code 34 = .ok (.iadd, 1) := by decide +kernel
theorem zd_98_35 : decode prog_9_method_6_code 35 = .ok (.baload, 1) := by decide +kernel
theorem zd_98_36 : decode prog_9_method_6_code 36 = .ok (.i2l, 1) := by decide +kernel
theorem zd_98_37 : decode prog_9_method_6_code 37 = .ok (.bipush 8, 2) := by decide +kernel
theorem zd_98_39 : decode prog_9_method_6_code 39 = .ok (.iload 5, 2) := by decide +kernel
theorem zd_98_41 : decode prog_9_method_6_code 41 = .ok (.imul, 1) := by decide +kernel
theorem zd_98_42 : decode prog_9_method_6_code 42 = .ok (.lshl, 1) := by decide +kernel
theorem zd_98_43 : decode prog_9_method_6_code 43 = .ok (.lor, 1) := by decide +kernel
theorem zd_98_44 : decode prog_9_method_6_code 44 = .ok (.lstore_n 3, 1) := by decide +kernel
theorem zd_98_45 : decode prog_9_method_6_code 45 = .ok (.iinc 5 1, 3) := by decide +kernel
theorem zd_98_48 : decode prog_9_method_6_code 48 = .ok (.goto (-43), 3) := by decide +kernel
theorem zd_98_51 : decode prog_9_method_6_code 51 = .ok (.lload_n 3, 1) := by decide +kernel
theorem zd_99_0 : decode prog_26_method_79_code 0 = .ok (.aload_n 0, 1) := by decide +kernel
theorem zd_99_1 : decode prog_26_method_79_code 1 = .ok (.iload_n 1, 1) := by decide +kernel
theorem zd_99_2 : decode prog_26_method_79_code 2 = .ok (.iconst 0, 1) := by decide +kernel
theorem zd_99_3 : decode prog_26_method_79_code 3 = .ok (.invokevirtual 633, 3) := by decide +kernel
theorem zd_100_0 : decode prog_11_method_6_code 0 = .ok (.iload_n 2, 1) := by decide +kernel
theorem zd_100_1 : decode prog_11_method_6_code 1 = .ok (.iconst 1, 1) := by decide +kernel
theorem zd_100_2 : decode prog_11_method_6_code 2 = .ok (.iadd, 1) := by decide +kernel
theorem zd_100_3 : decode prog_11_method_6_code 3 = .ok (.istore_n 3, 1) := by decide +kernel
theorem zd_100_4 : decode prog_11_method_6_code 4 = .ok (.iload_n 3, 1) := by decide +kernel
theorem zd_100_5 : decode prog_11_method_6_code 5 = .ok (.aload_n 0, 1) := by decide +kernel
theorem zd_100_6 : decode prog_11_method_6_code 6 = .ok (.getfield 42, 3) := by decide +kernel
theorem zd_100_9 : decode prog_11_method_6_code 9 = .ok (.if_icmp .ge 33, 3) := by decide +kernel
theorem zd_100_12 : decode prog_11_method_6_code 12 = .ok (.aload_n 0, 1) := by decide +kernel
theorem zd_100_13 : decode prog_11_method_6_code 13 = .ok (.getfield 32, 3) := by decide +kernel
theorem zd_100_16 : decode prog_11_method_6_code 16 = .ok (.iload_n 3, 1) := by decide +kernel
theorem zd_100_17 : decode prog_11_method_6_code 17 = .ok (.baload, 1) := by decide +kernel
theorem zd_100_18 : decode prog_11_method_6_code 18 = .ok (.invokestatic 99, 3) := by decide +kernel
theorem zd_100_21 : decode prog_11_method_6_code 21 = .ok (.ifCond .ne 15, 3) := by decide +kernel
theorem zd_100_24 : decode prog_11_method_6_code 24 = .ok (.aload_n 0, 1) := by decide +kernel
theorem zd_100_25 : decode prog_11_method_6_code 25 = .ok (.getfield 32, 3) := by decide +kernel
theorem zd_100_28 : decode prog_11_method_6_code 28 = .ok (.iload_n 3, 1) := by decide +kernel
theorem zd_100_29 : decode prog_11_method_6_code 29 = .ok (.baload, 1) := by decide +kernel
theorem zd_100_30 : decode prog_11_method_6_code 30 = .ok (.invokestatic 55, 3) := by decide +kernel
theorem zd_100_33 : decode prog_11_method_6_code 33 = .ok (.ifCond .eq 9, 3) := by decide +kernel
theorem zd_100_36 : decode prog_11_method_6_code 36 = .ok (.iinc 3 1, 3) := by decide +kernel
theorem zd_100_39 : decode prog_11_method_6_code 39 = .ok (.goto (-35), 3) := by decide +kernel
theorem zd_100_42 : decode prog_11_method_6_code 42 = .ok (.iload_n 3, 1) := by decide +kernel
theorem zd_100_43 : decode prog_11_method_6_code 43 = .ok (.iload_n 2, 1) := by decide +kernel
theorem zd_100_44 : decode prog_11_method_6_code 44 = .ok (.isub, 1) := by decide +kernel
theorem zd_100_45 : decode prog_11_method_6_code 45 = .ok (.iconst 5, 1) := by decide +kernel
theorem zd_100_46 : decode prog_11_method_6_code 46 = .ok (.if_icmp .le 7, 3) := by decide +kernel
theorem zd_100_53 : decode prog_11_method_6_code 53 = .ok (.aload_n 0, 1) := by decide +kernel
theorem zd_100_54 : decode prog_11_method_6_code 54 = .ok (.getfield 28, 3) := by decide +kernel
theorem zd_100_57 : decode prog_11_method_6_code 57 = .ok (.aload_n 0, 1) := by decide +kernel
theorem zd_100_58 : decode prog_11_method_6_code 58 = .ok (.getfield 32, 3) := by decide +kernel
theorem zd_100_61 : decode prog_11_method_6_code 61 = .ok (.iload_n 2, 1) := by decide +kernel
theorem zd_100_62 : decode prog_11_method_6_code 62 = .ok (.iload_n 3, 1) := by decide +kernel
theorem zd_100_63 : decode prog_11_method_6_code 63 = .ok (.invokestatic 69, 3) := by decide +kernel
theorem zd_100_66 : decode prog_11_method_6_code 66 = .ok (.lconst 0, 1) := by decide +kernel
theorem zd_100_67 : decode prog_11_method_6_code 67 = .ok (.invokevirtual 75, 3) := by decide +kernel
theorem zd_100_70 : decode prog_11_method_6_code 70 = .ok (.istore 4, 2) := by decide +kernel
theorem zd_100_72 : decode prog_11_method_6_code 72 = .ok (.aload_n 0, 1) := by decide +kernel
theorem zd_100_73 : decode prog_11_method_6_code 73 = .ok (.getfield 9, 3) := by decide +kernel
theorem zd_100_76 : decode prog_11_method_6_code 76 = .ok (.iload_n 1, 1) := by decide +kernel
theorem zd_100_77 : decode prog_11_method_6_code 77 = .ok (.iload 4, 2) := by decide +kernel
theorem zd_100_79 : decode prog_11_method_6_code 79 = .ok (.bipush 93, 2) := by decide +kernel
theorem zd_100_81 : decode prog_11_method_6_code 81 = .ok (.if_icmp .lt 16, 3) := by decide +kernel
theorem zd_100_84 : decode prog_11_method_6_code 84 = .ok (.iload 4, 2) := by decide +kernel
theorem zd_100_86 : decode prog_11_method_6_code 86 = .ok (.sipush 157, 3) := by decide +kernel
theorem zd_100_89 : decode prog_11_method_6_code 89 = .ok (.if_icmp .ge 8, 3) := by decide +kernel
theorem zd_100_92 : decode prog_11_method_6_code 92 = .ok (.bipush 6, 2) := by decide +kernel
theorem zd_100_94 : decode prog_11_method_6_code 94 = .ok (.goto 4, 3) := by decide +kernel
theorem zd_100_98 : decode prog_11_method_6_code 98 = .ok (.iastore, 1) := by decide +kernel
theorem zd_100_99 : decode prog_11_method_6_code 99 = .ok (.aload_n 0, 1) := by decide +kernel
theorem zd_100_100 : decode prog_11_method_6_code 100 = .ok (.getfield 15, 3) := by decide +kernel
theorem zd_100_103 : decode prog_11_method_6_code 103 = .ok (.iload_n 1, 1) := by decide +kernel
theorem zd_100_104 : decode prog_11_method_6_code 104 = .ok (.iload 4, 2) := by decide +kernel
theorem zd_100_106 : decode prog_11_method_6_code 106 = .ok (.bipush 93, 2) := by decide +kernel
theorem zd_100_108 : decode prog_11_method_6_code 108 = .ok (.isub, 1) := by decide +kernel
theorem zd_100_109 : decode prog_11_method_6_code 109 = .ok (.bipush 31, 2) := by decide +kernel
theorem zd_100_111 : decode prog_11_method_6_code 111 = .ok (.iand, 1) := by decide +kernel
theorem zd_100_112 : decode prog_11_method_6_code 112 = .ok (.iastore, 1) := by decide +kernel
theorem zd_100_113 : decode prog_11_method_6_code 113 = .ok (.iload_n 3, 1) := by decide +kernel
theorem zd_101_0 : decode prog_11_method_5_code 0 = .ok (.aload_n 0, 1) := by decide +kernel
theorem zd_101_1 : decode prog_11_method_5_code 1 = .ok (.iload_n 2, 1) := by decide +kernel
theorem zd_101_2 : decode prog_11_method_5_code 2 = .ok (.invokevirtual 65, 3) := by decide +kernel
theorem zd_101_5 : decode prog_11_method_5_code 5 = .ok (.istore_n 3, 1) := by decide +kernel
theorem zd_101_6 : decode prog_11_method_5_code 6 = .ok (.aload_n 0, 1) := by decide +kernel
theorem zd_101_7 : decode prog_11_method_5_code 7 = .ok (.getfield 32, 3) := by decide +kernel
theorem zd_101_10 : decode prog_11_method_5_code 10 = .ok (.iload_n 3, 1) := by decide +kernel
theorem zd_101_11 : decode prog_11_method_5_code 11 = .ok (.iconst 1, 1) := by decide +kernel
theorem zd_101_12 : decode prog_11_method_5_code 12 = .ok (.isub, 1) := by decide +kernel
theorem zd_101_13 : decode prog_11_method_5_code 13 = .ok (.baload, 1) := by decide +kernel
theorem zd_101_14 : decode prog_11_method_5_code 14 = .ok (.istore 4, 2) := by decide +kernel
theorem zd_101_16 : decode prog_11_method_5_code 16 = .ok (.aload_n 0, 1) := by decide +kernel
theorem zd_101_17 : decode prog_11_method_5_code 17 = .ok (.getfield 21, 3) := by decide +kernel
theorem zd_101_20 : decode prog_11_method_5_code 20 = .ok (.iload_n 1, 1) := by decide +kernel
theorem zd_101_21 : decode prog_11_method_5_code 21 = .ok (.iload_n 3, 1) := by decide +kernel
theorem zd_101_22 : decode prog_11_method_5_code 22 = .ok (.iload_n 2, 1) := by decide +kernel
theorem zd_101_23 : decode prog_11_method_5_code 23 = .ok (.isub, 1) := by decide +kernel
theorem zd_101_24 : decode prog_11_method_5_code 24 = .ok (.i2l, 1) := by decide +kernel
theorem zd_101_25 : decode prog_11_method_5_code 25 = .ok (.lastore, 1) := by decide +kernel
theorem zd_101_26 : decode prog_11_method_5_code 26 = .ok (.iload_n 3, 1) := by decide +kernel
theorem zd_101_27 : decode prog_11_method_5_code 27 = .ok (.iload_n 2, 1) := by decide +kernel
theorem zd_101_28 : decode prog_11_method_5_code 28 = .ok (.isub, 1) := by decide +kernel
theorem zd_101_29 : decode prog_11_method_5_code 29 = .ok (.iconst 2, 1) := by decide +kernel
theorem zd_101_30 : decode prog_11_method_5_code 30 = .ok (.if_icmp .ne 52, 3) := by decide +kernel
theorem zd_101_33 : decode prog_11_method_5_code 33 = .ok (.iload 4, 2) := by decide +kernel
theorem zd_101_35 : decode prog_11_method_5_code 35 = .ok (.bipush 98, 2) := by decide +kernel
theorem zd_101_37 : decode prog_11_method_5_code 37 = .ok (.if_icmp .eq 10, 3) := by decide +kernel
theorem zd_101_40 : decode prog_11_method_5_code 40 = .ok (.iload 4, 2) := by decide +kernel
theorem zd_101_42 : decode prog_11_method_5_code 42 = .ok (.bipush 102, 2) := by decide +kernel
theorem zd_101_44 : decode prog_11_method_5_code 44 = .ok (.if_icmp .ne 38, 3) := by decide +kernel
theorem zd_101_82 : decode prog_11_method_5_code 82 = .ok (.iload_n 3, 1) := by decide +kernel
theorem zd_101_83 : decode prog_11_method_5_code 83 = .ok (.iload_n 2, 1) := by decide +kernel
theorem zd_101_84 : decode prog_11_method_5_code 84 = .ok (.isub, 1) := by decide +kernel
theorem zd_101_85 : decode prog_11_method_5_code 85 = .ok (.iconst 2, 1) := by decide +kernel
theorem zd_101_86 : decode prog_11_method_5_code 86 = .ok (.if_icmp .le 31, 3) := by decide +kernel
theorem zd_101_117 : decode prog_11_method_5_code 117 = .ok (.iconst 0, 1) := by decide +kernel
theorem zd_101_118 : decode prog_11_method_5_code 118 = .ok (.istore 5, 2) := by decide +kernel
theorem zd_101_120 : decode prog_11_method_5_code 120 = .ok (.lconst 0, 1) := by decide +kernel
theorem zd_101_121 : decode prog_11_method_5_code 121 = .ok (.lstore 6, 2) := by decide +kernel
theorem zd_101_123 : decode prog_11_method_5_code 123 = .ok (.aload_n 0, 1) := by decide +kernel
theorem zd_101_124 : decode prog_11_method_5_code 124 = .ok (.getfield 9, 3) := by decide +kernel
theorem zd_101_127 : decode prog_11_method_5_code 127 = .ok (.iload_n 1, 1) := by decide +kernel
theorem zd_101_128 : decode prog_11_method_5_code 128 = .ok (.iload_n 3, 1) := by decide +kernel
theorem zd_101_129 : decode prog_11_method_5_code 129 = .ok (.iload_n 2, 1) := by decide +kernel
theorem zd_101_130 : decode prog_11_method_5_code 130 = .ok (.isub, 1) := by decide +kernel
theorem zd_101_131 : decode prog_11_method_5_code 131 = .ok (.bipush 10, 2) := by decide +kernel
theorem zd_101_133 : decode prog_11_method_5_code 133 = .ok (.if_icmp .le 7, 3) := by decide +kernel
theorem zd_101_140 : decode prog_11_method_5_code 140 = .ok (.iconst 3, 1) := by decide +kernel
theorem zd_101_141 : decode prog_11_method_5_code 141 = .ok (.iastore, 1) := by decide +kernel
theorem zd_101_142 : decode prog_11_method_5_code 142 = .ok (.iload 5, 2) := by decide +kernel
theorem zd_101_144 : decode prog_11_method_5_code 144 = .ok (.ifCond .eq 9, 3) := by decide +kernel
theorem zd_101_153 : decode prog_11_method_5_code 153 = .ok (.iload_n 2, 1) := by decide +kernel
theorem zd_101_154 : decode prog_11_method_5_code 154 = .ok (.istore 8, 2) := by decide +kernel
theorem zd_101_156 : decode prog_11_method_5_code 156 = .ok (.iload 8, 2) := by decide +kernel
theorem zd_101_158 : decode prog_11_method_5_code 158 = .ok (.iload_n 3, 1) := by decide +kernel
theorem zd_101_159 : decode prog_11_method_5_code 159 = .ok (.if_icmp .ge 114, 3) := by decide +kernel
theorem zd_101_162 : decode prog_11_method_5_code 162 = .ok (.aload_n 0, 1) := by decide +kernel
theorem zd_101_163 : decode prog_11_method_5_code 163 = .ok (.getfield 9, 3) := by decide +kernel
theorem zd_101_166 : decode prog_11_method_5_code 166 = .ok (.iload_n 1, 1) := by decide +kernel
theorem zd_101_167 : decode prog_11_method_5_code 167 = .ok (.iaload, 1) := by decide +kernel
theorem zd_101_168 : decode prog_11_method_5_code 168 = .ok (.iconst 3, 1) := by decide +kernel
theorem zd_101_169 : decode prog_11_method_5_code 169 = .ok (.if_icmp .ne 104, 3) := by decide +kernel
theorem zd_101_172 : decode prog_11_method_5_code 172 = .ok (.aload_n 0, 1) := by decide +kernel
theorem zd_101_173 : decode prog_11_method_5_code 173 = .ok (.getfield 32, 3) := by decide +kernel
theorem zd_101_176 : decode prog_11_method_5_code 176 = .ok (.iload 8, 2) := by decide +kernel
theorem zd_101_178 : decode prog_11_method_5_code 178 = .ok (.baload, 1) := by decide +kernel
theorem zd_101_179 : decode prog_11_method_5_code 179 = .ok (.istore 9, 2) := by decide +kernel
theorem zd_101_181 : decode prog_11_method_5_code 181 = .ok (.iload 9, 2) := by decide +kernel
theorem zd_101_183 : decode prog_11_method_5_code 183 = .ok (.invokestatic 55, 3) := by decide +kernel
theorem zd_101_186 : decode prog_11_method_5_code 186 = .ok (.ifCond .eq 32, 3) := by decide +kernel
theorem zd_101_189 : decode prog_11_method_5_code 189 = .ok (.lload 6, 2) := by decide +kernel
theorem zd_101_191 : decode prog_11_method_5_code 191 = .ok (.iload 5, 2) := by decide +kernel
theorem zd_101_193 : decode prog_11_method_5_code 193 = .ok (.ifCond .eq 8, 3) := by decide +kernel
theorem zd_101_201 : decode prog_11_method_5_code 201 = .ok (.bipush 10, 2) := by decide +kernel
theorem zd_101_203 : decode prog_11_method_5_code 203 = .ok (.i2l, 1) := by decide +kernel
theorem zd_101_204 : decode prog_11_method_5_code 204 = .ok (.lmul, 1) := by decide +kernel
theorem zd_101_205 : decode prog_11_method_5_code 205 = .ok (.iload 9, 2) := by decide +kernel
theorem zd_101_207 : decode prog_11_method_5_code 207 = .ok (.i2l, 1) := by decide +kernel
theorem zd_101_208 : decode prog_11_method_5_code 208 = .ok (.ladd, 1) := by decide +kernel
theorem zd_101_209 : decode prog_11_method_5_code 209 = .ok (.ldc2_w 89, 3) := by decide +kernel
theorem zd_101_212 : decode prog_11_method_5_code 212 = .ok (.lsub, 1) := by decide +kernel
theorem zd_101_213 : decode prog_11_method_5_code 213 = .ok (.lstore 6, 2) := by decide +kernel
theorem zd_101_215 : decode prog_11_method_5_code 215 = .ok (.goto 52, 3) := by decide +kernel
theorem zd_101_267 : decode prog_11_method_5_code 267 = .ok (.iinc 8 1, 3) := by decide +kernel
theorem zd_101_270 : decode prog_11_method_5_code 270 = .ok (.goto (-114), 3) := by decide +kernel
theorem zd_101_273 : decode prog_11_method_5_code 273 = .ok (.lload 6, 2) := by decide +kernel
theorem zd_101_275 : decode prog_11_method_5_code 275 = .ok (.ldc2_w 97, 3) := by decide +kernel
theorem zd_101_278 : decode prog_11_method_5_code 278 = .ok (.lcmp, 1) := by decide +kernel
theorem zd_101_279 : decode prog_11_method_5_code 279 = .ok (.ifCond .le 10, 3) := by decide +kernel
theorem zd_101_289 : decode prog_11_method_5_code 289 = .ok (.aload_n 0, 1) := by decide +kernel
theorem zd_101_290 : decode prog_11_method_5_code 290 = .ok (.getfield 15, 3) := by decide +kernel
theorem zd_101_293 : decode prog_11_method_5_code 293 = .ok (.iload_n 1, 1) := by decide +kernel
theorem zd_101_294 : decode prog_11_method_5_code 294 = .ok (.lload 6, 2) := by decide +kernel
theorem zd_101_296 : decode prog_11_method_5_code 296 = .ok (.l2i, 1) := by decide +kernel
theorem zd_101_297 : decode prog_11_method_5_code 297 = .ok (.iastore, 1) := by decide +kernel
theorem zd_101_298 : decode prog_11_method_5_code 298 = .ok (.iload_n 3, 1) := by decide +kernel
theorem zd_102_0 : decode prog_11_method_16_code 0 = .ok (.aload_n 0, 1) := by decide +kernel
theorem zd_102_1 : decode prog_11_method_16_code 1 = .ok (.getfield 9, 3) := by decide +kernel
theorem zd_102_4 : decode prog_11_method_16_code 4 = .ok (.aload_n 0, 1) := by decide +kernel
theorem zd_102_5 : decode prog_11_method_16_code 5 = .ok (.getfield 49, 3) := by decide +kernel
theorem zd_102_8 : decode prog_11_method_16_code 8 = .ok (.iaload, 1) := by decide +kernel
theorem zd_102_9 : decode prog_11_method_16_code 9 = .ok (.iload_n 1, 1) := by decide +kernel
theorem zd_102_10 : decode prog_11_method_16_code 10 = .ok (.if_icmp .ne 16, 3) := by decide +kernel
theorem zd_102_13 : decode prog_11_method_16_code 13 = .ok (.aload_n 0, 1) := by decide +kernel
theorem zd_102_14 : decode prog_11_method_16_code 14 = .ok (.dup, 1) := by decide +kernel
theorem zd_102_15 : decode prog_11_method_16_code 15 = .ok (.getfield 49, 3) := by decide +kernel
theorem zd_102_18 : decode prog_11_method_16_code 18 = .ok (.iconst 1, 1) := by decide +kernel
theorem zd_102_19 : decode prog_11_method_16_code 19 = .ok (.iadd, 1) := by decide +kernel
theorem zd_102_20 : decode prog_11_method_16_code 20 = .ok (.putfield 49, 3) := by decide +kernel
theorem zd_102_23 : decode prog_11_method_16_code 23 = .ok (.goto 8, 3) := by decide +kernel
theorem zd_103_0 : decode prog_11_method_22_code 0 = .ok (.aload_n 0, 1) := by decide +kernel
theorem zd_103_1 : decode prog_11_method_22_code 1 = .ok (.bipush 44, 2) := by decide +kernel
theorem zd_103_3 : decode prog_11_method_22_code 3 = .ok (.invokevirtual 102, 3) := by decide +kernel
theorem zd_103_6 : decode prog_11_method_22_code 6 = .ok (.aload_n 0, 1) := by decide +kernel
theorem zd_103_7 : decode prog_11_method_22_code 7 = .ok (.iload_n 1, 1) := by decide +kernel
theorem zd_103_8 : decode prog_11_method_22_code 8 = .ok (.iload_n 2, 1) := by decide +kernel
theorem zd_103_9 : decode prog_11_method_22_code 9 = .ok (.invokevirtual 126, 3) := by decide +kernel
theorem zd_104_0 : decode prog_12_method_6_code 0 = .ok (.aload_n 0, 1) := by decide +kernel
theorem zd_104_1 : decode prog_12_method_6_code 1 = .ok (.getfield 55, 3) := by decide +kernel
theorem zd_104_4 : decode prog_12_method_6_code 4 = .ok (.iconst 2, 1) := by decide +kernel
theorem zd_104_5 : decode prog_12_method_6_code 5 = .ok (.imul, 1) := by decide +kernel
theorem zd_104_6 : decode prog_12_method_6_code 6 = .ok (.istore 7, 2) := by decide +kernel
theorem zd_104_8 : decode prog_12_method_6_code 8 = .ok (.iload 7, 2) := by decide +kernel
theorem zd_104_10 : decode prog_12_method_6_code 10 = .ok (.iconst 2, 1) := by decide +kernel
theorem zd_104_11 : decode prog_12_method_6_code 11 = .ok (.iadd, 1) := by decide +kernel
theorem zd_104_12 : decode prog_12_method_6_code 12 = .ok (.aload_n 0, 1) := by decide +kernel
theorem zd_104_13 : decode prog_12_method_6_code 13 = .ok (.getfield 32, 3) := by decide +kernel
theorem zd_104_16 : decode prog_12_method_6_code 16 = .ok (.arraylength, 1) := by decide +kernel
theorem zd_104_17 : decode prog_12_method_6_code 17 = .ok (.if_icmp .le 5, 3) := by decide +kernel
theorem zd_104_22 : decode prog_12_method_6_code 22 = .ok (.aload_n 0, 1) := by decide +kernel
theorem zd_104_23 : decode prog_12_method_6_code 23 = .ok (.getfield 29, 3) := by decide +kernel
theorem zd_104_26 : decode prog_12_method_6_code 26 = .ok (.iconst 2, 1) := by decide +kernel
theorem zd_104_27 : decode prog_12_method_6_code 27 = .ok (.aload_n 0, 1) := by decide +kernel
theorem zd_104_28 : decode prog_12_method_6_code 28 = .ok (.getfield 55, 3) := by decide +kernel
theorem zd_104_31 : decode prog_12_method_6_code 31 = .ok (.imul, 1) := by decide +kernel
theorem zd_104_32 : decode prog_12_method_6_code 32 = .ok (.lload_n 1, 1) := by decide +kernel
theorem zd_104_33 : decode prog_12_method_6_code 33 = .ok (.lastore, 1) := by decide +kernel
theorem zd_104_34 : decode prog_12_method_6_code 34 = .ok (.aload_n 0, 1) := by decide +kernel
theorem zd_104_35 : decode prog_12_method_6_code 35 = .ok (.getfield 29, 3) := by decide +kernel
theorem zd_104_38 : decode prog_12_method_6_code 38 = .ok (.iconst 2, 1) := by decide +kernel
theorem zd_104_39 : decode prog_12_method_6_code 39 = .ok (.aload_n 0, 1) := by decide +kernel
theorem zd_104_40 : decode prog_12_method_6_code 40 = .ok (.getfield 55, 3) := by decide +kernel
theorem zd_104_43 : decode prog_12_method_6_code 43 = .ok (.imul, 1) := by decide +kernel
theorem zd_104_44 : decode prog_12_method_6_code 44 = .ok (.iconst 1, 1) := by decide +kernel
theorem zd_104_45 : decode prog_12_method_6_code 45 = .ok (.iadd, 1) := by decide +kernel
theorem zd_104_46 : decode prog_12_method_6_code 46 = .ok (.lload_n 3, 1) := by decide +kernel
theorem zd_104_47 : decode prog_12_method_6_code 47 = .ok (.lastore, 1) := by decide +kernel
theorem zd_104_48 : decode prog_12_method_6_code 48 = .ok (.aload_n 0, 1) := by decide +kernel
theorem zd_104_49 : decode prog_12_method_6_code 49 = .ok (.getfield 32, 3) := by decide +kernel
theorem zd_104_52 : decode prog_12_method_6_code 52 = .ok (.iload 7, 2) := by decide +kernel
theorem zd_104_54 : decode prog_12_method_6_code 54 = .ok (.iconst 0, 1) := by decide +kernel
theorem zd_104_55 : decode prog_12_method_6_code 55 = .ok (.iadd, 1) := by decide +kernel
theorem zd_104_56 : decode prog_12_method_6_code 56 = .ok (.iload 5, 2) := by decide +kernel
theorem zd_104_58 : decode prog_12_method_6_code 58 = .ok (.iastore, 1) := by decide +kernel
theorem zd_104_59 : decode prog_12_method_6_code 59 = .ok (.aload_n 0, 1) := by decide +kernel
theorem zd_104_60 : decode prog_12_method_6_code 60 = .ok (.getfield 32, 3) := by decide +kernel
theorem zd_104_63 : decode prog_12_method_6_code 63 = .ok (.iload 7, 2) := by decide +kernel
theorem zd_104_65 : decode prog_12_method_6_code 65 = .ok (.iconst 1, 1) := by decide +kernel
theorem zd_104_66 : decode prog_12_method_6_code 66 = .ok (.iadd, 1) := by decide +kernel
theorem zd_104_67 : decode prog_12_method_6_code 67 = .ok (.iload 6, 2) := by decide +kernel
theorem zd_104_69 : decode prog_12_method_6_code 69 = .ok (.iastore, 1) := by decide +kernel
theorem zd_104_70 : decode prog_12_method_6_code 70 = .ok (.aload_n 0, 1) := by decide +kernel
theorem zd_104_71 : decode prog_12_method_6_code 71 = .ok (.dup, 1) := by decide +kernel
theorem zd_104_72 : decode prog_12_method_6_code 72 = .ok (.getfield 55, 3) := by decide +kernel
theorem zd_104_75 : decode prog_12_method_6_code 75 = .ok (.iconst 1, 1) := by decide +kernel
theorem zd_104_76 : decode prog_12_method_6_code 76 = .ok (.iadd, 1) := by decide +kernel
theorem zd_104_77 : decode prog_12_method_6_code 77 = .ok (.putfield 55, 3) := by decide +kernel
theorem zd_104_80 : decode prog_12_method_6_code 80 = .ok (.iconst 1, 1) := by decide +kernel
theorem zd_105_0 : decode prog_12_method_5_code 0 = .ok (.aload_n 0, 1) := by decide +kernel
theorem zd_105_1 : decode prog_12_method_5_code 1 = .ok (.getfield 52, 3) := by decide +kernel
theorem zd_105_4 : decode prog_12_method_5_code 4 = .ok (.iconst 5, 1) := by decide +kernel
theorem zd_105_5 : decode prog_12_method_5_code 5 = .ok (.imul, 1) := by decide +kernel
theorem zd_105_6 : decode prog_12_method_5_code 6 = .ok (.istore 7, 2) := by decide +kernel
theorem zd_105_8 : decode prog_12_method_5_code 8 = .ok (.iload 7, 2) := by decide +kernel
theorem zd_105_10 : decode prog_12_method_5_code 10 = .ok (.iconst 5, 1) := by decide +kernel
theorem zd_105_11 : decode prog_12_method_5_code 11 = .ok (.iadd, 1) := by decide +kernel
theorem zd_105_12 : decode prog_12_method_5_code 12 = .ok (.aload_n 0, 1) := by decide +kernel
theorem zd_105_13 : decode prog_12_method_5_code 13 = .ok (.getfield 26, 3) := by decide +kernel
theorem zd_105_16 : decode prog_12_method_5_code 16 = .ok (.arraylength, 1) := by decide +kernel
theorem zd_105_17 : decode prog_12_method_5_code 17 = .ok (.if_icmp .le 5, 3) := by decide +kernel
theorem zd_105_22 : decode prog_12_method_5_code 22 = .ok (.aload_n 0, 1) := by decide +kernel
theorem zd_105_23 : decode prog_12_method_5_code 23 = .ok (.getfield 23, 3) := by decide +kernel
theorem zd_105_26 : decode prog_12_method_5_code 26 = .ok (.iconst 2, 1) := by decide +kernel
theorem zd_105_27 : decode prog_12_method_5_code 27 = .ok (.aload_n 0, 1) := by decide +kernel
theorem zd_105_28 : decode prog_12_method_5_code 28 = .ok (.getfield 52, 3) := by decide +kernel
theorem zd_105_31 : decode prog_12_method_5_code 31 = .ok (.imul, 1) := by decide +kernel
theorem zd_105_32 : decode prog_12_method_5_code 32 = .ok (.lload_n 1, 1) := by decide +kernel
theorem zd_105_33 : decode prog_12_method_5_code 33 = .ok (.lastore, 1) := by decide +kernel
theorem zd_105_34 : decode prog_12_method_5_code 34 = .ok (.aload_n 0, 1) := by decide +kernel
theorem zd_105_35 : decode prog_12_method_5_code 35 = .ok (.getfield 23, 3) := by decide +kernel
theorem zd_105_38 : decode prog_12_method_5_code 38 = .ok (.iconst 2, 1) := by decide +kernel
theorem zd_105_39 : decode prog_12_method_5_code 39 = .ok (.aload_n 0, 1) := by decide +kernel
theorem zd_105_40 : decode prog_12_method_5_code 40 = .ok (.getfield 52, 3) := by decide +kernel
theorem zd_105_43 : decode prog_12_method_5_code 43 = .ok (.imul, 1) := by decide +kernel
theorem zd_105_44 : decode prog_12_method_5_code 44 = .ok (.iconst 1, 1) := by decide +kernel
theorem zd_105_45 : decode prog_12_method_5_code 45 = .ok (.iadd, 1) := by decide +kernel
theorem zd_105_46 : decode prog_12_method_5_code 46 = .ok (.lload_n 3, 1) := by decide +kernel
theorem zd_105_47 : decode prog_12_method_5_code 47 = .ok (.lastore, 1) := by decide +kernel
theorem zd_105_48 : decode prog_12_method_5_code 48 = .ok (.aload_n 0, 1) := by decide +kernel
theorem zd_105_49 : decode prog_12_method_5_code 49 = .ok (.getfield 26, 3) := by decide +kernel
theorem zd_105_52 : decode prog_12_method_5_code 52 = .ok (.iload 7, 2) := by decide +kernel
theorem zd_105_54 : decode prog_12_method_5_code 54 = .ok (.iconst 0, 1) := by decide +kernel
theorem zd_105_55 : decode prog_12_method_5_code 55 = .ok (.iadd, 1) := by decide +kernel
theorem zd_105_56 : decode prog_12_method_5_code 56 = .ok (.iload 5, 2) := by decide +kernel
theorem zd_105_58 : decode prog_12_method_5_code 58 = .ok (.iastore, 1) := by decide +kernel
theorem zd_105_59 : decode prog_12_method_5_code 59 = .ok (.aload_n 0, 1) := by decide +kernel
theorem zd_105_60 : decode prog_12_method_5_code 60 = .ok (.getfield 26, 3) := by decide +kernel
theorem zd_105_63 : decode prog_12_method_5_code 63 = .ok (.iload 7, 2) := by decide +kernel
theorem zd_105_65 : decode prog_12_method_5_code 65 = .ok (.iconst 1, 1) := by decide +kernel
theorem zd_105_66 : decode prog_12_method_5_code 66 = .ok (.iadd, 1) := by decide +kernel
theorem zd_105_67 : decode prog_12_method_5_code 67 = .ok (.aload_n 0, 1) := by decide +kernel
theorem zd_105_68 : decode prog_12_method_5_code 68 = .ok (.iload 5, 2) := by decide +kernel
theorem zd_105_70 : decode prog_12_method_5_code 70 = .ok (.invokevirtual 61, 3) := by decide +kernel
theorem zd_105_73 : decode prog_12_method_5_code 73 = .ok (.iastore, 1) := by decide +kernel
theorem zd_105_74 : decode prog_12_method_5_code 74 = .ok (.aload_n 0, 1) := by decide +kernel
theorem zd_105_75 : decode prog_12_method_5_code 75 = .ok (.getfield 26, 3) := by decide +kernel
theorem zd_105_78 : decode prog_12_method_5_code 78 = .ok (.iload 7, 2) := by decide +kernel
theorem zd_105_80 : decode prog_12_method_5_code 80 = .ok (.iconst 2, 1) := by decide +kernel
theorem zd_105_81 : decode prog_12_method_5_code 81 = .ok (.iadd, 1) := by decide +kernel
theorem zd_105_82 : decode prog_12_method_5_code 82 = .ok (.iload 6, 2) := by decide +kernel
theorem zd_105_84 : decode prog_12_method_5_code 84 = .ok (.iastore, 1) := by decide +kernel
theorem zd_105_85 : decode prog_12_method_5_code 85 = .ok (.aload_n 0, 1) := by decide +kernel
theorem zd_105_86 : decode prog_12_method_5_code 86 = .ok (.getfield 26, 3) := by decide +kernel
theorem zd_105_89 : decode prog_12_method_5_code 89 = .ok (.iload 7, 2) := by decide +kernel
theorem zd_105_91 : decode prog_12_method_5_code 91 = .ok (.iconst 3, 1) := by decide +kernel
theorem zd_105_92 : decode prog_12_method_5_code 92 = .ok (.iadd, 1) := by decide +kernel
theorem zd_105_93 : decode prog_12_method_5_code 93 = .ok (.iconst 0, 1) := by decide +kernel
theorem zd_105_94 : decode prog_12_method_5_code 94 = .ok (.iastore, 1) := by decide +kernel
theorem zd_105_95 : decode prog_12_method_5_code 95 = .ok (.aload_n 0, 1) := by decide +kernel
theorem zd_105_96 : decode prog_12_method_5_code 96 = .ok (.getfield 26, 3) := by decide +kernel
theorem zd_105_99 : decode prog_12_method_5_code 99 = .ok (.iload 7, 2) := by decide +kernel
theorem zd_105_101 : decode prog_12_method_5_code 101 = .ok (.iconst 4, 1) := by decide +kernel
theorem zd_105_102 : decode prog_12_method_5_code 102 = .ok (.iadd, 1) := by decide +kernel
theorem zd_105_103 : decode prog_12_method_5_code 103 = .ok (.iconst 0, 1) := by decide +kernel
theorem zd_105_104 : decode prog_12_method_5_code 104 = .ok (.iastore, 1) := by decide +kernel
theorem zd_105_105 : decode prog_12_method_5_code 105 = .ok (.aload_n 0, 1) := by decide +kernel
theorem zd_105_106 : decode prog_12_method_5_code 106 = .ok (.dup, 1) := by decide +kernel
theorem zd_105_107 : decode prog_12_method_5_code 107 = .ok (.getfield 52, 3) := by decide +kernel
theorem zd_105_110 : decode prog_12_method_5_code 110 = .ok (.iconst 1, 1) := by decide +kernel
theorem zd_105_111 : decode prog_12_method_5_code 111 = .ok (.iadd, 1) := by decide +kernel
theorem zd_105_112 : decode prog_12_method_5_code 112 = .ok (.putfield 52, 3) := by decide +kernel
theorem zd_105_115 : decode prog_12_method_5_code 115 = .ok (.iconst 1, 1) := by decide +kernel
theorem zd_106_0 : decode prog_11_method_23_code 0 = .ok (.aload_n 0, 1) := by decide +kernel
theorem zd_106_1 : decode prog_11_method_23_code 1 = .ok (.invokevirtual 121, 3) := by decide +kernel
theorem zd_106_4 : decode prog_11_method_23_code 4 = .ok (.aload_n 0, 1) := by decide +kernel
theorem zd_106_5 : decode prog_11_method_23_code 5 = .ok (.getfield 112, 3) := by decide +kernel
theorem zd_106_8 : decode prog_11_method_23_code 8 = .ok (.iconst (-1), 1) := by decide +kernel
theorem zd_106_9 : decode prog_11_method_23_code 9 = .ok (.if_icmp .ne 8, 3) := by decide +kernel
theorem zd_107_0 : decode prog_11_method_21_code 0 = .ok (.aload_n 0, 1) := by decide +kernel
theorem zd_107_1 : decode prog_11_method_21_code 1 = .ok (.invokevirtual 121, 3) := by decide +kernel
theorem zd_107_4 : decode prog_11_method_21_code 4 = .ok (.aload_n 0, 1) := by decide +kernel
theorem zd_107_5 : decode prog_11_method_21_code 5 = .ok (.getfield 112, 3) := by decide +kernel
theorem zd_107_8 : decode prog_11_method_21_code 8 = .ok (.iconst (-1), 1) := by decide +kernel
theorem zd_107_9 : decode prog_11_method_21_code 9 = .ok (.if_icmp .eq 11, 3) := by decide +kernel
theorem zd_107_20 : decode prog_11_method_21_code 20 = .ok (.aload_n 0, 1) := by decide +kernel
theorem zd_107_21 : decode prog_11_method_21_code 21 = .ok (.getfield 109, 3) := by decide +kernel
theorem zd_107_24 : decode prog_11_method_21_code 24 = .ok (.iload_n 1, 1) := by decide +kernel
theorem zd_107_25 : decode prog_11_method_21_code 25 = .ok (.if_icmp .lt 11, 3) := by decide +kernel
theorem zd_107_28 : decode prog_11_method_21_code 28 = .ok (.aload_n 0, 1) := by decide +kernel
theorem zd_107_29 : decode prog_11_method_21_code 29 = .ok (.getfield 109, 3) := by decide +kernel
theorem zd_107_32 : decode prog_11_method_21_code 32 = .ok (.iload_n 2, 1) := by decide +kernel
theorem zd_107_33 : decode prog_11_method_21_code 33 = .ok (.if_icmp .le 8, 3) := by decide +kernel
theorem zd_107_41 : decode prog_11_method_21_code 41 = .ok (.aload_n 0, 1) := by decide +kernel
theorem zd_107_42 : decode prog_11_method_21_code 42 = .ok (.getfield 109, 3) := by decide +kernel
theorem zd_108_0 : decode prog_3_method_3_code 0 = .ok (.iload_n 0, 1) := by decide +kernel
theorem zd_108_1 : decode prog_3_method_3_code 1 = .ok (.bipush 6, 2) := by decide +kernel
theorem zd_108_3 : decode prog_3_method_3_code 3 = .ok (.if_icmp .eq 21, 3) := by decide +kernel
theorem zd_108_6 : decode prog_3_method_3_code 6 = .ok (.iload_n 0, 1) := by decide +kernel
theorem zd_108_7 : decode prog_3_method_3_code 7 = .ok (.bipush 7, 2) := by decide +kernel
theorem zd_108_9 : decode prog_3_method_3_code 9 = .ok (.if_icmp .eq 15, 3) := by decide +kernel
theorem zd_108_12 : decode prog_3_method_3_code 12 = .ok (.iload_n 0, 1) := by decide +kernel
theorem zd_108_13 : decode prog_3_method_3_code 13 = .ok (.bipush 26, 2) := by decide +kernel
theorem zd_108_15 : decode prog_3_method_3_code 15 = .ok (.if_icmp .lt 13, 3) := by decide +kernel
theorem zd_108_18 : decode prog_3_method_3_code 18 = .ok (.iload_n 0, 1) := by decide +kernel
theorem zd_108_19 : decode prog_3_method_3_code 19 = .ok (.bipush 35, 2) := by decide +kernel
theorem zd_108_21 : decode prog_3_method_3_code 21 = .ok (.if_icmp .gt 7, 3) := by decide +kernel
theorem zd_108_24 : decode prog_3_method_3_code 24 = .ok (.iconst 1, 1) := by decide +kernel
theorem zd_108_25 : decode prog_3_method_3_code 25 = .ok (.goto 4, 3) := by decide +kernel
theorem zd_108_28 : decode prog_3_method_3_code 28 = .ok (.iconst 0, 1) := by decide +kernel
theorem zd_109_0 : decode prog_2_method_17_code 0 = .ok (.aload_n 0, 1) := by decide +kernel
theorem zd_109_1 : decode prog_2_method_17_code 1 = .ok (.getfield 24, 3) := by decide +kernel
theorem zd_109_4 : decode prog_2_method_17_code 4 = .ok (.aload_n 0, 1) := by decide +kernel
theorem zd_109_5 : decode prog_2_method_17_code 5 = .ok (.getfield 196, 3) := by decide +kernel
theorem zd_109_8 : decode prog_2_method_17_code 8 = .ok (.iaload, 1) := by decide +kernel
theorem zd_109_9 : decode prog_2_method_17_code 9 = .ok (.iconst (-1), 1) := by decide +kernel
theorem zd_109_10 : decode prog_2_method_17_code 10 = .ok (.if_icmp .eq 31, 3) := by decide +kernel
theorem zd_109_41 : decode prog_2_method_17_code 41 = .ok (.iconst 0, 1) := by decide +kernel
theorem zd_110_0 : decode prog_2_method_18_code 0 = .ok (.aload_n 0, 1) := by decide +kernel
theorem zd_110_1 : decode prog_2_method_18_code 1 = .ok (.getfield 52, 3) := by decide +kernel
theorem zd_110_4 : decode prog_2_method_18_code 4 = .ok (.invokevirtual 348, 3) := by decide +kernel
theorem zd_110_7 : decode prog_2_method_18_code 7 = .ok (.istore_n 3, 1) := by decide +kernel
theorem zd_110_8 : decode prog_2_method_18_code 8 = .ok (.aload_n 0, 1) := by decide +kernel
theorem zd_110_9 : decode prog_2_method_18_code 9 = .ok (.getfield 52, 3) := by decide +kernel
theorem zd_110_12 : decode prog_2_method_18_code 12 = .ok (.invokevirtual 351, 3) := by decide +kernel
theorem zd_110_15 : decode prog_2_method_18_code 15 = .ok (.iconst 4, 1) := by decide +kernel
theorem zd_110_16 : decode prog_2_method_18_code 16 = .ok (.if_icmp .ne 23, 3) := by decide +kernel
theorem zd_110_39 : decode prog_2_method_18_code 39 = .ok (.aload_n 0, 1) := by decide +kernel
theorem zd_110_40 : decode prog_2_method_18_code 40 = .ok (.getfield 65, 3) := by decide +kernel
theorem zd_110_43 : decode prog_2_method_18_code 43 = .ok (.aload_n 0, 1) := by decide +kernel
theorem zd_110_44 : decode prog_2_method_18_code 44 = .ok (.getfield 196, 3) := by decide +kernel
theorem zd_110_47 : decode prog_2_method_18_code 47 = .ok (.iload_n 2, 1) := by decide +kernel
theorem zd_110_48 : decode prog_2_method_18_code 48 = .ok (.iload_n 1, 1) := by decide +kernel
theorem zd_110_49 : decode prog_2_method_18_code 49 = .ok (.aload_n 0, 1) := by decide +kernel
theorem zd_110_50 : decode prog_2_method_18_code 50 = .ok (.getfield 52, 3) := by decide +kernel
theorem zd_110_53 : decode prog_2_method_18_code 53 = .ok (.getfield 266, 3) := by decide +kernel
theorem zd_110_56 : decode prog_2_method_18_code 56 = .ok (.aload_n 0, 1) := by decide +kernel
theorem zd_110_57 : decode prog_2_method_18_code 57 = .ok (.getfield 45, 3) := by decide +kernel
theorem zd_110_60 : decode prog_2_method_18_code 60 = .ok (.getfield 113, 3) := by decide +kernel
theorem zd_110_63 : decode prog_2_method_18_code 63 = .ok (.invokevirtual 354, 3) := by decide +kernel
theorem zd_110_66 : decode prog_2_method_18_code 66 = .ok (.istore 4, 2) := by decide +kernel
theorem zd_110_68 : decode prog_2_method_18_code 68 = .ok (.iload 4, 2) := by decide +kernel
theorem zd_110_70 : decode prog_2_method_18_code 70 = .ok (.iconst (-1), 1) := by decide +kernel
theorem zd_110_71 : decode prog_2_method_18_code 71 = .ok (.if_icmp .eq 11, 3) := by decide +kernel
theorem zd_110_74 : decode prog_2_method_18_code 74 = .ok (.iload 4, 2) := by decide +kernel
theorem zd_110_76 : decode prog_2_method_18_code 76 = .ok (.sipush 3000, 3) := by decide +kernel
theorem zd_110_79 : decode prog_2_method_18_code 79 = .ok (.if_icmp .lt 14, 3) := by decide +kernel
theorem zd_110_93 : decode prog_2_method_18_code 93 = .ok (.iload 4, 2) := by decide +kernel
theorem zd_110_95 : decode prog_2_method_18_code 95 = .ok (.bipush 6, 2) := by decide +kernel
theorem zd_110_97 : decode prog_2_method_18_code 97 = .ok (.imul, 1) := by decide +kernel
theorem zd_110_98 : decode prog_2_method_18_code 98 = .ok (.istore 5, 2) := by decide +kernel
theorem zd_110_100 : decode prog_2_method_18_code 100 = .ok (.aload_n 0, 1) := by decide +kernel
theorem zd_110_101 : decode prog_2_method_18_code 101 = .ok (.getfield 52, 3) := by decide +kernel
theorem zd_110_104 : decode prog_2_method_18_code 104 = .ok (.invokevirtual 351, 3) := by decide +kernel
theorem zd_110_107 : decode prog_2_method_18_code 107 = .ok (.iconst 2, 1) := by decide +kernel
theorem zd_110_108 : decode prog_2_method_18_code 108 = .ok (.if_icmp .ne 46, 3) := by decide +kernel
theorem zd_110_111 : decode prog_2_method_18_code 111 = .ok (.aload_n 0, 1) := by decide +kernel
theorem zd_110_112 : decode prog_2_method_18_code 112 = .ok (.getfield 65, 3) := by decide +kernel
theorem zd_110_115 : decode prog_2_method_18_code 115 = .ok (.getfield 357, 3) := by decide +kernel
theorem zd_110_118 : decode prog_2_method_18_code 118 = .ok (.iconst 2, 1) := by decide +kernel
theorem zd_110_119 : decode prog_2_method_18_code 119 = .ok (.iload 4, 2) := by decide +kernel
theorem zd_110_121 : decode prog_2_method_18_code 121 = .ok (.imul, 1) := by decide +kernel
theorem zd_110_122 : decode prog_2_method_18_code 122 = .ok (.aload_n 0, 1) := by decide +kernel
theorem zd_110_123 : decode prog_2_method_18_code 123 = .ok (.getfield 52, 3) := by decide +kernel
theorem zd_110_126 : decode prog_2_method_18_code 126 = .ok (.invokevirtual 361, 3) := by decide +kernel
theorem zd_110_129 : decode prog_2_method_18_code 129 = .ok (.lastore, 1) := by decide +kernel
theorem zd_110_130 : decode prog_2_method_18_code 130 = .ok (.aload_n 0, 1) := by decide +kernel
theorem zd_110_131 : decode prog_2_method_18_code 131 = .ok (.getfield 65, 3) := by decide +kernel
theorem zd_110_134 : decode prog_2_method_18_code 134 = .ok (.getfield 357, 3) := by decide +kernel
theorem zd_110_137 : decode prog_2_method_18_code 137 = .ok (.iconst 2, 1) := by decide +kernel
theorem zd_110_138 : decode prog_2_method_18_code 138 = .ok (.iload 4, 2) := by decide +kernel
theorem zd_110_140 : decode prog_2_method_18_code 140 = .ok (.imul, 1) := by decide +kernel
theorem zd_110_141 : decode prog_2_method_18_code 141 = .ok (.iconst 1, 1) := by decide +kernel
theorem zd_110_142 : decode prog_2_method_18_code 142 = .ok (.iadd, 1) := by decide +kernel
theorem zd_110_143 : decode prog_2_method_18_code 143 = .ok (.aload_n 0, 1) := by decide +kernel
theorem zd_110_144 : decode prog_2_method_18_code 144 = .ok (.getfield 52, 3) := by decide +kernel
theorem zd_110_147 : decode prog_2_method_18_code 147 = .ok (.invokevirtual 364, 3) := by decide +kernel
theorem zd_110_150 : decode prog_2_method_18_code 150 = .ok (.lastore, 1) := by decide +kernel
theorem zd_110_151 : decode prog_2_method_18_code 151 = .ok (.goto 91, 3) := by decide +kernel
theorem zd_110_242 : decode prog_2_method_18_code 242 = .ok (.iload 4, 2) := by decide +kernel
theorem zd_111_0 : decode prog_12_method_9_code 0 = .ok (.iload_n 2, 1) := by decide +kernel
theorem zd_111_1 : decode prog_12_method_9_code 1 = .ok (.ifCond .lt 17, 3) := by decide +kernel
theorem zd_111_4 : decode prog_12_method_9_code 4 = .ok (.aload_n 0, 1) := by decide +kernel
theorem zd_111_5 : decode prog_12_method_9_code 5 = .ok (.getfield 45, 3) := by decide +kernel
theorem zd_111_8 : decode prog_12_method_9_code 8 = .ok (.iload_n 2, 1) := by decide +kernel
theorem zd_111_9 : decode prog_12_method_9_code 9 = .ok (.iadd, 1) := by decide +kernel
theorem zd_111_10 : decode prog_12_method_9_code 10 = .ok (.aload_n 0, 1) := by decide +kernel
theorem zd_111_11 : decode prog_12_method_9_code 11 = .ok (.getfield 41, 3) := by decide +kernel
theorem zd_111_14 : decode prog_12_method_9_code 14 = .ok (.arraylength, 1) := by decide +kernel
theorem zd_111_15 : decode prog_12_method_9_code 15 = .ok (.if_icmp .le 5, 3) := by decide +kernel
theorem zd_111_20 : decode prog_12_method_9_code 20 = .ok (.iload_n 1, 1) := by decide +kernel
theorem zd_111_21 : decode prog_12_method_9_code 21 = .ok (.bipush 6, 2) := by decide +kernel
theorem zd_111_23 : decode prog_12_method_9_code 23 = .ok (.imul, 1) := by decide +kernel
theorem zd_111_24 : decode prog_12_method_9_code 24 = .ok (.istore_n 3, 1) := by decide +kernel
theorem zd_111_25 : decode prog_12_method_9_code 25 = .ok (.aload_n 0, 1) := by decide +kernel
theorem zd_111_26 : decode prog_12_method_9_code 26 = .ok (.getfield 19, 3) := by decide +kernel
theorem zd_111_29 : decode prog_12_method_9_code 29 = .ok (.iload_n 3, 1) := by decide +kernel
theorem zd_111_30 : decode prog_12_method_9_code 30 = .ok (.iconst 3, 1) := by decide +kernel
theorem zd_111_31 : decode prog_12_method_9_code 31 = .ok (.iadd, 1) := by decide +kernel
theorem zd_111_32 : decode prog_12_method_9_code 32 = .ok (.iaload, 1) := by decide +kernel
theorem zd_111_33 : decode prog_12_method_9_code 33 = .ok (.aload_n 0, 1) := by decide +kernel
theorem zd_111_34 : decode prog_12_method_9_code 34 = .ok (.getfield 19, 3) := by decide +kernel
theorem zd_111_37 : decode prog_12_method_9_code 37 = .ok (.iload_n 3, 1) := by decide +kernel
theorem zd_111_38 : decode prog_12_method_9_code 38 = .ok (.iconst 1, 1) := by decide +kernel
theorem zd_111_39 : decode prog_12_method_9_code 39 = .ok (.iadd, 1) := by decide +kernel
theorem zd_111_40 : decode prog_12_method_9_code 40 = .ok (.iaload, 1) := by decide +kernel
theorem zd_111_41 : decode prog_12_method_9_code 41 = .ok (.iadd, 1) := by decide +kernel
theorem zd_111_42 : decode prog_12_method_9_code 42 = .ok (.istore 4, 2) := by decide +kernel
theorem zd_111_44 : decode prog_12_method_9_code 44 = .ok (.aload_n 0, 1) := by decide +kernel
theorem zd_111_45 : decode prog_12_method_9_code 45 = .ok (.getfield 45, 3) := by decide +kernel
theorem zd_111_48 : decode prog_12_method_9_code 48 = .ok (.iconst 1, 1) := by decide +kernel
theorem zd_111_49 : decode prog_12_method_9_code 49 = .ok (.isub, 1) := by decide +kernel
theorem zd_111_50 : decode prog_12_method_9_code 50 = .ok (.istore 5, 2) := by decide +kernel
theorem zd_111_52 : decode prog_12_method_9_code 52 = .ok (.iload 5, 2) := by decide +kernel
theorem zd_111_54 : decode prog_12_method_9_code 54 = .ok (.iload 4, 2) := by decide +kernel
theorem zd_111_56 : decode prog_12_method_9_code 56 = .ok (.if_icmp .lt 25, 3) := by decide +kernel
theorem zd_111_81 : decode prog_12_method_9_code 81 = .ok (.aload_n 0, 1) := by decide +kernel
theorem zd_111_82 : decode prog_12_method_9_code 82 = .ok (.getfield 41, 3) := by decide +kernel
theorem zd_111_85 : decode prog_12_method_9_code 85 = .ok (.iload 4, 2) := by decide +kernel
theorem zd_111_87 : decode prog_12_method_9_code 87 = .ok (.iload 4, 2) := by decide +kernel
theorem zd_111_89 : decode prog_12_method_9_code 89 = .ok (.iload_n 2, 1) := by decide +kernel
theorem zd_111_90 : decode prog_12_method_9_code 90 = .ok (.iadd, 1) := by decide +kernel
theorem zd_111_91 : decode prog_12_method_9_code 91 = .ok (.iconst 0, 1) := by decide +kernel
theorem zd_111_92 : decode prog_12_method_9_code 92 = .ok (.invokestatic 65, 3) := by decide +kernel
theorem zd_111_95 : decode prog_12_method_9_code 95 = .ok (.iload_n 1, 1) := by decide +kernel
theorem zd_111_96 : decode prog_12_method_9_code 96 = .ok (.iconst 1, 1) := by decide +kernel
theorem zd_111_97 : decode prog_12_method_9_code 97 = .ok (.iadd, 1) := by decide +kernel
theorem zd_111_98 : decode prog_12_method_9_code 98 = .ok (.istore 5, 2) := by decide +kernel
theorem zd_111_100 : decode prog_12_method_9_code 100 = .ok (.iload 5, 2) := by decide +kernel
theorem zd_111_102 : decode prog_12_method_9_code 102 = .ok (.aload_n 0, 1) := by decide +kernel
theorem zd_111_103 : decode prog_12_method_9_code 103 = .ok (.getfield 49, 3) := by decide +kernel
theorem zd_111_106 : decode prog_12_method_9_code 106 = .ok (.if_icmp .ge 25, 3) := by decide +kernel
theorem zd_111_131 : decode prog_12_method_9_code 131 = .ok (.aload_n 0, 1) := by decide +kernel
theorem zd_111_132 : decode prog_12_method_9_code 132 = .ok (.getfield 19, 3) := by decide +kernel
theorem zd_111_135 : decode prog_12_method_9_code 135 = .ok (.iload_n 3, 1) := by decide +kernel
theorem zd_111_136 : decode prog_12_method_9_code 136 = .ok (.iconst 1, 1) := by decide +kernel
theorem zd_111_137 : decode prog_12_method_9_code 137 = .ok (.iadd, 1) := by decide +kernel
theorem zd_111_138 : decode prog_12_method_9_code 138 = .ok (.dup2, 1) := by decide +kernel
theorem zd_111_139 : decode prog_12_method_9_code 139 = .ok (.iaload, 1) := by decide +kernel
theorem zd_111_140 : decode prog_12_method_9_code 140 = .ok (.iload_n 2, 1) := by decide +kernel
theorem zd_111_141 : decode prog_12_method_9_code 141 = .ok (.iadd, 1) := by decide +kernel
theorem zd_111_142 : decode prog_12_method_9_code 142 = .ok (.iastore, 1) := by decide +kernel
theorem zd_111_143 : decode prog_12_method_9_code 143 = .ok (.aload_n 0, 1) := by decide +kernel
theorem zd_111_144 : decode prog_12_method_9_code 144 = .ok (.dup, 1) := by decide +kernel
theorem zd_111_145 : decode prog_12_method_9_code 145 = .ok (.getfield 45, 3) := by decide +kernel
theorem zd_111_148 : decode prog_12_method_9_code 148 = .ok (.iload_n 2, 1) := by decide +kernel
theorem zd_111_149 : decode prog_12_method_9_code 149 = .ok (.iadd, 1) := by decide +kernel
theorem zd_111_150 : decode prog_12_method_9_code 150 = .ok (.putfield 45, 3) := by decide +kernel
theorem zd_111_153 : decode prog_12_method_9_code 153 = .ok (.iconst 1, 1) := by decide +kernel
theorem zd_112_0 : decode prog_12_method_10_code 0 = .ok (.aload_n 0, 1) := by decide +kernel
theorem zd_112_1 : decode prog_12_method_10_code 1 = .ok (.getfield 19, 3) := by decide +kernel
theorem zd_112_4 : decode prog_12_method_10_code 4 = .ok (.iload_n 1, 1) := by decide +kernel
theorem zd_112_5 : decode prog_12_method_10_code 5 = .ok (.bipush 6, 2) := by decide +kernel
theorem zd_112_7 : decode prog_12_method_10_code 7 = .ok (.imul, 1) := by decide +kernel
theorem zd_112_8 : decode prog_12_method_10_code 8 = .ok (.iconst 3, 1) := by decide +kernel
theorem zd_112_9 : decode prog_12_method_10_code 9 = .ok (.iadd, 1) := by decide +kernel
theorem zd_112_10 : decode prog_12_method_10_code 10 = .ok (.iaload, 1) := by decide +kernel
theorem zd_112_11 : decode prog_12_method_10_code 11 = .ok (.iload_n 2, 1) := by decide +kernel
theorem zd_112_12 : decode prog_12_method_10_code 12 = .ok (.iadd, 1) := by decide +kernel
theorem zd_112_13 : decode prog_12_method_10_code 13 = .ok (.istore 5, 2) := by decide +kernel
theorem zd_112_15 : decode prog_12_method_10_code 15 = .ok (.iconst 0, 1) := by decide +kernel
theorem zd_112_16 : decode prog_12_method_10_code 16 = .ok (.istore 6, 2) := by decide +kernel
theorem zd_112_18 : decode prog_12_method_10_code 18 = .ok (.iload 6, 2) := by decide +kernel
theorem zd_112_20 : decode prog_12_method_10_code 20 = .ok (.iload 4, 2) := by decide +kernel
theorem zd_112_22 : decode prog_12_method_10_code 22 = .ok (.if_icmp .ge 44, 3) := by decide +kernel
theorem zd_112_25 : decode prog_12_method_10_code 25 = .ok (.iload 5, 2) := by decide +kernel
theorem zd_112_27 : decode prog_12_method_10_code 27 = .ok (.ifCond .lt 39, 3) := by decide +kernel
theorem zd_112_30 : decode prog_12_method_10_code 30 = .ok (.iload 5, 2) := by decide +kernel
theorem zd_112_32 : decode prog_12_method_10_code 32 = .ok (.iload 6, 2) := by decide +kernel
theorem zd_112_34 : decode prog_12_method_10_code 34 = .ok (.iadd, 1) := by decide +kernel
theorem zd_112_35 : decode prog_12_method_10_code 35 = .ok (.aload_n 0, 1) := by decide +kernel
theorem zd_112_36 : decode prog_12_method_10_code 36 = .ok (.getfield 45, 3) := by decide +kernel
theorem zd_112_39 : decode prog_12_method_10_code 39 = .ok (.if_icmp .ge 27, 3) := by decide +kernel
theorem zd_112_42 : decode prog_12_method_10_code 42 = .ok (.aload_n 0, 1) := by decide +kernel
theorem zd_112_43 : decode prog_12_method_10_code 43 = .ok (.getfield 41, 3) := by decide +kernel
theorem zd_112_46 : decode prog_12_method_10_code 46 = .ok (.iload 5, 2) := by decide +kernel
theorem zd_112_48 : decode prog_12_method_10_code 48 = .ok (.iload 6, 2) := by decide +kernel
theorem zd_112_50 : decode prog_12_method_10_code 50 = .ok (.iadd, 1) := by decide +kernel
theorem zd_112_51 : decode prog_12_method_10_code 51 = .ok (.iload_n 3, 1) := by decide +kernel
theorem zd_112_52 : decode prog_12_method_10_code 52 = .ok (.bipush 8, 2) := by decide +kernel
theorem zd_112_54 : decode prog_12_method_10_code 54 = .ok (.iload 6, 2) := by decide +kernel
theorem zd_112_56 : decode prog_12_method_10_code 56 = .ok (.imul, 1) := by decide +kernel
theorem zd_112_57 : decode prog_12_method_10_code 57 = .ok (.iushr, 1) := by decide +kernel
theorem zd_112_58 : decode prog_12_method_10_code 58 = .ok (.i2b, 1) := by decide +kernel
theorem zd_112_59 : decode prog_12_method_10_code 59 = .ok (.bastore, 1) := by decide +kernel
theorem zd_112_60 : decode prog_12_method_10_code 60 = .ok (.iinc 6 1, 3) := by decide +kernel
theorem zd_112_63 : decode prog_12_method_10_code 63 = .ok (.goto (-45), 3) := by decide +kernel
theorem zd_113_0 : decode prog_11_method_18_code 0 = .ok (.aload_n 0, 1) := by decide +kernel
theorem zd_113_1 : decode prog_11_method_18_code 1 = .ok (.getfield 9, 3) := by decide +kernel
theorem zd_113_4 : decode prog_11_method_18_code 4 = .ok (.aload_n 0, 1) := by decide +kernel
theorem zd_113_5 : decode prog_11_method_18_code 5 = .ok (.getfield 49, 3) := by decide +kernel
theorem zd_113_8 : decode prog_11_method_18_code 8 = .ok (.iaload, 1) := by decide +kernel
theorem zd_113_9 : decode prog_11_method_18_code 9 = .ok (.bipush 6, 2) := by decide +kernel
theorem zd_113_11 : decode prog_11_method_18_code 11 = .ok (.if_icmp .eq 10, 3) := by decide +kernel
theorem zd_113_21 : decode prog_11_method_18_code 21 = .ok (.aload_n 0, 1) := by decide +kernel
theorem zd_113_22 : decode prog_11_method_18_code 22 = .ok (.dup, 1) := by decide +kernel
theorem zd_113_23 : decode prog_11_method_18_code 23 = .ok (.getfield 49, 3) := by decide +kernel
theorem zd_113_26 : decode prog_11_method_18_code 26 = .ok (.iconst 1, 1) := by decide +kernel
theorem zd_113_27 : decode prog_11_method_18_code 27 = .ok (.iadd, 1) := by decide +kernel
theorem zd_113_28 : decode prog_11_method_18_code 28 = .ok (.putfield 49, 3) := by decide +kernel
theorem zd_113_31 : decode prog_11_method_18_code 31 = .ok (.aload_n 0, 1) := by decide +kernel
theorem zd_113_32 : decode prog_11_method_18_code 32 = .ok (.getfield 15, 3) := by decide +kernel
theorem zd_113_35 : decode prog_11_method_18_code 35 = .ok (.aload_n 0, 1) := by decide +kernel
theorem zd_113_36 : decode prog_11_method_18_code 36 = .ok (.getfield 49, 3) := by decide +kernel
theorem zd_113_39 : decode prog_11_method_18_code 39 = .ok (.iconst 1, 1) := by decide +kernel
theorem zd_113_40 : decode prog_11_method_18_code 40 = .ok (.isub, 1) := by decide +kernel
theorem zd_113_41 : decode prog_11_method_18_code 41 = .ok (.iaload, 1) := by decide +kernel
theorem zd_113_42 : decode prog_11_method_18_code 42 = .ok (.iload_n 1, 1) := by decide +kernel
theorem zd_113_43 : decode prog_11_method_18_code 43 = .ok (.ishl, 1) := by decide +kernel
theorem zd_114_0 : decode prog_11_method_19_code 0 = .ok (.aload_n 0, 1) := by decide +kernel
theorem zd_114_1 : decode prog_11_method_19_code 1 = .ok (.bipush 44, 2) := by decide +kernel
theorem zd_114_3 : decode prog_11_method_19_code 3 = .ok (.invokevirtual 102, 3) := by decide +kernel
theorem zd_114_6 : decode prog_11_method_19_code 6 = .ok (.aload_n 0, 1) := by decide +kernel
theorem zd_114_7 : decode prog_11_method_19_code 7 = .ok (.iload_n 1, 1) := by decide +kernel
theorem zd_114_8 : decode prog_11_method_19_code 8 = .ok (.invokevirtual 106, 3) := by decide +kernel
theorem zd_115_0 : decode prog_14_method_105_code 0 = .ok (.aload_n 0, 1) := by decide +kernel
theorem zd_115_1 : decode prog_14_method_105_code 1 = .ok (.getfield 1204, 3) := by decide +kernel
theorem zd_115_4 : decode prog_14_method_105_code 4 = .ok (.sipush 3001, 3) := by decide +kernel
theorem zd_115_7 : decode prog_14_method_105_code 7 = .ok (.if_icmp .ge 23, 3) := by decide +kernel
theorem zd_115_10 : decode prog_14_method_105_code 10 = .ok (.aload_n 0, 1) := by decide +kernel
theorem zd_115_11 : decode prog_14_method_105_code 11 = .ok (.getfield 298, 3) := by decide +kernel
theorem zd_115_14 : decode prog_14_method_105_code 14 = .ok (.aload_n 0, 1) := by decide +kernel
theorem zd_115_15 : decode prog_14_method_105_code 15 = .ok (.getfield 1204, 3) := by decide +kernel
theorem zd_115_18 : decode prog_14_method_105_code 18 = .ok (.iload_n 1, 1) := by decide +kernel
theorem zd_115_19 : decode prog_14_method_105_code 19 = .ok (.iastore, 1) := by decide +kernel
theorem zd_115_20 : decode prog_14_method_105_code 20 = .ok (.aload_n 0, 1) := by decide +kernel
theorem zd_115_21 : decode prog_14_method_105_code 21 = .ok (.dup, 1) := by decide +kernel
theorem zd_115_22 : decode prog_14_method_105_code 22 = .ok (.getfield 1204, 3) := by decide +kernel
theorem zd_115_25 : decode prog_14_method_105_code 25 = .ok (.iconst 1, 1) := by decide +kernel
theorem zd_115_26 : decode prog_14_method_105_code 26 = .ok (.iadd, 1) := by decide +kernel
theorem zd_115_27 : decode prog_14_method_105_code 27 = .ok (.putfield 1204, 3) := by decide +kernel
theorem zd_116_0 : decode prog_14_method_110_code 0 = .ok (.aload_n 0, 1) := by decide +kernel
theorem zd_116_1 : decode prog_14_method_110_code 1 = .ok (.invokevirtual 1222, 3) := by decide +kernel
theorem zd_116_4 : decode prog_14_method_110_code 4 = .ok (.bipush 32, 2) := by decide +kernel
theorem zd_116_6 : decode prog_14_method_110_code 6 = .ok (.if_icmp .ne 16, 3) := by decide +kernel
theorem zd_116_9 : decode prog_14_method_110_code 9 = .ok (.aload_n 0, 1) := by decide +kernel
theorem zd_116_10 : decode prog_14_method_110_code 10 = .ok (.dup, 1) := by decide +kernel
theorem zd_116_11 : decode prog_14_method_110_code 11 = .ok (.getfield 1219, 3) := by decide +kernel
theorem zd_116_14 : decode prog_14_method_110_code 14 = .ok (.iconst 1, 1) := by decide +kernel
theorem zd_116_15 : decode prog_14_method_110_code 15 = .ok (.iadd, 1) := by decide +kernel
theorem zd_116_16 : decode prog_14_method_110_code 16 = .ok (.putfield 1219, 3) := by decide +kernel
theorem zd_116_19 : decode prog_14_method_110_code 19 = .ok (.goto (-19), 3) := by decide +kernel
theorem zd_117_0 : decode prog_14_method_109_code 0 = .ok (.aload_n 0, 1) := by decide +kernel
theorem zd_117_1 : decode prog_14_method_109_code 1 = .ok (.getfield 1219, 3) := by decide +kernel
theorem zd_117_4 : decode prog_14_method_109_code 4 = .ok (.aload_n 0, 1) := by decide +kernel
theorem zd_117_5 : decode prog_14_method_109_code 5 = .ok (.getfield 1204, 3) := by decide +kernel
theorem zd_117_8 : decode prog_14_method_109_code 8 = .ok (.if_icmp .ge 15, 3) := by decide +kernel
theorem zd_117_11 : decode prog_14_method_109_code 11 = .ok (.aload_n 0, 1) := by decide +kernel
theorem zd_117_12 : decode prog_14_method_109_code 12 = .ok (.getfield 298, 3) := by decide +kernel
theorem zd_117_15 : decode prog_14_method_109_code 15 = .ok (.aload_n 0, 1) := by decide +kernel
theorem zd_117_16 : decode prog_14_method_109_code 16 = .ok (.getfield 1219, 3) := by decide +kernel
theorem zd_117_19 : decode prog_14_method_109_code 19 = .ok (.iaload, 1) := by decide +kernel
theorem zd_117_20 : decode prog_14_method_109_code 20 = .ok (.goto 4, 3) := by decide +kernel
theorem zd_117_23 : decode prog_14_method_109_code 23 = .ok (.iconst (-1), 1) := by decide +kernel
theorem zd_118_0 : decode prog_14_method_102_code 0 = .ok (.iload_n 0, 1) := by decide +kernel
theorem zd_118_1 : decode prog_14_method_102_code 1 = .ok (.invokestatic 550, 3) := by decide +kernel
theorem zd_118_4 : decode prog_14_method_102_code 4 = .ok (.ifCond .ne 15, 3) := by decide +kernel
theorem zd_118_7 : decode prog_14_method_102_code 7 = .ok (.iload_n 0, 1) := by decide +kernel
theorem zd_118_8 : decode prog_14_method_102_code 8 = .ok (.bipush 95, 2) := by decide +kernel
theorem zd_118_10 : decode prog_14_method_102_code 10 = .ok (.if_icmp .eq 9, 3) := by decide +kernel
theorem zd_118_13 : decode prog_14_method_102_code 13 = .ok (.iload_n 0, 1) := by decide +kernel
theorem zd_118_14 : decode prog_14_method_102_code 14 = .ok (.bipush 46, 2) := by decide +kernel
theorem zd_118_16 : decode prog_14_method_102_code 16 = .ok (.if_icmp .ne 7, 3) := by decide +kernel
theorem zd_118_19 : decode prog_14_method_102_code 19 = .ok (.iconst 1, 1) := by decide +kernel
theorem zd_118_20 : decode prog_14_method_102_code 20 = .ok (.goto 4, 3) := by decide +kernel
theorem zd_118_23 : decode prog_14_method_102_code 23 = .ok (.iconst 0, 1) := by decide +kernel
theorem zd_119_0 : decode prog_14_method_114_code 0 = .ok (.aload_n 0, 1) := by decide +kernel
theorem zd_119_1 : decode prog_14_method_114_code 1 = .ok (.invokevirtual 1225, 3) := by decide +kernel
theorem zd_119_4 : decode prog_14_method_114_code 4 = .ok (.aload_n 0, 1) := by decide +kernel
theorem zd_119_5 : decode prog_14_method_114_code 5 = .ok (.getfield 1219, 3) := by decide +kernel
theorem zd_119_8 : decode prog_14_method_114_code 8 = .ok (.istore_n 1, 1) := by decide +kernel
theorem zd_119_9 : decode prog_14_method_114_code 9 = .ok (.lconst 0, 1) := by decide +kernel
theorem zd_119_10 : decode prog_14_method_114_code 10 = .ok (.lstore_n 2, 1) := by decide +kernel
theorem zd_119_11 : decode prog_14_method_114_code 11 = .ok (.lconst 0, 1) := by decide +kernel
theorem zd_119_12 : decode prog_14_method_114_code 12 = .ok (.lstore 4, 2) := by decide +kernel
theorem zd_119_14 : decode prog_14_method_114_code 14 = .ok (.aload_n 0, 1) := by decide +kernel
theorem zd_119_15 : decode prog_14_method_114_code 15 = .ok (.getfield 1219, 3) := by decide +kernel
theorem zd_119_18 : decode prog_14_method_114_code 18 = .ok (.iload_n 1, 1) := by decide +kernel
theorem zd_119_19 : decode prog_14_method_114_code 19 = .ok (.if_icmp .ne 16, 3) := by decide +kernel
theorem zd_119_22 : decode prog_14_method_114_code 22 = .ok (.aload_n 0, 1) := by decide +kernel
theorem zd_119_23 : decode prog_14_method_114_code 23 = .ok (.invokevirtual 1222, 3) := by decide +kernel
theorem zd_119_26 : decode prog_14_method_114_code 26 = .ok (.invokestatic 1198, 3) := by decide +kernel
theorem zd_119_29 : decode prog_14_method_114_code 29 = .ok (.ifCond .eq 100, 3) := by decide +kernel
theorem zd_119_32 : decode prog_14_method_114_code 32 = .ok (.goto 13, 3) := by decide +kernel
theorem zd_119_35 : decode prog_14_method_114_code 35 = .ok (.aload_n 0, 1) := by decide +kernel
theorem zd_119_36 : decode prog_14_method_114_code 36 = .ok (.invokevirtual 1222, 3) := by decide +kernel
theorem zd_119_39 : decode prog_14_method_114_code 39 = .ok (.invokestatic 1201, 3) := by decide +kernel
theorem zd_119_42 : decode prog_14_method_114_code 42 = .ok (.ifCond .eq 87, 3) := by decide +kernel
theorem zd_119_45 : decode prog_14_method_114_code 45 = .ok (.aload_n 0, 1) := by decide +kernel
theorem zd_119_46 : decode prog_14_method_114_code 46 = .ok (.getfield 1219, 3) := by decide +kernel
theorem zd_119_49 : decode prog_14_method_114_code 49 = .ok (.iload_n 1, 1) := by decide +kernel
theorem zd_119_50 : decode prog_14_method_114_code 50 = .ok (.isub, 1) := by decide +kernel
theorem zd_119_51 : decode prog_14_method_114_code 51 = .ok (.istore 6, 2) := by decide +kernel
theorem zd_119_53 : decode prog_14_method_114_code 53 = .ok (.iload 6, 2) := by decide +kernel
theorem zd_119_55 : decode prog_14_method_114_code 55 = .ok (.bipush 8, 2) := by decide +kernel
theorem zd_119_57 : decode prog_14_method_114_code 57 = .ok (.if_icmp .ge 19, 3) := by decide +kernel
theorem zd_119_60 : decode prog_14_method_114_code 60 = .ok (.lload_n 2, 1) := by decide +kernel
theorem zd_119_61 : decode prog_14_method_114_code 61 = .ok (.aload_n 0, 1) := by decide +kernel
theorem zd_119_62 : decode prog_14_method_114_code 62 = .ok (.invokevirtual 1222, 3) := by decide +kernel
theorem zd_119_65 : decode prog_14_method_114_code 65 = .ok (.i2l, 1) := by decide +kernel
theorem zd_119_66 : decode prog_14_method_114_code 66 = .ok (.bipush 8, 2) := by decide +kernel
theorem zd_119_68 : decode prog_14_method_114_code 68 = .ok (.iload 6, 2) := by decide +kernel
theorem zd_119_70 : decode prog_14_method_114_code 70 = .ok (.imul, 1) := by decide +kernel
theorem zd_119_71 : decode prog_14_method_114_code 71 = .ok (.lshl, 1) := by decide +kernel
theorem zd_119_72 : decode prog_14_method_114_code 72 = .ok (.lor, 1) := by decide +kernel
theorem zd_119_73 : decode prog_14_method_114_code 73 = .ok (.goto 4, 3) := by decide +kernel
theorem zd_119_77 : decode prog_14_method_114_code 77 = .ok (.lstore_n 2, 1) := by decide +kernel
theorem zd_119_78 : decode prog_14_method_114_code 78 = .ok (.iload 6, 2) := by decide +kernel
theorem zd_119_80 : decode prog_14_method_114_code 80 = .ok (.bipush 8, 2) := by decide +kernel
theorem zd_119_82 : decode prog_14_method_114_code 82 = .ok (.if_icmp .lt 30, 3) := by decide +kernel
theorem zd_119_112 : decode prog_14_method_114_code 112 = .ok (.lload 4, 2) := by decide +kernel
theorem zd_119_114 : decode prog_14_method_114_code 114 = .ok (.lstore 4, 2) := by decide +kernel
theorem zd_119_116 : decode prog_14_method_114_code 116 = .ok (.aload_n 0, 1) := by decide +kernel
theorem zd_119_117 : decode prog_14_method_114_code 117 = .ok (.dup, 1) := by decide +kernel
theorem zd_119_118 : decode prog_14_method_114_code 118 = .ok (.getfield 1219, 3) := by decide +kernel
theorem zd_119_121 : decode prog_14_method_114_code 121 = .ok (.iconst 1, 1) := by decide +kernel
theorem zd_119_122 : decode prog_14_method_114_code 122 = .ok (.iadd, 1) := by decide +kernel
theorem zd_119_123 : decode prog_14_method_114_code 123 = .ok (.putfield 1219, 3) := by decide +kernel
theorem zd_119_126 : decode prog_14_method_114_code 126 = .ok (.goto (-112), 3) := by decide +kernel
theorem zd_119_129 : decode prog_14_method_114_code 129 = .ok (.aload_n 0, 1) := by decide +kernel
theorem zd_119_130 : decode prog_14_method_114_code 130 = .ok (.getfield 1219, 3) := by decide +kernel
theorem zd_119_133 : decode prog_14_method_114_code 133 = .ok (.iload_n 1, 1) := by decide +kernel
theorem zd_119_134 : decode prog_14_method_114_code 134 = .ok (.if_icmp .eq 14, 3) := by decide +kernel
theorem zd_119_137 : decode prog_14_method_114_code 137 = .ok (.aload_n 0, 1) := by decide +kernel
theorem zd_119_138 : decode prog_14_method_114_code 138 = .ok (.getfield 1219, 3) := by decide +kernel
theorem zd_119_141 : decode prog_14_method_114_code 141 = .ok (.iload_n 1, 1) := by decide +kernel
theorem zd_119_142 : decode prog_14_method_114_code 142 = .ok (.isub, 1) := by decide +kernel
theorem zd_119_143 : decode prog_14_method_114_code 143 = .ok (.bipush 16, 2) := by decide +kernel
theorem zd_119_145 : decode prog_14_method_114_code 145 = .ok (.if_icmp .le 10, 3) := by decide +kernel
theorem zd_119_155 : decode prog_14_method_114_code 155 = .ok (.aload_n 0, 1) := by decide +kernel
theorem zd_119_156 : decode prog_14_method_114_code 156 = .ok (.lload_n 2, 1) := by decide +kernel
theorem zd_119_157 : decode prog_14_method_114_code 157 = .ok (.lload 4, 2) := by decide +kernel
theorem zd_119_159 : decode prog_14_method_114_code 159 = .ok (.invokevirtual 536, 3) := by decide +kernel
theorem zd_120_0 : decode prog_14_method_112_code 0 = .ok (.aload_n 0, 1) := by decide +kernel
theorem zd_120_1 : decode prog_14_method_112_code 1 = .ok (.invokevirtual 1225, 3) := by decide +kernel
theorem zd_120_4 : decode prog_14_method_112_code 4 = .ok (.aload_n 0, 1) := by decide +kernel
theorem zd_120_5 : decode prog_14_method_112_code 5 = .ok (.invokevirtual 1222, 3) := by decide +kernel
theorem zd_120_8 : decode prog_14_method_112_code 8 = .ok (.iload_n 1, 1) := by decide +kernel
theorem zd_120_9 : decode prog_14_method_112_code 9 = .ok (.if_icmp .ne 7, 3) := by decide +kernel
theorem zd_120_12 : decode prog_14_method_112_code 12 = .ok (.iconst 1, 1) := by decide +kernel
theorem zd_120_13 : decode prog_14_method_112_code 13 = .ok (.goto 4, 3) := by decide +kernel
theorem zd_120_16 : decode prog_14_method_112_code 16 = .ok (.iconst 0, 1) := by decide +kernel
theorem zd_121_0 : decode prog_14_method_171_code 0 = .ok (.aload_n 0, 1) := by decide +kernel
theorem zd_121_1 : decode prog_14_method_171_code 1 = .ok (.iload_n 1, 1) := by decide +kernel
theorem zd_121_2 : decode prog_14_method_171_code 2 = .ok (.invokevirtual 1456, 3) := by decide +kernel
theorem zd_121_5 : decode prog_14_method_171_code 5 = .ok (.istore_n 3, 1) := by decide +kernel
theorem zd_121_6 : decode prog_14_method_171_code 6 = .ok (.iload_n 3, 1) := by decide +kernel
theorem zd_121_7 : decode prog_14_method_171_code 7 = .ok (.ifCond .lt 9, 3) := by decide +kernel
theorem zd_121_16 : decode prog_14_method_171_code 16 = .ok (.iload_n 1, 1) := by decide +kernel
theorem zd_121_17 : decode prog_14_method_171_code 17 = .ok (.bipush 8, 2) := by decide +kernel
theorem zd_121_19 : decode prog_14_method_171_code 19 = .ok (.isub, 1) := by decide +kernel
theorem zd_121_20 : decode prog_14_method_171_code 20 = .ok (.istore 4, 2) := by decide +kernel
theorem zd_121_22 : decode prog_14_method_171_code 22 = .ok (.iload 4, 2) := by decide +kernel
theorem zd_121_24 : decode prog_14_method_171_code 24 = .ok (.iconst 0, 1) := by decide +kernel
theorem zd_121_25 : decode prog_14_method_171_code 25 = .ok (.bipush 84, 2) := by decide +kernel
theorem zd_121_27 : decode prog_14_method_171_code 27 = .ok (.invokestatic 504, 3) := by decide +kernel
theorem zd_121_30 : decode prog_14_method_171_code 30 = .ok (.ifCond .eq 14, 3) := by decide +kernel
theorem zd_121_33 : decode prog_14_method_171_code 33 = .ok (.iload_n 2, 1) := by decide +kernel
theorem zd_121_34 : decode prog_14_method_171_code 34 = .ok (.ifCond .eq 16, 3) := by decide +kernel
theorem zd_121_37 : decode prog_14_method_171_code 37 = .ok (.iload 4, 2) := by decide +kernel
theorem zd_121_39 : decode prog_14_method_171_code 39 = .ok (.bipush 77, 2) := by decide +kernel
theorem zd_121_41 : decode prog_14_method_171_code 41 = .ok (.if_icmp .lt 9, 3) := by decide +kernel
theorem zd_121_50 : decode prog_14_method_171_code 50 = .ok (.iload 4, 2) := by decide +kernel
theorem zd_121_52 : decode prog_14_method_171_code 52 = .ok (.bipush 64, 2) := by decide +kernel
theorem zd_121_54 : decode prog_14_method_171_code 54 = .ok (.if_icmp .ge 12, 3) := by decide +kernel
theorem zd_121_57 : decode prog_14_method_171_code 57 = .ok (.aload_n 0, 1) := by decide +kernel
theorem zd_121_58 : decode prog_14_method_171_code 58 = .ok (.iload 4, 2) := by decide +kernel
theorem zd_121_60 : decode prog_14_method_171_code 60 = .ok (.invokevirtual 1477, 3) := by decide +kernel
theorem zd_121_63 : decode prog_14_method_171_code 63 = .ok (.goto 9, 3) := by decide +kernel
theorem zd_121_66 : decode prog_14_method_171_code 66 = .ok (.aload_n 0, 1) := by decide +kernel
theorem zd_121_67 : decode prog_14_method_171_code 67 = .ok (.iload 4, 2) := by decide +kernel
theorem zd_121_69 : decode prog_14_method_171_code 69 = .ok (.invokevirtual 1480, 3) := by decide +kernel
theorem zd_122_0 : decode prog_14_method_131_code 0 = .ok (.aload_n 0, 1) := by decide +kernel
theorem zd_122_1 : decode prog_14_method_131_code 1 = .ok (.iload_n 1, 1) := by decide +kernel
theorem zd_122_2 : decode prog_14_method_131_code 2 = .ok (.invokevirtual 1299, 3) := by decide +kernel
theorem zd_122_5 : decode prog_14_method_131_code 5 = .ok (.ifCond .ge 11, 3) := by decide +kernel
theorem zd_122_8 : decode prog_14_method_131_code 8 = .ok (.aload_n 0, 1) := by decide +kernel
theorem zd_122_9 : decode prog_14_method_131_code 9 = .ok (.iload_n 1, 1) := by decide +kernel
theorem zd_122_10 : decode prog_14_method_131_code 10 = .ok (.invokevirtual 1257, 3) := by decide +kernel
theorem zd_122_13 : decode prog_14_method_131_code 13 = .ok (.ifCond .lt 9, 3) := by decide +kernel
theorem zd_122_22 : decode prog_14_method_131_code 22 = .ok (.aload_n 0, 1) := by decide +kernel
theorem zd_122_23 : decode prog_14_method_131_code 23 = .ok (.getfield 72, 3) := by decide +kernel
theorem zd_122_26 : decode prog_14_method_131_code 26 = .ok (.aload_n 0, 1) := by decide +kernel
theorem zd_122_27 : decode prog_14_method_131_code 27 = .ok (.getfield 1174, 3) := by decide +kernel
theorem zd_122_30 : decode prog_14_method_131_code 30 = .ok (.iaload, 1) := by decide +kernel
theorem zd_122_31 : decode prog_14_method_131_code 31 = .ok (.sipush 600, 3) := by decide +kernel
theorem zd_122_34 : decode prog_14_method_131_code 34 = .ok (.if_icmp .ne 10, 3) := by decide +kernel
theorem zd_122_44 : decode prog_14_method_131_code 44 = .ok (.sipush 600, 3) := by decide +kernel
theorem zd_122_47 : decode prog_14_method_131_code 47 = .ok (.aload_n 0, 1) := by decide +kernel
theorem zd_122_48 : decode prog_14_method_131_code 48 = .ok (.getfield 1174, 3) := by decide +kernel
theorem zd_122_51 : decode prog_14_method_131_code 51 = .ok (.imul, 1) := by decide +kernel
theorem zd_122_52 : decode prog_14_method_131_code 52 = .ok (.aload_n 0, 1) := by decide +kernel
theorem zd_122_53 : decode prog_14_method_131_code 53 = .ok (.getfield 72, 3) := by decide +kernel
theorem zd_122_56 : decode prog_14_method_131_code 56 = .ok (.aload_n 0, 1) := by decide +kernel
theorem zd_122_57 : decode prog_14_method_131_code 57 = .ok (.getfield 1174, 3) := by decide +kernel
theorem zd_122_60 : decode prog_14_method_131_code 60 = .ok (.iaload, 1) := by decide +kernel
theorem zd_122_61 : decode prog_14_method_131_code 61 = .ok (.iadd, 1) := by decide +kernel
theorem zd_122_62 : decode prog_14_method_131_code 62 = .ok (.istore_n 2, 1) := by decide +kernel
theorem zd_122_63 : decode prog_14_method_131_code 63 = .ok (.aload_n 0, 1) := by decide +kernel
theorem zd_122_64 : decode prog_14_method_131_code 64 = .ok (.getfield 75, 3) := by decide +kernel
theorem zd_122_67 : decode prog_14_method_131_code 67 = .ok (.iload_n 2, 1) := by decide +kernel
theorem zd_122_68 : decode prog_14_method_131_code 68 = .ok (.iload_n 1, 1) := by decide +kernel
theorem zd_122_69 : decode prog_14_method_131_code 69 = .ok (.iastore, 1) := by decide +kernel
theorem zd_122_70 : decode prog_14_method_131_code 70 = .ok (.aload_n 0, 1) := by decide +kernel
theorem zd_122_71 : decode prog_14_method_131_code 71 = .ok (.getfield 78, 3) := by decide +kernel
theorem zd_122_74 : decode prog_14_method_131_code 74 = .ok (.iload_n 2, 1) := by decide +kernel
theorem zd_122_75 : decode prog_14_method_131_code 75 = .ok (.aload_n 0, 1) := by decide +kernel
theorem zd_122_76 : decode prog_14_method_131_code 76 = .ok (.getfield 1272, 3) := by decide +kernel
theorem zd_122_79 : decode prog_14_method_131_code 79 = .ok (.iastore, 1) := by decide +kernel
theorem zd_122_80 : decode prog_14_method_131_code 80 = .ok (.aload_n 0, 1) := by decide +kernel
theorem zd_122_81 : decode prog_14_method_131_code 81 = .ok (.getfield 81, 3) := by decide +kernel
theorem zd_122_84 : decode prog_14_method_131_code 84 = .ok (.iload_n 2, 1) := by decide +kernel
theorem zd_122_85 : decode prog_14_method_131_code 85 = .ok (.aload_n 0, 1) := by decide +kernel
theorem zd_122_86 : decode prog_14_method_131_code 86 = .ok (.invokevirtual 1290, 3) := by decide +kernel
theorem zd_122_89 : decode prog_14_method_131_code 89 = .ok (.iastore, 1) := by decide +kernel
theorem zd_122_90 : decode prog_14_method_131_code 90 = .ok (.aload_n 0, 1) := by decide +kernel
theorem zd_122_91 : decode prog_14_method_131_code 91 = .ok (.getfield 84, 3) := by decide +kernel
theorem zd_122_94 : decode prog_14_method_131_code 94 = .ok (.iload_n 2, 1) := by decide +kernel
theorem zd_122_95 : decode prog_14_method_131_code 95 = .ok (.aload_n 0, 1) := by decide +kernel
theorem zd_122_96 : decode prog_14_method_131_code 96 = .ok (.getfield 1177, 3) := by decide +kernel
theorem zd_122_99 : decode prog_14_method_131_code 99 = .ok (.iastore, 1) := by decide +kernel
theorem zd_122_100 : decode prog_14_method_131_code 100 = .ok (.aload_n 0, 1) := by decide +kernel
theorem zd_122_101 : decode prog_14_method_131_code 101 = .ok (.getfield 72, 3) := by decide +kernel
theorem zd_122_104 : decode prog_14_method_131_code 104 = .ok (.aload_n 0, 1) := by decide +kernel
theorem zd_122_105 : decode prog_14_method_131_code 105 = .ok (.getfield 1174, 3) := by decide +kernel
theorem zd_122_108 : decode prog_14_method_131_code 108 = .ok (.dup2, 1) := by decide +kernel
theorem zd_122_109 : decode prog_14_method_131_code 109 = .ok (.iaload, 1) := by decide +kernel
theorem zd_122_110 : decode prog_14_method_131_code 110 = .ok (.iconst 1, 1) := by decide +kernel
theorem zd_122_111 : decode prog_14_method_131_code 111 = .ok (.iadd, 1) := by decide +kernel
theorem zd_122_112 : decode prog_14_method_131_code 112 = .ok (.iastore, 1) := by decide +kernel
theorem zd_122_113 : decode prog_14_method_131_code 113 = .ok (.aload_n 0, 1) := by decide +kernel
theorem zd_122_114 : decode prog_14_method_131_code 114 = .ok (.getfield 383, 3) := by decide +kernel
theorem zd_122_117 : decode prog_14_method_131_code 117 = .ok (.aload_n 0, 1) := by decide +kernel
theorem zd_122_118 : decode prog_14_method_131_code 118 = .ok (.getfield 1272, 3) := by decide +kernel
theorem zd_122_121 : decode prog_14_method_131_code 121 = .ok (.aload_n 0, 1) := by decide +kernel
theorem zd_122_122 : decode prog_14_method_131_code 122 = .ok (.invokevirtual 1290, 3) := by decide +kernel
theorem zd_122_125 : decode prog_14_method_131_code 125 = .ok (.iastore, 1) := by decide +kernel
theorem zd_123_0 : decode prog_14_method_130_code 0 = .ok (.iconst (-1), 1) := by decide +kernel
theorem zd_123_1 : decode prog_14_method_130_code 1 = .ok (.istore_n 2, 1) := by decide +kernel
theorem zd_123_2 : decode prog_14_method_130_code 2 = .ok (.iconst 0, 1) := by decide +kernel
theorem zd_123_3 : decode prog_14_method_130_code 3 = .ok (.istore_n 3, 1) := by decide +kernel
theorem zd_123_4 : decode prog_14_method_130_code 4 = .ok (.iload_n 3, 1) := by decide +kernel
theorem zd_123_5 : decode prog_14_method_130_code 5 = .ok (.aload_n 0, 1) := by decide +kernel
theorem zd_123_6 : decode prog_14_method_130_code 6 = .ok (.getfield 72, 3) := by decide +kernel
theorem zd_123_9 : decode prog_14_method_130_code 9 = .ok (.aload_n 0, 1) := by decide +kernel
theorem zd_123_10 : decode prog_14_method_130_code 10 = .ok (.getfield 1174, 3) := by decide +kernel
theorem zd_123_13 : decode prog_14_method_130_code 13 = .ok (.iaload, 1) := by decide +kernel
theorem zd_123_14 : decode prog_14_method_130_code 14 = .ok (.if_icmp .ge 34, 3) := by decide +kernel
theorem zd_123_17 : decode prog_14_method_130_code 17 = .ok (.aload_n 0, 1) := by decide +kernel
theorem zd_123_18 : decode prog_14_method_130_code 18 = .ok (.getfield 75, 3) := by decide +kernel
theorem zd_123_21 : decode prog_14_method_130_code 21 = .ok (.sipush 600, 3) := by decide +kernel
theorem zd_123_24 : decode prog_14_method_130_code 24 = .ok (.aload_n 0, 1) := by decide +kernel
theorem zd_123_25 : decode prog_14_method_130_code 25 = .ok (.getfield 1174, 3) := by decide +kernel
theorem zd_123_28 : decode prog_14_method_130_code 28 = .ok (.imul, 1) := by decide +kernel
theorem zd_123_29 : decode prog_14_method_130_code 29 = .ok (.iload_n 3, 1) := by decide +kernel
theorem zd_123_30 : decode prog_14_method_130_code 30 = .ok (.iadd, 1) := by decide +kernel
theorem zd_123_31 : decode prog_14_method_130_code 31 = .ok (.iaload, 1) := by decide +kernel
theorem zd_123_32 : decode prog_14_method_130_code 32 = .ok (.iload_n 1, 1) := by decide +kernel
theorem zd_123_33 : decode prog_14_method_130_code 33 = .ok (.if_icmp .ne 7, 3) := by decide +kernel
theorem zd_123_40 : decode prog_14_method_130_code 40 = .ok (.iload_n 2, 1) := by decide +kernel
theorem zd_123_41 : decode prog_14_method_130_code 41 = .ok (.istore_n 2, 1) := by decide +kernel
theorem zd_123_42 : decode prog_14_method_130_code 42 = .ok (.iinc 3 1, 3) := by decide +kernel
theorem zd_123_45 : decode prog_14_method_130_code 45 = .ok (.goto (-41), 3) := by decide +kernel
theorem zd_123_48 : decode prog_14_method_130_code 48 = .ok (.iload_n 2, 1) := by decide +kernel
theorem zd_124_0 : decode prog_26_method_80_code 0 = .ok (.aload_n 0, 1) := by decide +kernel
theorem zd_124_1 : decode prog_26_method_80_code 1 = .ok (.invokevirtual 492, 3) := by decide +kernel
theorem zd_124_4 : decode prog_26_method_80_code 4 = .ok (.ifCond .eq 19, 3) := by decide +kernel
theorem zd_124_7 : decode prog_26_method_80_code 7 = .ok (.aload_n 0, 1) := by decide +kernel
theorem zd_124_8 : decode prog_26_method_80_code 8 = .ok (.getfield 9, 3) := by decide +kernel
theorem zd_124_11 : decode prog_26_method_80_code 11 = .ok (.iload_n 1, 1) := by decide +kernel
theorem zd_124_12 : decode prog_26_method_80_code 12 = .ok (.iload_n 2, 1) := by decide +kernel
theorem zd_124_13 : decode prog_26_method_80_code 13 = .ok (.aload_n 0, 1) := by decide +kernel
theorem zd_124_14 : decode prog_26_method_80_code 14 = .ok (.invokevirtual 505, 3) := by decide +kernel
theorem zd_124_17 : decode prog_26_method_80_code 17 = .ok (.invokestatic 637, 3) := by decide +kernel
theorem zd_124_20 : decode prog_26_method_80_code 20 = .ok (.goto 16, 3) := by decide +kernel
theorem zd_125_0 : decode prog_1_method_30_code 0 = .ok (.iload_n 0, 1) := by decide +kernel
theorem zd_125_1 : decode prog_1_method_30_code 1 = .ok (.bipush 97, 2) := by decide +kernel
theorem zd_125_3 : decode prog_1_method_30_code 3 = .ok (.if_icmp .lt 13, 3) := by decide +kernel
theorem zd_125_6 : decode prog_1_method_30_code 6 = .ok (.iload_n 0, 1) := by decide +kernel
theorem zd_125_7 : decode prog_1_method_30_code 7 = .ok (.bipush 122, 2) := by decide +kernel
theorem zd_125_9 : decode prog_1_method_30_code 9 = .ok (.if_icmp .gt 7, 3) := by decide +kernel
theorem zd_125_12 : decode prog_1_method_30_code 12 = .ok (.iconst 1, 1) := by decide +kernel
theorem zd_125_13 : decode prog_1_method_30_code 13 = .ok (.goto 4, 3) := by decide +kernel
theorem zd_125_16 : decode prog_1_method_30_code 16 = .ok (.iconst 0, 1) := by decide +kernel
theorem zd_126_0 : decode prog_11_method_20_code 0 = .ok (.aload_n 0, 1) := by decide +kernel
theorem zd_126_1 : decode prog_11_method_20_code 1 = .ok (.iconst 0, 1) := by decide +kernel
theorem zd_126_2 : decode prog_11_method_20_code 2 = .ok (.putfield 109, 3) := by decide +kernel
theorem zd_126_5 : decode prog_11_method_20_code 5 = .ok (.aload_n 0, 1) := by decide +kernel
theorem zd_126_6 : decode prog_11_method_20_code 6 = .ok (.iconst (-1), 1) := by decide +kernel
theorem zd_126_7 : decode prog_11_method_20_code 7 = .ok (.putfield 112, 3) := by decide +kernel
theorem zd_126_10 : decode prog_11_method_20_code 10 = .ok (.aload_n 0, 1) := by decide +kernel
theorem zd_126_11 : decode prog_11_method_20_code 11 = .ok (.getfield 9, 3) := by decide +kernel
theorem zd_126_14 : decode prog_11_method_20_code 14 = .ok (.aload_n 0, 1) := by decide +kernel
theorem zd_126_15 : decode prog_11_method_20_code 15 = .ok (.getfield 49, 3) := by decide +kernel
theorem zd_126_18 : decode prog_11_method_20_code 18 = .ok (.iaload, 1) := by decide +kernel
theorem zd_126_19 : decode prog_11_method_20_code 19 = .ok (.bipush 45, 2) := by decide +kernel
theorem zd_126_21 : decode prog_11_method_20_code 21 = .ok (.if_icmp .ne 7, 3) := by decide +kernel
theorem zd_126_28 : decode prog_11_method_20_code 28 = .ok (.iconst 0, 1) := by decide +kernel
theorem zd_126_29 : decode prog_11_method_20_code 29 = .ok (.istore_n 1, 1) := by decide +kernel
theorem zd_126_30 : decode prog_11_method_20_code 30 = .ok (.aload_n 0, 1) := by decide +kernel
theorem zd_126_31 : decode prog_11_method_20_code 31 = .ok (.dup, 1) := by decide +kernel
