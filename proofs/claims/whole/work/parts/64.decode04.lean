/-! decode rows, by program -/
theorem zd_86_28 : decode prog_14_method_107_code 28 = .ok (.if_icmp .ge 106, 3) := by decide +kernel
theorem zd_86_31 : decode prog_14_method_107_code 31 = .ok (.aload_n 0, 1) := by decide +kernel
theorem zd_86_32 : decode prog_14_method_107_code 32 = .ok (.getfield 1183, 3) := by decide +kernel
theorem zd_86_35 : decode prog_14_method_107_code 35 = .ok (.ifCond .ne 99, 3) := by decide +kernel
theorem zd_86_38 : decode prog_14_method_107_code 38 = .ok (.aload_n 0, 1) := by decide +kernel
theorem zd_86_39 : decode prog_14_method_107_code 39 = .ok (.iload 4, 2) := by decide +kernel
theorem zd_86_41 : decode prog_14_method_107_code 41 = .ok (.invokevirtual 1195, 3) := by decide +kernel
theorem zd_86_44 : decode prog_14_method_107_code 44 = .ok (.istore 5, 2) := by decide +kernel
theorem zd_86_46 : decode prog_14_method_107_code 46 = .ok (.iload 5, 2) := by decide +kernel
theorem zd_86_48 : decode prog_14_method_107_code 48 = .ok (.bipush 92, 2) := by decide +kernel
theorem zd_86_50 : decode prog_14_method_107_code 50 = .ok (.if_icmp .ne 7, 3) := by decide +kernel
theorem zd_86_57 : decode prog_14_method_107_code 57 = .ok (.aload_n 0, 1) := by decide +kernel
theorem zd_86_58 : decode prog_14_method_107_code 58 = .ok (.iload 5, 2) := by decide +kernel
theorem zd_86_60 : decode prog_14_method_107_code 60 = .ok (.invokevirtual 1207, 3) := by decide +kernel
theorem zd_86_63 : decode prog_14_method_107_code 63 = .ok (.iinc 4 1, 3) := by decide +kernel
theorem zd_86_66 : decode prog_14_method_107_code 66 = .ok (.goto 65, 3) := by decide +kernel
theorem zd_86_131 : decode prog_14_method_107_code 131 = .ok (.goto (-111), 3) := by decide +kernel
theorem zd_86_134 : decode prog_14_method_107_code 134 = .ok (.iload_n 3, 1) := by decide +kernel
theorem zd_86_135 : decode prog_14_method_107_code 135 = .ok (.ifCond .lt 19, 3) := by decide +kernel
theorem zd_87_0 : decode prog_14_method_172_code 0 = .ok (.aload_n 0, 1) := by decide +kernel
theorem zd_87_1 : decode prog_14_method_172_code 1 = .ok (.iconst 0, 1) := by decide +kernel
theorem zd_87_2 : decode prog_14_method_172_code 2 = .ok (.putfield 1219, 3) := by decide +kernel
theorem zd_87_5 : decode prog_14_method_172_code 5 = .ok (.aload_n 0, 1) := by decide +kernel
theorem zd_87_6 : decode prog_14_method_172_code 6 = .ok (.iconst 1, 1) := by decide +kernel
theorem zd_87_7 : decode prog_14_method_172_code 7 = .ok (.putfield 1228, 3) := by decide +kernel
theorem zd_87_10 : decode prog_14_method_172_code 10 = .ok (.aload_n 0, 1) := by decide +kernel
theorem zd_87_11 : decode prog_14_method_172_code 11 = .ok (.iconst 0, 1) := by decide +kernel
theorem zd_87_12 : decode prog_14_method_172_code 12 = .ok (.putfield 1260, 3) := by decide +kernel
theorem zd_87_15 : decode prog_14_method_172_code 15 = .ok (.iconst 0, 1) := by decide +kernel
theorem zd_87_16 : decode prog_14_method_172_code 16 = .ok (.istore_n 1, 1) := by decide +kernel
theorem zd_87_17 : decode prog_14_method_172_code 17 = .ok (.aload_n 0, 1) := by decide +kernel
theorem zd_87_18 : decode prog_14_method_172_code 18 = .ok (.getfield 1183, 3) := by decide +kernel
theorem zd_87_21 : decode prog_14_method_172_code 21 = .ok (.ifCond .ne 173, 3) := by decide +kernel
theorem zd_87_24 : decode prog_14_method_172_code 24 = .ok (.aload_n 0, 1) := by decide +kernel
theorem zd_87_25 : decode prog_14_method_172_code 25 = .ok (.invokevirtual 1225, 3) := by decide +kernel
theorem zd_87_28 : decode prog_14_method_172_code 28 = .ok (.aload_n 0, 1) := by decide +kernel
theorem zd_87_29 : decode prog_14_method_172_code 29 = .ok (.getfield 1219, 3) := by decide +kernel
theorem zd_87_32 : decode prog_14_method_172_code 32 = .ok (.aload_n 0, 1) := by decide +kernel
theorem zd_87_33 : decode prog_14_method_172_code 33 = .ok (.getfield 1204, 3) := by decide +kernel
theorem zd_87_36 : decode prog_14_method_172_code 36 = .ok (.if_icmp .lt 4, 3) := by decide +kernel
theorem zd_87_40 : decode prog_14_method_172_code 40 = .ok (.aload_n 0, 1) := by decide +kernel
theorem zd_87_41 : decode prog_14_method_172_code 41 = .ok (.invokevirtual 1222, 3) := by decide +kernel
theorem zd_87_44 : decode prog_14_method_172_code 44 = .ok (.invokestatic 1198, 3) := by decide +kernel
theorem zd_87_47 : decode prog_14_method_172_code 47 = .ok (.ifCond .eq 45, 3) := by decide +kernel
theorem zd_87_50 : decode prog_14_method_172_code 50 = .ok (.aload_n 0, 1) := by decide +kernel
theorem zd_87_51 : decode prog_14_method_172_code 51 = .ok (.invokevirtual 1254, 3) := by decide +kernel
theorem zd_87_54 : decode prog_14_method_172_code 54 = .ok (.istore_n 2, 1) := by decide +kernel
theorem zd_87_55 : decode prog_14_method_172_code 55 = .ok (.aload_n 0, 1) := by decide +kernel
theorem zd_87_56 : decode prog_14_method_172_code 56 = .ok (.getfield 1228, 3) := by decide +kernel
theorem zd_87_59 : decode prog_14_method_172_code 59 = .ok (.ifCond .ne 9, 3) := by decide +kernel
theorem zd_87_68 : decode prog_14_method_172_code 68 = .ok (.aload_n 0, 1) := by decide +kernel
theorem zd_87_69 : decode prog_14_method_172_code 69 = .ok (.bipush 58, 2) := by decide +kernel
theorem zd_87_71 : decode prog_14_method_172_code 71 = .ok (.invokevirtual 1330, 3) := by decide +kernel
theorem zd_87_74 : decode prog_14_method_172_code 74 = .ok (.ifCond .ne 10, 3) := by decide +kernel
theorem zd_87_77 : decode prog_14_method_172_code 77 = .ok (.aload_n 0, 1) := by decide +kernel
theorem zd_87_78 : decode prog_14_method_172_code 78 = .ok (.iload_n 2, 1) := by decide +kernel
theorem zd_87_79 : decode prog_14_method_172_code 79 = .ok (.iload_n 1, 1) := by decide +kernel
theorem zd_87_80 : decode prog_14_method_172_code 80 = .ok (.invokevirtual 1483, 3) := by decide +kernel
theorem zd_87_84 : decode prog_14_method_172_code 84 = .ok (.aload_n 0, 1) := by decide +kernel
theorem zd_87_85 : decode prog_14_method_172_code 85 = .ok (.iload_n 2, 1) := by decide +kernel
theorem zd_87_86 : decode prog_14_method_172_code 86 = .ok (.invokevirtual 1486, 3) := by decide +kernel
theorem zd_87_89 : decode prog_14_method_172_code 89 = .ok (.goto 90, 3) := by decide +kernel
theorem zd_87_179 : decode prog_14_method_172_code 179 = .ok (.aload_n 0, 1) := by decide +kernel
theorem zd_87_180 : decode prog_14_method_172_code 180 = .ok (.dup, 1) := by decide +kernel
theorem zd_87_181 : decode prog_14_method_172_code 181 = .ok (.getfield 1219, 3) := by decide +kernel
theorem zd_87_184 : decode prog_14_method_172_code 184 = .ok (.iconst 1, 1) := by decide +kernel
theorem zd_87_185 : decode prog_14_method_172_code 185 = .ok (.iadd, 1) := by decide +kernel
theorem zd_87_186 : decode prog_14_method_172_code 186 = .ok (.putfield 1219, 3) := by decide +kernel
theorem zd_87_189 : decode prog_14_method_172_code 189 = .ok (.iconst 1, 1) := by decide +kernel
theorem zd_87_190 : decode prog_14_method_172_code 190 = .ok (.istore_n 1, 1) := by decide +kernel
theorem zd_87_191 : decode prog_14_method_172_code 191 = .ok (.goto (-174), 3) := by decide +kernel
theorem zd_88_0 : decode prog_14_method_169_code 0 = .ok (.aload_n 0, 1) := by decide +kernel
theorem zd_88_1 : decode prog_14_method_169_code 1 = .ok (.getfield 1444, 3) := by decide +kernel
theorem zd_88_4 : decode prog_14_method_169_code 4 = .ok (.aload_n 0, 1) := by decide +kernel
theorem zd_88_5 : decode prog_14_method_169_code 5 = .ok (.getfield 322, 3) := by decide +kernel
theorem zd_88_8 : decode prog_14_method_169_code 8 = .ok (.iload_n 1, 1) := by decide +kernel
theorem zd_88_9 : decode prog_14_method_169_code 9 = .ok (.iaload, 1) := by decide +kernel
theorem zd_88_10 : decode prog_14_method_169_code 10 = .ok (.if_icmp .eq 20, 3) := by decide +kernel
theorem zd_88_30 : decode prog_14_method_169_code 30 = .ok (.aload_n 0, 1) := by decide +kernel
theorem zd_88_31 : decode prog_14_method_169_code 31 = .ok (.getfield 310, 3) := by decide +kernel
theorem zd_88_34 : decode prog_14_method_169_code 34 = .ok (.iload_n 1, 1) := by decide +kernel
theorem zd_88_35 : decode prog_14_method_169_code 35 = .ok (.dup2, 1) := by decide +kernel
theorem zd_88_36 : decode prog_14_method_169_code 36 = .ok (.iaload, 1) := by decide +kernel
theorem zd_88_37 : decode prog_14_method_169_code 37 = .ok (.iconst 1, 1) := by decide +kernel
theorem zd_88_38 : decode prog_14_method_169_code 38 = .ok (.isub, 1) := by decide +kernel
theorem zd_88_39 : decode prog_14_method_169_code 39 = .ok (.iastore, 1) := by decide +kernel
theorem zd_88_40 : decode prog_14_method_169_code 40 = .ok (.aload_n 0, 1) := by decide +kernel
theorem zd_88_41 : decode prog_14_method_169_code 41 = .ok (.getfield 307, 3) := by decide +kernel
theorem zd_88_44 : decode prog_14_method_169_code 44 = .ok (.iload_n 1, 1) := by decide +kernel
theorem zd_88_45 : decode prog_14_method_169_code 45 = .ok (.aload_n 0, 1) := by decide +kernel
theorem zd_88_46 : decode prog_14_method_169_code 46 = .ok (.getfield 301, 3) := by decide +kernel
theorem zd_88_49 : decode prog_14_method_169_code 49 = .ok (.iload_n 1, 1) := by decide +kernel
theorem zd_88_50 : decode prog_14_method_169_code 50 = .ok (.iaload, 1) := by decide +kernel
theorem zd_88_51 : decode prog_14_method_169_code 51 = .ok (.iastore, 1) := by decide +kernel
theorem zd_88_52 : decode prog_14_method_169_code 52 = .ok (.aload_n 0, 1) := by decide +kernel
theorem zd_88_53 : decode prog_14_method_169_code 53 = .ok (.getfield 310, 3) := by decide +kernel
theorem zd_88_56 : decode prog_14_method_169_code 56 = .ok (.iload_n 1, 1) := by decide +kernel
theorem zd_88_57 : decode prog_14_method_169_code 57 = .ok (.iaload, 1) := by decide +kernel
theorem zd_88_58 : decode prog_14_method_169_code 58 = .ok (.ifCond .gt 34, 3) := by decide +kernel
theorem zd_88_61 : decode prog_14_method_169_code 61 = .ok (.aload_n 0, 1) := by decide +kernel
theorem zd_88_62 : decode prog_14_method_169_code 62 = .ok (.dup, 1) := by decide +kernel
theorem zd_88_63 : decode prog_14_method_169_code 63 = .ok (.getfield 1447, 3) := by decide +kernel
theorem zd_88_66 : decode prog_14_method_169_code 66 = .ok (.iconst 1, 1) := by decide +kernel
theorem zd_88_67 : decode prog_14_method_169_code 67 = .ok (.isub, 1) := by decide +kernel
theorem zd_88_68 : decode prog_14_method_169_code 68 = .ok (.putfield 1447, 3) := by decide +kernel
theorem zd_88_71 : decode prog_14_method_169_code 71 = .ok (.aload_n 0, 1) := by decide +kernel
theorem zd_88_72 : decode prog_14_method_169_code 72 = .ok (.aload_n 0, 1) := by decide +kernel
theorem zd_88_73 : decode prog_14_method_169_code 73 = .ok (.getfield 1447, 3) := by decide +kernel
theorem zd_88_76 : decode prog_14_method_169_code 76 = .ok (.ifCond .le 12, 3) := by decide +kernel
theorem zd_88_88 : decode prog_14_method_169_code 88 = .ok (.iconst 0, 1) := by decide +kernel
theorem zd_88_89 : decode prog_14_method_169_code 89 = .ok (.putfield 1468, 3) := by decide +kernel
theorem zd_89_0 : decode prog_14_method_177_code 0 = .ok (.aload_n 0, 1) := by decide +kernel
theorem zd_89_1 : decode prog_14_method_177_code 1 = .ok (.getfield 416, 3) := by decide +kernel
theorem zd_89_4 : decode prog_14_method_177_code 4 = .ok (.iload_n 1, 1) := by decide +kernel
theorem zd_89_5 : decode prog_14_method_177_code 5 = .ok (.iaload, 1) := by decide +kernel
theorem zd_89_6 : decode prog_14_method_177_code 6 = .ok (.iconst 3, 1) := by decide +kernel
theorem zd_89_7 : decode prog_14_method_177_code 7 = .ok (.if_icmp .ne 15, 3) := by decide +kernel
theorem zd_89_22 : decode prog_14_method_177_code 22 = .ok (.iconst (-1), 1) := by decide +kernel
theorem zd_89_23 : decode prog_14_method_177_code 23 = .ok (.istore_n 2, 1) := by decide +kernel
theorem zd_89_24 : decode prog_14_method_177_code 24 = .ok (.aload_n 0, 1) := by decide +kernel
theorem zd_89_25 : decode prog_14_method_177_code 25 = .ok (.getfield 425, 3) := by decide +kernel
theorem zd_89_28 : decode prog_14_method_177_code 28 = .ok (.iload_n 1, 1) := by decide +kernel
theorem zd_89_29 : decode prog_14_method_177_code 29 = .ok (.iaload, 1) := by decide +kernel
theorem zd_89_30 : decode prog_14_method_177_code 30 = .ok (.istore_n 3, 1) := by decide +kernel
theorem zd_89_31 : decode prog_14_method_177_code 31 = .ok (.aload_n 0, 1) := by decide +kernel
theorem zd_89_32 : decode prog_14_method_177_code 32 = .ok (.getfield 422, 3) := by decide +kernel
theorem zd_89_35 : decode prog_14_method_177_code 35 = .ok (.iload_n 1, 1) := by decide +kernel
theorem zd_89_36 : decode prog_14_method_177_code 36 = .ok (.iaload, 1) := by decide +kernel
theorem zd_89_37 : decode prog_14_method_177_code 37 = .ok (.istore 4, 2) := by decide +kernel
theorem zd_89_39 : decode prog_14_method_177_code 39 = .ok (.aload_n 0, 1) := by decide +kernel
theorem zd_89_40 : decode prog_14_method_177_code 40 = .ok (.getfield 416, 3) := by decide +kernel
theorem zd_89_43 : decode prog_14_method_177_code 43 = .ok (.iload_n 1, 1) := by decide +kernel
theorem zd_89_44 : decode prog_14_method_177_code 44 = .ok (.iaload, 1) := by decide +kernel
theorem zd_89_45 : decode prog_14_method_177_code 45 = .ok (.iconst 1, 1) := by decide +kernel
theorem zd_89_46 : decode prog_14_method_177_code 46 = .ok (.if_icmp .ne 86, 3) := by decide +kernel
theorem zd_89_49 : decode prog_14_method_177_code 49 = .ok (.aload_n 0, 1) := by decide +kernel
theorem zd_89_50 : decode prog_14_method_177_code 50 = .ok (.aload_n 0, 1) := by decide +kernel
theorem zd_89_51 : decode prog_14_method_177_code 51 = .ok (.getfield 419, 3) := by decide +kernel
theorem zd_89_54 : decode prog_14_method_177_code 54 = .ok (.iload_n 1, 1) := by decide +kernel
theorem zd_89_55 : decode prog_14_method_177_code 55 = .ok (.iaload, 1) := by decide +kernel
theorem zd_89_56 : decode prog_14_method_177_code 56 = .ok (.invokevirtual 1299, 3) := by decide +kernel
theorem zd_89_59 : decode prog_14_method_177_code 59 = .ok (.istore 5, 2) := by decide +kernel
theorem zd_89_61 : decode prog_14_method_177_code 61 = .ok (.iload 5, 2) := by decide +kernel
theorem zd_89_63 : decode prog_14_method_177_code 63 = .ok (.ifCond .ge 12, 3) := by decide +kernel
theorem zd_89_66 : decode prog_14_method_177_code 66 = .ok (.aload_n 0, 1) := by decide +kernel
theorem zd_89_67 : decode prog_14_method_177_code 67 = .ok (.getfield 419, 3) := by decide +kernel
theorem zd_89_70 : decode prog_14_method_177_code 70 = .ok (.iload_n 1, 1) := by decide +kernel
theorem zd_89_71 : decode prog_14_method_177_code 71 = .ok (.iaload, 1) := by decide +kernel
theorem zd_89_72 : decode prog_14_method_177_code 72 = .ok (.goto 4, 3) := by decide +kernel
theorem zd_89_76 : decode prog_14_method_177_code 76 = .ok (.istore_n 2, 1) := by decide +kernel
theorem zd_89_77 : decode prog_14_method_177_code 77 = .ok (.iload 5, 2) := by decide +kernel
theorem zd_89_79 : decode prog_14_method_177_code 79 = .ok (.ifCond .ge 7, 3) := by decide +kernel
theorem zd_89_82 : decode prog_14_method_177_code 82 = .ok (.iconst (-1), 1) := by decide +kernel
theorem zd_89_83 : decode prog_14_method_177_code 83 = .ok (.goto 19, 3) := by decide +kernel
theorem zd_89_102 : decode prog_14_method_177_code 102 = .ok (.istore 4, 2) := by decide +kernel
theorem zd_89_104 : decode prog_14_method_177_code 104 = .ok (.iload 5, 2) := by decide +kernel
theorem zd_89_106 : decode prog_14_method_177_code 106 = .ok (.ifCond .ge 7, 3) := by decide +kernel
theorem zd_89_109 : decode prog_14_method_177_code 109 = .ok (.iload_n 3, 1) := by decide +kernel
theorem zd_89_110 : decode prog_14_method_177_code 110 = .ok (.goto 21, 3) := by decide +kernel
theorem zd_89_131 : decode prog_14_method_177_code 131 = .ok (.istore_n 3, 1) := by decide +kernel
theorem zd_89_132 : decode prog_14_method_177_code 132 = .ok (.aload_n 0, 1) := by decide +kernel
theorem zd_89_133 : decode prog_14_method_177_code 133 = .ok (.getfield 413, 3) := by decide +kernel
theorem zd_89_136 : decode prog_14_method_177_code 136 = .ok (.iload_n 1, 1) := by decide +kernel
theorem zd_89_137 : decode prog_14_method_177_code 137 = .ok (.iaload, 1) := by decide +kernel
theorem zd_89_138 : decode prog_14_method_177_code 138 = .ok (.iconst 4, 1) := by decide +kernel
theorem zd_89_139 : decode prog_14_method_177_code 139 = .ok (.if_icmp .ne 115, 3) := by decide +kernel
theorem zd_89_254 : decode prog_14_method_177_code 254 = .ok (.sipush 3000, 3) := by decide +kernel
theorem zd_89_257 : decode prog_14_method_177_code 257 = .ok (.aload_n 0, 1) := by decide +kernel
theorem zd_89_258 : decode prog_14_method_177_code 258 = .ok (.getfield 1174, 3) := by decide +kernel
theorem zd_89_261 : decode prog_14_method_177_code 261 = .ok (.imul, 1) := by decide +kernel
theorem zd_89_262 : decode prog_14_method_177_code 262 = .ok (.aload_n 0, 1) := by decide +kernel
theorem zd_89_263 : decode prog_14_method_177_code 263 = .ok (.getfield 93, 3) := by decide +kernel
theorem zd_89_266 : decode prog_14_method_177_code 266 = .ok (.aload_n 0, 1) := by decide +kernel
theorem zd_89_267 : decode prog_14_method_177_code 267 = .ok (.getfield 1174, 3) := by decide +kernel
theorem zd_89_270 : decode prog_14_method_177_code 270 = .ok (.iaload, 1) := by decide +kernel
theorem zd_89_271 : decode prog_14_method_177_code 271 = .ok (.iadd, 1) := by decide +kernel
theorem zd_89_272 : decode prog_14_method_177_code 272 = .ok (.istore 5, 2) := by decide +kernel
theorem zd_89_274 : decode prog_14_method_177_code 274 = .ok (.aload_n 0, 1) := by decide +kernel
theorem zd_89_275 : decode prog_14_method_177_code 275 = .ok (.getfield 96, 3) := by decide +kernel
theorem zd_89_278 : decode prog_14_method_177_code 278 = .ok (.iload 5, 2) := by decide +kernel
theorem zd_89_280 : decode prog_14_method_177_code 280 = .ok (.aload_n 0, 1) := by decide +kernel
theorem zd_89_281 : decode prog_14_method_177_code 281 = .ok (.getfield 407, 3) := by decide +kernel
theorem zd_89_284 : decode prog_14_method_177_code 284 = .ok (.iload_n 1, 1) := by decide +kernel
theorem zd_89_285 : decode prog_14_method_177_code 285 = .ok (.iaload, 1) := by decide +kernel
theorem zd_89_286 : decode prog_14_method_177_code 286 = .ok (.iastore, 1) := by decide +kernel
theorem zd_89_287 : decode prog_14_method_177_code 287 = .ok (.aload_n 0, 1) := by decide +kernel
theorem zd_89_288 : decode prog_14_method_177_code 288 = .ok (.getfield 99, 3) := by decide +kernel
theorem zd_89_291 : decode prog_14_method_177_code 291 = .ok (.iload 5, 2) := by decide +kernel
theorem zd_89_293 : decode prog_14_method_177_code 293 = .ok (.aload_n 0, 1) := by decide +kernel
theorem zd_89_294 : decode prog_14_method_177_code 294 = .ok (.getfield 410, 3) := by decide +kernel
theorem zd_89_297 : decode prog_14_method_177_code 297 = .ok (.iload_n 1, 1) := by decide +kernel
theorem zd_89_298 : decode prog_14_method_177_code 298 = .ok (.iaload, 1) := by decide +kernel
theorem zd_89_299 : decode prog_14_method_177_code 299 = .ok (.iastore, 1) := by decide +kernel
theorem zd_89_300 : decode prog_14_method_177_code 300 = .ok (.aload_n 0, 1) := by decide +kernel
theorem zd_89_301 : decode prog_14_method_177_code 301 = .ok (.getfield 102, 3) := by decide +kernel
theorem zd_89_304 : decode prog_14_method_177_code 304 = .ok (.iload 5, 2) := by decide +kernel
theorem zd_89_306 : decode prog_14_method_177_code 306 = .ok (.aload_n 0, 1) := by decide +kernel
theorem zd_89_307 : decode prog_14_method_177_code 307 = .ok (.getfield 413, 3) := by decide +kernel
theorem zd_89_310 : decode prog_14_method_177_code 310 = .ok (.iload_n 1, 1) := by decide +kernel
theorem zd_89_311 : decode prog_14_method_177_code 311 = .ok (.iaload, 1) := by decide +kernel
theorem zd_89_312 : decode prog_14_method_177_code 312 = .ok (.iastore, 1) := by decide +kernel
theorem zd_89_313 : decode prog_14_method_177_code 313 = .ok (.aload_n 0, 1) := by decide +kernel
theorem zd_89_314 : decode prog_14_method_177_code 314 = .ok (.getfield 105, 3) := by decide +kernel
theorem zd_89_317 : decode prog_14_method_177_code 317 = .ok (.iload 5, 2) := by decide +kernel
theorem zd_89_319 : decode prog_14_method_177_code 319 = .ok (.iload 4, 2) := by decide +kernel
theorem zd_89_321 : decode prog_14_method_177_code 321 = .ok (.iastore, 1) := by decide +kernel
theorem zd_89_322 : decode prog_14_method_177_code 322 = .ok (.aload_n 0, 1) := by decide +kernel
theorem zd_89_323 : decode prog_14_method_177_code 323 = .ok (.getfield 108, 3) := by decide +kernel
theorem zd_89_326 : decode prog_14_method_177_code 326 = .ok (.iload 5, 2) := by decide +kernel
theorem zd_89_328 : decode prog_14_method_177_code 328 = .ok (.iload_n 3, 1) := by decide +kernel
theorem zd_89_329 : decode prog_14_method_177_code 329 = .ok (.iastore, 1) := by decide +kernel
theorem zd_89_330 : decode prog_14_method_177_code 330 = .ok (.aload_n 0, 1) := by decide +kernel
theorem zd_89_331 : decode prog_14_method_177_code 331 = .ok (.getfield 111, 3) := by decide +kernel
theorem zd_89_334 : decode prog_14_method_177_code 334 = .ok (.iload 5, 2) := by decide +kernel
theorem zd_89_336 : decode prog_14_method_177_code 336 = .ok (.iload_n 2, 1) := by decide +kernel
theorem zd_89_337 : decode prog_14_method_177_code 337 = .ok (.iastore, 1) := by decide +kernel
theorem zd_89_338 : decode prog_14_method_177_code 338 = .ok (.aload_n 0, 1) := by decide +kernel
theorem zd_89_339 : decode prog_14_method_177_code 339 = .ok (.getfield 114, 3) := by decide +kernel
theorem zd_89_342 : decode prog_14_method_177_code 342 = .ok (.iload 5, 2) := by decide +kernel
theorem zd_89_344 : decode prog_14_method_177_code 344 = .ok (.aload_n 0, 1) := by decide +kernel
theorem zd_89_345 : decode prog_14_method_177_code 345 = .ok (.getfield 428, 3) := by decide +kernel
theorem zd_89_348 : decode prog_14_method_177_code 348 = .ok (.iload_n 1, 1) := by decide +kernel
theorem zd_89_349 : decode prog_14_method_177_code 349 = .ok (.iaload, 1) := by decide +kernel
theorem zd_89_350 : decode prog_14_method_177_code 350 = .ok (.iastore, 1) := by decide +kernel
theorem zd_89_351 : decode prog_14_method_177_code 351 = .ok (.aload_n 0, 1) := by decide +kernel
theorem zd_89_352 : decode prog_14_method_177_code 352 = .ok (.getfield 93, 3) := by decide +kernel
theorem zd_89_355 : decode prog_14_method_177_code 355 = .ok (.aload_n 0, 1) := by decide +kernel
theorem zd_89_356 : decode prog_14_method_177_code 356 = .ok (.getfield 1174, 3) := by decide +kernel
theorem zd_89_359 : decode prog_14_method_177_code 359 = .ok (.dup2, 1) := by decide +kernel
theorem zd_89_360 : decode prog_14_method_177_code 360 = .ok (.iaload, 1) := by decide +kernel
theorem zd_89_361 : decode prog_14_method_177_code 361 = .ok (.iconst 1, 1) := by decide +kernel
theorem zd_89_362 : decode prog_14_method_177_code 362 = .ok (.iadd, 1) := by decide +kernel
theorem zd_89_363 : decode prog_14_method_177_code 363 = .ok (.iastore, 1) := by decide +kernel
theorem zd_90_0 : decode prog_14_method_151_code 0 = .ok (.iconst (-1), 1) := by decide +kernel
theorem zd_90_1 : decode prog_14_method_151_code 1 = .ok (.istore_n 2, 1) := by decide +kernel
theorem zd_90_2 : decode prog_14_method_151_code 2 = .ok (.iconst 0, 1) := by decide +kernel
theorem zd_90_3 : decode prog_14_method_151_code 3 = .ok (.istore_n 3, 1) := by decide +kernel
theorem zd_90_4 : decode prog_14_method_151_code 4 = .ok (.iload_n 3, 1) := by decide +kernel
theorem zd_90_5 : decode prog_14_method_151_code 5 = .ok (.aload_n 0, 1) := by decide +kernel
theorem zd_90_6 : decode prog_14_method_151_code 6 = .ok (.getfield 1389, 3) := by decide +kernel
theorem zd_90_9 : decode prog_14_method_151_code 9 = .ok (.if_icmp .ge 25, 3) := by decide +kernel
theorem zd_90_34 : decode prog_14_method_151_code 34 = .ok (.iload_n 2, 1) := by decide +kernel
theorem zd_91_0 : decode prog_14_method_152_code 0 = .ok (.iconst 0, 1) := by decide +kernel
theorem zd_91_1 : decode prog_14_method_152_code 1 = .ok (.istore_n 2, 1) := by decide +kernel
theorem zd_91_2 : decode prog_14_method_152_code 2 = .ok (.iconst 0, 1) := by decide +kernel
theorem zd_91_3 : decode prog_14_method_152_code 3 = .ok (.istore_n 3, 1) := by decide +kernel
theorem zd_91_4 : decode prog_14_method_152_code 4 = .ok (.iload_n 3, 1) := by decide +kernel
theorem zd_91_5 : decode prog_14_method_152_code 5 = .ok (.aload_n 0, 1) := by decide +kernel
theorem zd_91_6 : decode prog_14_method_152_code 6 = .ok (.getfield 1392, 3) := by decide +kernel
theorem zd_91_9 : decode prog_14_method_152_code 9 = .ok (.if_icmp .ge 29, 3) := by decide +kernel
theorem zd_91_12 : decode prog_14_method_152_code 12 = .ok (.iload_n 2, 1) := by decide +kernel
theorem zd_91_13 : decode prog_14_method_152_code 13 = .ok (.ifCond .ne 13, 3) := by decide +kernel
theorem zd_91_16 : decode prog_14_method_152_code 16 = .ok (.aload_n 0, 1) := by decide +kernel
theorem zd_91_17 : decode prog_14_method_152_code 17 = .ok (.getfield 368, 3) := by decide +kernel
theorem zd_91_20 : decode prog_14_method_152_code 20 = .ok (.iload_n 3, 1) := by decide +kernel
theorem zd_91_21 : decode prog_14_method_152_code 21 = .ok (.iaload, 1) := by decide +kernel
theorem zd_91_22 : decode prog_14_method_152_code 22 = .ok (.iload_n 1, 1) := by decide +kernel
theorem zd_91_23 : decode prog_14_method_152_code 23 = .ok (.if_icmp .ne 7, 3) := by decide +kernel
theorem zd_91_26 : decode prog_14_method_152_code 26 = .ok (.iconst 1, 1) := by decide +kernel
theorem zd_91_27 : decode prog_14_method_152_code 27 = .ok (.goto 4, 3) := by decide +kernel
theorem zd_91_30 : decode prog_14_method_152_code 30 = .ok (.iconst 0, 1) := by decide +kernel
theorem zd_91_31 : decode prog_14_method_152_code 31 = .ok (.istore_n 2, 1) := by decide +kernel
theorem zd_91_32 : decode prog_14_method_152_code 32 = .ok (.iinc 3 1, 3) := by decide +kernel
theorem zd_91_35 : decode prog_14_method_152_code 35 = .ok (.goto (-31), 3) := by decide +kernel
theorem zd_91_38 : decode prog_14_method_152_code 38 = .ok (.iload_n 2, 1) := by decide +kernel
theorem zd_92_0 : decode prog_1_method_31_code 0 = .ok (.iload_n 0, 1) := by decide +kernel
theorem zd_92_1 : decode prog_1_method_31_code 1 = .ok (.bipush 48, 2) := by decide +kernel
theorem zd_92_3 : decode prog_1_method_31_code 3 = .ok (.if_icmp .lt 13, 3) := by decide +kernel
theorem zd_92_6 : decode prog_1_method_31_code 6 = .ok (.iload_n 0, 1) := by decide +kernel
theorem zd_92_7 : decode prog_1_method_31_code 7 = .ok (.bipush 57, 2) := by decide +kernel
theorem zd_92_9 : decode prog_1_method_31_code 9 = .ok (.if_icmp .gt 7, 3) := by decide +kernel
theorem zd_92_12 : decode prog_1_method_31_code 12 = .ok (.iconst 1, 1) := by decide +kernel
theorem zd_92_13 : decode prog_1_method_31_code 13 = .ok (.goto 4, 3) := by decide +kernel
theorem zd_92_16 : decode prog_1_method_31_code 16 = .ok (.iconst 0, 1) := by decide +kernel
theorem zd_93_0 : decode prog_1_method_32_code 0 = .ok (.iload_n 0, 1) := by decide +kernel
theorem zd_93_1 : decode prog_1_method_32_code 1 = .ok (.bipush 97, 2) := by decide +kernel
theorem zd_93_3 : decode prog_1_method_32_code 3 = .ok (.if_icmp .lt 9, 3) := by decide +kernel
theorem zd_93_6 : decode prog_1_method_32_code 6 = .ok (.iload_n 0, 1) := by decide +kernel
theorem zd_93_7 : decode prog_1_method_32_code 7 = .ok (.bipush 122, 2) := by decide +kernel
theorem zd_93_9 : decode prog_1_method_32_code 9 = .ok (.if_icmp .le 27, 3) := by decide +kernel
theorem zd_93_12 : decode prog_1_method_32_code 12 = .ok (.iload_n 0, 1) := by decide +kernel
theorem zd_93_13 : decode prog_1_method_32_code 13 = .ok (.bipush 48, 2) := by decide +kernel
theorem zd_93_15 : decode prog_1_method_32_code 15 = .ok (.if_icmp .lt 9, 3) := by decide +kernel
theorem zd_93_18 : decode prog_1_method_32_code 18 = .ok (.iload_n 0, 1) := by decide +kernel
theorem zd_93_19 : decode prog_1_method_32_code 19 = .ok (.bipush 57, 2) := by decide +kernel
theorem zd_93_21 : decode prog_1_method_32_code 21 = .ok (.if_icmp .le 15, 3) := by decide +kernel
theorem zd_93_24 : decode prog_1_method_32_code 24 = .ok (.iload_n 0, 1) := by decide +kernel
theorem zd_93_25 : decode prog_1_method_32_code 25 = .ok (.bipush 95, 2) := by decide +kernel
theorem zd_93_27 : decode prog_1_method_32_code 27 = .ok (.if_icmp .eq 9, 3) := by decide +kernel
theorem zd_93_30 : decode prog_1_method_32_code 30 = .ok (.iload_n 0, 1) := by decide +kernel
theorem zd_93_31 : decode prog_1_method_32_code 31 = .ok (.bipush 46, 2) := by decide +kernel
theorem zd_93_33 : decode prog_1_method_32_code 33 = .ok (.if_icmp .ne 7, 3) := by decide +kernel
theorem zd_93_36 : decode prog_1_method_32_code 36 = .ok (.iconst 1, 1) := by decide +kernel
theorem zd_93_37 : decode prog_1_method_32_code 37 = .ok (.goto 4, 3) := by decide +kernel
theorem zd_93_40 : decode prog_1_method_32_code 40 = .ok (.iconst 0, 1) := by decide +kernel
theorem zd_94_0 : decode prog_11_method_4_code 0 = .ok (.iload_n 1, 1) := by decide +kernel
theorem zd_94_1 : decode prog_11_method_4_code 1 = .ok (.istore_n 2, 1) := by decide +kernel
theorem zd_94_2 : decode prog_11_method_4_code 2 = .ok (.iload_n 2, 1) := by decide +kernel
theorem zd_94_3 : decode prog_11_method_4_code 3 = .ok (.aload_n 0, 1) := by decide +kernel
theorem zd_94_4 : decode prog_11_method_4_code 4 = .ok (.getfield 42, 3) := by decide +kernel
theorem zd_94_7 : decode prog_11_method_4_code 7 = .ok (.if_icmp .ge 21, 3) := by decide +kernel
theorem zd_94_10 : decode prog_11_method_4_code 10 = .ok (.aload_n 0, 1) := by decide +kernel
theorem zd_94_11 : decode prog_11_method_4_code 11 = .ok (.getfield 32, 3) := by decide +kernel
theorem zd_94_14 : decode prog_11_method_4_code 14 = .ok (.iload_n 2, 1) := by decide +kernel
theorem zd_94_15 : decode prog_11_method_4_code 15 = .ok (.baload, 1) := by decide +kernel
theorem zd_94_16 : decode prog_11_method_4_code 16 = .ok (.invokestatic 62, 3) := by decide +kernel
theorem zd_94_19 : decode prog_11_method_4_code 19 = .ok (.ifCond .eq 9, 3) := by decide +kernel
theorem zd_94_22 : decode prog_11_method_4_code 22 = .ok (.iinc 2 1, 3) := by decide +kernel
theorem zd_94_25 : decode prog_11_method_4_code 25 = .ok (.goto (-23), 3) := by decide +kernel
theorem zd_94_28 : decode prog_11_method_4_code 28 = .ok (.iload_n 2, 1) := by decide +kernel
theorem zd_95_0 : decode prog_9_method_6_code 0 = .ok (.lconst 0, 1) := by decide +kernel
theorem zd_95_1 : decode prog_9_method_6_code 1 = .ok (.lstore_n 3, 1) := by decide +kernel
theorem zd_95_2 : decode prog_9_method_6_code 2 = .ok (.iconst 0, 1) := by decide +kernel
theorem zd_95_3 : decode prog_9_method_6_code 3 = .ok (.istore 5, 2) := by decide +kernel
theorem zd_95_5 : decode prog_9_method_6_code 5 = .ok (.iload 5, 2) := by decide +kernel
theorem zd_95_7 : decode prog_9_method_6_code 7 = .ok (.bipush 8, 2) := by decide +kernel
theorem zd_95_9 : decode prog_9_method_6_code 9 = .ok (.if_icmp .ge 42, 3) := by decide +kernel
theorem zd_95_12 : decode prog_9_method_6_code 12 = .ok (.iload_n 1, 1) := by decide +kernel
theorem zd_95_13 : decode prog_9_method_6_code 13 = .ok (.iload 5, 2) := by decide +kernel
theorem zd_95_15 : decode prog_9_method_6_code 15 = .ok (.iadd, 1) := by decide +kernel
theorem zd_95_16 : decode prog_9_method_6_code 16 = .ok (.iload_n 2, 1) := by decide +kernel
theorem zd_95_17 : decode prog_9_method_6_code 17 = .ok (.if_icmp .ge 34, 3) := by decide +kernel
theorem zd_95_20 : decode prog_9_method_6_code 20 = .ok (.iload_n 1, 1) := by decide +kernel
theorem zd_95_21 : decode prog_9_method_6_code 21 = .ok (.iload 5, 2) := by decide +kernel
theorem zd_95_23 : decode prog_9_method_6_code 23 = .ok (.iadd, 1) := by decide +kernel
theorem zd_95_24 : decode prog_9_method_6_code 24 = .ok (.aload_n 0, 1) := by decide +kernel
theorem zd_95_25 : decode prog_9_method_6_code 25 = .ok (.arraylength, 1) := by decide +kernel
theorem zd_95_26 : decode prog_9_method_6_code 26 = .ok (.if_icmp .ge 25, 3) := by decide +kernel
theorem zd_95_29 : decode prog_9_method_6_code 29 = .ok (.lload_n 3, 1) := by decide +kernel
theorem zd_95_30 : decode prog_9_method_6_code 30 = .ok (.aload_n 0, 1) := by decide +kernel
theorem zd_95_31 : decode prog_9_method_6_code 31 = .ok (.iload_n 1, 1) := by decide +kernel
theorem zd_95_32 : decode prog_9_method_6_code 32 = .ok (.iload 5, 2) := by decide +kernel
theorem zd_95_34 : decode prog_9_method_6_code 34 = .ok (.iadd, 1) := by decide +kernel
theorem zd_95_35 : decode prog_9_method_6_code 35 = .ok (.baload, 1) := by decide +kernel
theorem zd_95_36 : decode prog_9_method_6_code 36 = .ok (.i2l, 1) := by decide +kernel
theorem zd_95_37 : decode prog_9_method_6_code 37 = .ok (.bipush 8, 2) := by decide +kernel
theorem zd_95_39 : decode prog_9_method_6_code 39 = .ok (.iload 5, 2) := by decide +kernel
theorem zd_95_41 : decode prog_9_method_6_code 41 = .ok (.imul, 1) := by decide +kernel
theorem zd_95_42 : decode prog_9_method_6_code 42 = .ok (.lshl, 1) := by decide +kernel
theorem zd_95_43 : decode prog_9_method_6_code 43 = .ok (.lor, 1) := by decide +kernel
theorem zd_95_44 : decode prog_9_method_6_code 44 = .ok (.lstore_n 3, 1) := by decide +kernel
theorem zd_95_45 : decode prog_9_method_6_code 45 = .ok (.iinc 5 1, 3) := by decide +kernel
theorem zd_95_48 : decode prog_9_method_6_code 48 = .ok (.goto (-43), 3) := by decide +kernel
theorem zd_95_51 : decode prog_9_method_6_code 51 = .ok (.lload_n 3, 1) := by decide +kernel
theorem zd_96_0 : decode prog_26_method_79_code 0 = .ok (.aload_n 0, 1) := by decide +kernel
theorem zd_96_1 : decode prog_26_method_79_code 1 = .ok (.iload_n 1, 1) := by decide +kernel
theorem zd_96_2 : decode prog_26_method_79_code 2 = .ok (.iconst 0, 1) := by decide +kernel
theorem zd_96_3 : decode prog_26_method_79_code 3 = .ok (.invokevirtual 633, 3) := by decide +kernel
theorem zd_97_0 : decode prog_11_method_6_code 0 = .ok (.iload_n 2, 1) := by decide +kernel
theorem zd_97_1 : decode prog_11_method_6_code 1 = .ok (.iconst 1, 1) := by decide +kernel
theorem zd_97_2 : decode prog_11_method_6_code 2 = .ok (.iadd, 1) := by decide +kernel
theorem zd_97_3 : decode prog_11_method_6_code 3 = .ok (.istore_n 3, 1) := by decide +kernel
theorem zd_97_4 : decode prog_11_method_6_code 4 = .ok (.iload_n 3, 1) := by decide +kernel
theorem zd_97_5 : decode prog_11_method_6_code 5 = .ok (.aload_n 0, 1) := by decide +kernel
theorem zd_97_6 : decode prog_11_method_6_code 6 = .ok (.getfield 42, 3) := by decide +kernel
theorem zd_97_9 : decode prog_11_method_6_code 9 = .ok (.if_icmp .ge 33, 3) := by decide +kernel
theorem zd_97_12 : decode prog_11_method_6_code 12 = .ok (.aload_n 0, 1) := by decide +kernel
theorem zd_97_13 : decode prog_11_method_6_code 13 = .ok (.getfield 32, 3) := by decide +kernel
theorem zd_97_16 : decode prog_11_method_6_code 16 = .ok (.iload_n 3, 1) := by decide +kernel
theorem zd_97_17 : decode prog_11_method_6_code 17 = .ok (.baload, 1) := by decide +kernel
theorem zd_97_18 : decode prog_11_method_6_code 18 = .ok (.invokestatic 99, 3) := by decide +kernel
theorem zd_97_21 : decode prog_11_method_6_code 21 = .ok (.ifCond .ne 15, 3) := by decide +kernel
theorem zd_97_24 : decode prog_11_method_6_code 24 = .ok (.aload_n 0, 1) := by decide +kernel
theorem zd_97_25 : decode prog_11_method_6_code 25 = .ok (.getfield 32, 3) := by decide +kernel
theorem zd_97_28 : decode prog_11_method_6_code 28 = .ok (.iload_n 3, 1) := by decide +kernel
theorem zd_97_29 : decode prog_11_method_6_code 29 = .ok (.baload, 1) := by decide +kernel
theorem zd_97_30 : decode prog_11_method_6_code 30 = .ok (.invokestatic 55, 3) := by decide +kernel
theorem zd_97_33 : decode prog_11_method_6_code 33 = .ok (.ifCond .eq 9, 3) := by decide +kernel
theorem zd_97_36 : decode prog_11_method_6_code 36 = .ok (.iinc 3 1, 3) := by decide +kernel
theorem zd_97_39 : decode prog_11_method_6_code 39 = .ok (.goto (-35), 3) := by decide +kernel
theorem zd_97_42 : decode prog_11_method_6_code 42 = .ok (.iload_n 3, 1) := by decide +kernel
theorem zd_97_43 : decode prog_11_method_6_code 43 = .ok (.iload_n 2, 1) := by decide +kernel
theorem zd_97_44 : decode prog_11_method_6_code 44 = .ok (.isub, 1) := by decide +kernel
theorem zd_97_45 : decode prog_11_method_6_code 45 = .ok (.iconst 5, 1) := by decide +kernel
theorem zd_97_46 : decode prog_11_method_6_code 46 = .ok (.if_icmp .le 7, 3) := by decide +kernel
theorem zd_97_53 : decode prog_11_method_6_code 53 = .ok (.aload_n 0, 1) := by decide +kernel
theorem zd_97_54 : decode prog_11_method_6_code 54 = .ok (.getfield 28, 3) := by decide +kernel
theorem zd_97_57 : decode prog_11_method_6_code 57 = .ok (.aload_n 0, 1) := by decide +kernel
theorem zd_97_58 : decode prog_11_method_6_code 58 = .ok (.getfield 32, 3) := by decide +kernel
theorem zd_97_61 : decode prog_11_method_6_code 61 = .ok (.iload_n 2, 1) := by decide +kernel
theorem zd_97_62 : decode prog_11_method_6_code 62 = .ok (.iload_n 3, 1) := by decide +kernel
theorem zd_97_63 : decode prog_11_method_6_code 63 = .ok (.invokestatic 69, 3) := by decide +kernel
theorem zd_97_66 : decode prog_11_method_6_code 66 = .ok (.lconst 0, 1) := by decide +kernel
theorem zd_97_67 : decode prog_11_method_6_code 67 = .ok (.invokevirtual 75, 3) := by decide +kernel
theorem zd_97_70 : decode prog_11_method_6_code 70 = .ok (.istore 4, 2) := by decide +kernel
theorem zd_97_72 : decode prog_11_method_6_code 72 = .ok (.aload_n 0, 1) := by decide +kernel
theorem zd_97_73 : decode prog_11_method_6_code 73 = .ok (.getfield 9, 3) := by decide +kernel
theorem zd_97_76 : decode prog_11_method_6_code 76 = .ok (.iload_n 1, 1) := by decide +kernel
theorem zd_97_77 : decode prog_11_method_6_code 77 = .ok (.iload 4, 2) := by decide +kernel
theorem zd_97_79 : decode prog_11_method_6_code 79 = .ok (.bipush 93, 2) := by decide +kernel
theorem zd_97_81 : decode prog_11_method_6_code 81 = .ok (.if_icmp .lt 16, 3) := by decide +kernel
theorem zd_97_84 : decode prog_11_method_6_code 84 = .ok (.iload 4, 2) := by decide +kernel
theorem zd_97_86 : decode prog_11_method_6_code 86 = .ok (.sipush 157, 3) := by decide +kernel
theorem zd_97_89 : decode prog_11_method_6_code 89 = .ok (.if_icmp .ge 8, 3) := by decide +kernel
theorem zd_97_92 : decode prog_11_method_6_code 92 = .ok (.bipush 6, 2) := by decide +kernel
theorem zd_97_94 : decode prog_11_method_6_code 94 = .ok (.goto 4, 3) := by decide +kernel
theorem zd_97_98 : decode prog_11_method_6_code 98 = .ok (.iastore, 1) := by decide +kernel
theorem zd_97_99 : decode prog_11_method_6_code 99 = .ok (.aload_n 0, 1) := by decide +kernel
theorem zd_97_100 : decode prog_11_method_6_code 100 = .ok (.getfield 15, 3) := by decide +kernel
theorem zd_97_103 : decode prog_11_method_6_code 103 = .ok (.iload_n 1, 1) := by decide +kernel
theorem zd_97_104 : decode prog_11_method_6_code 104 = .ok (.iload 4, 2) := by decide +kernel
theorem zd_97_106 : decode prog_11_method_6_code 106 = .ok (.bipush 93, 2) := by decide +kernel
theorem zd_97_108 : decode prog_11_method_6_code 108 = .ok (.isub, 1) := by decide +kernel
theorem zd_97_109 : decode prog_11_method_6_code 109 = .ok (.bipush 31, 2) := by decide +kernel
theorem zd_97_111 : decode prog_11_method_6_code 111 = .ok (.iand, 1) := by decide +kernel
theorem zd_97_112 : decode prog_11_method_6_code 112 = .ok (.iastore, 1) := by decide +kernel
theorem zd_97_113 : decode prog_11_method_6_code 113 = .ok (.iload_n 3, 1) := by decide +kernel
theorem zd_98_0 : decode prog_11_method_5_code 0 = .ok (.aload_n 0, 1) := by decide +kernel
theorem zd_98_1 : decode prog_11_method_5_code 1 = .ok (.iload_n 2, 1) := by decide +kernel
theorem zd_98_2 : decode prog_11_method_5_code 2 = .ok (.invokevirtual 65, 3) := by decide +kernel
theorem zd_98_5 : decode prog_11_method_5_code 5 = .ok (.istore_n 3, 1) := by decide +kernel
theorem zd_98_6 : decode prog_11_method_5_code 6 = .ok (.aload_n 0, 1) := by decide +kernel
theorem zd_98_7 : decode prog_11_method_5_code 7 = .ok (.getfield 32, 3) := by decide +kernel
theorem zd_98_10 : decode prog_11_method_5_code 10 = .ok (.iload_n 3, 1) := by decide +kernel
theorem zd_98_11 : decode prog_11_method_5_code 11 = .ok (.iconst 1, 1) := by decide +kernel
theorem zd_98_12 : decode prog_11_method_5_code 12 = .ok (.isub, 1) := by decide +kernel
theorem zd_98_13 : decode prog_11_method_5_code 13 = .ok (.baload, 1) := by decide +kernel
theorem zd_98_14 : decode prog_11_method_5_code 14 = .ok (.istore 4, 2) := by decide +kernel
theorem zd_98_16 : decode prog_11_method_5_code 16 = .ok (.aload_n 0, 1) := by decide +kernel
theorem zd_98_17 : decode prog_11_method_5_code 17 = .ok (.getfield 21, 3) := by decide +kernel
theorem zd_98_20 : decode prog_11_method_5_code 20 = .ok (.iload_n 1, 1) := by decide +kernel
theorem zd_98_21 : decode prog_11_method_5_code 21 = .ok (.iload_n 3, 1) := by decide +kernel
theorem zd_98_22 : decode prog_11_method_5_code 22 = .ok (.iload_n 2, 1) := by decide +kernel
theorem zd_98_23 : decode prog_11_method_5_code 23 = .ok (.isub, 1) := by decide +kernel
theorem zd_98_24 : decode prog_11_method_5_code 24 = .ok (.i2l, 1) := by decide +kernel
theorem zd_98_25 : decode prog_11_method_5_code 25 = .ok (.lastore, 1) := by decide +kernel
theorem zd_98_26 : decode prog_11_method_5_code 26 = .ok (.iload_n 3, 1) := by decide +kernel
theorem zd_98_27 : decode prog_11_method_5_code 27 = .ok (.iload_n 2, 1) := by decide +kernel
theorem zd_98_28 : decode prog_11_method_5_code 28 = .ok (.isub, 1) := by decide +kernel
theorem zd_98_29 : decode prog_11_method_5_code 29 = .ok (.iconst 2, 1) := by decide +kernel
theorem zd_98_30 : decode prog_11_method_5_code 30 = .ok (.if_icmp .ne 52, 3) := by decide +kernel
theorem zd_98_33 : decode prog_11_method_5_code 33 = .ok (.iload 4, 2) := by decide +kernel
theorem zd_98_35 : decode prog_11_method_5_code 35 = .ok (.bipush 98, 2) := by decide +kernel
theorem zd_98_37 : decode prog_11_method_5_code 37 = .ok (.if_icmp .eq 10, 3) := by decide +kernel
theorem zd_98_40 : decode prog_11_method_5_code 40 = .ok (.iload 4, 2) := by decide +kernel
theorem zd_98_42 : decode prog_11_method_5_code 42 = .ok (.bipush 102, 2) := by decide +kernel
theorem zd_98_44 : decode prog_11_method_5_code 44 = .ok (.if_icmp .ne 38, 3) := by decide +kernel
theorem zd_98_82 : decode prog_11_method_5_code 82 = .ok (.iload_n 3, 1) := by decide +kernel
theorem zd_98_83 : decode prog_11_method_5_code 83 = .ok (.iload_n 2, 1) := by decide +kernel
theorem zd_98_84 : decode prog_11_method_5_code 84 = .ok (.isub, 1) := by decide +kernel
theorem zd_98_85 : decode prog_11_method_5_code 85 = .ok (.iconst 2, 1) := by decide +kernel
theorem zd_98_86 : decode prog_11_method_5_code 86 = .ok (.if_icmp .le 31, 3) := by decide +kernel
theorem zd_98_117 : decode prog_11_method_5_code 117 = .ok (.iconst 0, 1) := by decide +kernel
theorem zd_98_118 : decode prog_11_method_5_code 118 = .ok (.istore 5, 2) := by decide +kernel
theorem zd_98_120 : decode prog_11_method_5_code 120 = .ok (.lconst 0, 1) := by decide +kernel
theorem zd_98_121 : decode prog_11_method_5_code 121 = .ok (.lstore 6, 2) := by decide +kernel
theorem zd_98_123 : decode prog_11_method_5_code 123 = .ok (.aload_n 0, 1) := by decide +kernel
theorem zd_98_124 : decode prog_11_method_5_code 124 = .ok (.getfield 9, 3) := by decide +kernel
theorem zd_98_127 : decode prog_11_method_5_code 127 = .ok (.iload_n 1, 1) := by decide +kernel
theorem zd_98_128 : decode prog_11_method_5_code 128 = .ok (.iload_n 3, 1) := by decide +kernel
theorem zd_98_129 : decode prog_11_method_5_code 129 = .ok (.iload_n 2, 1) := by decide +kernel
theorem zd_98_130 : decode prog_11_method_5_code 130 = .ok (.isub, 1) := by decide +kernel
theorem zd_98_131 : decode prog_11_method_5_code 131 = .ok (.bipush 10, 2) := by decide +kernel
theorem zd_98_133 : decode prog_11_method_5_code 133 = .ok (.if_icmp .le 7, 3) := by decide +kernel
theorem zd_98_140 : decode prog_11_method_5_code 140 = .ok (.iconst 3, 1) := by decide +kernel
theorem zd_98_141 : decode prog_11_method_5_code 141 = .ok (.iastore, 1) := by decide +kernel
theorem zd_98_142 : decode prog_11_method_5_code 142 = .ok (.iload 5, 2) := by decide +kernel
theorem zd_98_144 : decode prog_11_method_5_code 144 = .ok (.ifCond .eq 9, 3) := by decide +kernel
theorem zd_98_153 : decode prog_11_method_5_code 153 = .ok (.iload_n 2, 1) := by decide +kernel
theorem zd_98_154 : decode prog_11_method_5_code 154 = .ok (.istore 8, 2) := by decide +kernel
theorem zd_98_156 : decode prog_11_method_5_code 156 = .ok (.iload 8, 2) := by decide +kernel
theorem zd_98_158 : decode prog_11_method_5_code 158 = .ok (.iload_n 3, 1) := by decide +kernel
theorem zd_98_159 : decode prog_11_method_5_code 159 = .ok (.if_icmp .ge 114, 3) := by decide +kernel
theorem zd_98_162 : decode prog_11_method_5_code 162 = .ok (.aload_n 0, 1) := by decide +kernel
theorem zd_98_163 : decode prog_11_method_5_code 163 = .ok (.getfield 9, 3) := by decide +kernel
theorem zd_98_166 : decode prog_11_method_5_code 166 = .ok (.iload_n 1, 1) := by decide +kernel
theorem zd_98_167 : decode prog_11_method_5_code 167 = .ok (.iaload, 1) := by decide +kernel
theorem zd_98_168 : decode prog_11_method_5_code 168 = .ok (.iconst 3, 1) := by decide +kernel
theorem zd_98_169 : decode prog_11_method_5_code 169 = .ok (.if_icmp .ne 104, 3) := by decide +kernel
theorem zd_98_172 : decode prog_11_method_5_code 172 = .ok (.aload_n 0, 1) := by decide +kernel
theorem zd_98_173 : decode prog_11_method_5_code 173 = .ok (.getfield 32, 3) := by decide +kernel
theorem zd_98_176 : decode prog_11_method_5_code 176 = .ok (.iload 8, 2) := by decide +kernel
theorem zd_98_178 : decode prog_11_method_5_code 178 = .ok (.baload, 1) := by decide +kernel
theorem zd_98_179 : decode prog_11_method_5_code 179 = .ok (.istore 9, 2) := by decide +kernel
theorem zd_98_181 : decode prog_11_method_5_code 181 = .ok (.iload 9, 2) := by decide +kernel
theorem zd_98_183 : decode prog_11_method_5_code 183 = .ok (.invokestatic 55, 3) := by decide +kernel
theorem zd_98_186 : decode prog_11_method_5_code 186 = .ok (.ifCond .eq 32, 3) := by decide +kernel
theorem zd_98_189 : decode prog_11_method_5_code 189 = .ok (.lload 6, 2) := by decide +kernel
theorem zd_98_191 : decode prog_11_method_5_code 191 = .ok (.iload 5, 2) := by decide +kernel
theorem zd_98_193 : decode prog_11_method_5_code 193 = .ok (.ifCond .eq 8, 3) := by decide +kernel
theorem zd_98_201 : decode prog_11_method_5_code 201 = .ok (.bipush 10, 2) := by decide +kernel
theorem zd_98_203 : decode prog_11_method_5_code 203 = .ok (.i2l, 1) := by decide +kernel
theorem zd_98_204 : decode prog_11_method_5_code 204 = .ok (.lmul, 1) := by decide +kernel
theorem zd_98_205 : decode prog_11_method_5_code 205 = .ok (.iload 9, 2) := by decide +kernel
theorem zd_98_207 : decode prog_11_method_5_code 207 = .ok (.i2l, 1) := by decide +kernel
theorem zd_98_208 : decode prog_11_method_5_code 208 = .ok (.ladd, 1) := by decide +kernel
theorem zd_98_209 : decode prog_11_method_5_code 209 = .ok (.ldc2_w 89, 3) := by decide +kernel
theorem zd_98_212 : decode prog_11_method_5_code 212 = .ok (.lsub, 1) := by decide +kernel
theorem zd_98_213 : decode prog_11_method_5_code 213 = .ok (.lstore 6, 2) := by decide +kernel
theorem zd_98_215 : decode prog_11_method_5_code 215 = .ok (.goto 52, 3) := by decide +kernel
theorem zd_98_267 : decode prog_11_method_5_code 267 = .ok (.iinc 8 1, 3) := by decide +kernel
theorem zd_98_270 : decode prog_11_method_5_code 270 = .ok (.goto (-114), 3) := by decide +kernel
theorem zd_98_273 : decode prog_11_method_5_code 273 = .ok (.lload 6, 2) := by decide +kernel
theorem zd_98_275 : decode prog_11_method_5_code 275 = .ok (.ldc2_w 97, 3) := by decide +kernel
theorem zd_98_278 : decode prog_11_method_5_code 278 = .ok (.lcmp, 1) := by decide +kernel
theorem zd_98_279 : decode prog_11_method_5_code 279 = .ok (.ifCond .le 10, 3) := by decide +kernel
theorem zd_98_289 : decode prog_11_method_5_code 289 = .ok (.aload_n 0, 1) := by decide +kernel
theorem zd_98_290 : decode prog_11_method_5_code 290 = .ok (.getfield 15, 3) := by decide +kernel
theorem zd_98_293 : decode prog_11_method_5_code 293 = .ok (.iload_n 1, 1) := by decide +kernel
theorem zd_98_294 : decode prog_11_method_5_code 294 = .ok (.lload 6, 2) := by decide +kernel
theorem zd_98_296 : decode prog_11_method_5_code 296 = .ok (.l2i, 1) := by decide +kernel
theorem zd_98_297 : decode prog_11_method_5_code 297 = .ok (.iastore, 1) := by decide +kernel
theorem zd_98_298 : decode prog_11_method_5_code 298 = .ok (.iload_n 3, 1) := by decide +kernel
theorem zd_99_0 : decode prog_11_method_16_code 0 = .ok (.aload_n 0, 1) := by decide +kernel
theorem zd_99_1 : decode prog_11_method_16_code 1 = .ok (.getfield 9, 3) := by decide +kernel
theorem zd_99_4 : decode prog_11_method_16_code 4 = .ok (.aload_n 0, 1) := by decide +kernel
theorem zd_99_5 : decode prog_11_method_16_code 5 = .ok (.getfield 49, 3) := by decide +kernel
theorem zd_99_8 : decode prog_11_method_16_code 8 = .ok (.iaload, 1) := by decide +kernel
theorem zd_99_9 : decode prog_11_method_16_code 9 = .ok (.iload_n 1, 1) := by decide +kernel
theorem zd_99_10 : decode prog_11_method_16_code 10 = .ok (.if_icmp .ne 16, 3) := by decide +kernel
theorem zd_99_13 : decode prog_11_method_16_code 13 = .ok (.aload_n 0, 1) := by decide +kernel
theorem zd_99_14 : decode prog_11_method_16_code 14 = .ok (.dup, 1) := by decide +kernel
theorem zd_99_15 : decode prog_11_method_16_code 15 = .ok (.getfield 49, 3) := by decide +kernel
theorem zd_99_18 : decode prog_11_method_16_code 18 = .ok (.iconst 1, 1) := by decide +kernel
theorem zd_99_19 : decode prog_11_method_16_code 19 = .ok (.iadd, 1) := by decide +kernel
theorem zd_99_20 : decode prog_11_method_16_code 20 = .ok (.putfield 49, 3) := by decide +kernel
theorem zd_99_23 : decode prog_11_method_16_code 23 = .ok (.goto 8, 3) := by decide +kernel
theorem zd_100_0 : decode prog_11_method_22_code 0 = .ok (.aload_n 0, 1) := by decide +kernel
theorem zd_100_1 : decode prog_11_method_22_code 1 = .ok (.bipush 44, 2) := by decide +kernel
theorem zd_100_3 : decode prog_11_method_22_code 3 = .ok (.invokevirtual 102, 3) := by decide +kernel
theorem zd_100_6 : decode prog_11_method_22_code 6 = .ok (.aload_n 0, 1) := by decide +kernel
theorem zd_100_7 : decode prog_11_method_22_code 7 = .ok (.iload_n 1, 1) := by decide +kernel
theorem zd_100_8 : decode prog_11_method_22_code 8 = .ok (.iload_n 2, 1) := by decide +kernel
theorem zd_100_9 : decode prog_11_method_22_code 9 = .ok (.invokevirtual 126, 3) := by decide +kernel
theorem zd_101_0 : decode prog_12_method_6_code 0 = .ok (.aload_n 0, 1) := by decide +kernel
theorem zd_101_1 : decode prog_12_method_6_code 1 = .ok (.getfield 55, 3) := by decide +kernel
theorem zd_101_4 : decode prog_12_method_6_code 4 = .ok (.iconst 2, 1) := by decide +kernel
theorem zd_101_5 : decode prog_12_method_6_code 5 = .ok (.imul, 1) := by decide +kernel
theorem zd_101_6 : decode prog_12_method_6_code 6 = .ok (.istore 7, 2) := by decide +kernel
theorem zd_101_8 : decode prog_12_method_6_code 8 = .ok (.iload 7, 2) := by decide +kernel
theorem zd_101_10 : decode prog_12_method_6_code 10 = .ok (.iconst 2, 1) := by decide +kernel
theorem zd_101_11 : decode prog_12_method_6_code 11 = .ok (.iadd, 1) := by decide +kernel
theorem zd_101_12 : decode prog_12_method_6_code 12 = .ok (.aload_n 0, 1) := by decide +kernel
theorem zd_101_13 : decode prog_12_method_6_code 13 = .ok (.getfield 32, 3) := by decide +kernel
theorem zd_101_16 : decode prog_12_method_6_code 16 = .ok (.arraylength, 1) := by decide +kernel
theorem zd_101_17 : decode prog_12_method_6_code 17 = .ok (.if_icmp .le 5, 3) := by decide +kernel
theorem zd_101_22 : decode prog_12_method_6_code 22 = .ok (.aload_n 0, 1) := by decide +kernel
theorem zd_101_23 : decode prog_12_method_6_code 23 = .ok (.getfield 29, 3) := by decide +kernel
theorem zd_101_26 : decode prog_12_method_6_code 26 = .ok (.iconst 2, 1) := by decide +kernel
theorem zd_101_27 : decode prog_12_method_6_code 27 = .ok (.aload_n 0, 1) := by decide +kernel
theorem zd_101_28 : decode prog_12_method_6_code 28 = .ok (.getfield 55, 3) := by decide +kernel
theorem zd_101_31 : decode prog_12_method_6_code 31 = .ok (.imul, 1) := by decide +kernel
theorem zd_101_32 : decode prog_12_method_6_code 32 = .ok (.lload_n 1, 1) := by decide +kernel
theorem zd_101_33 : decode prog_12_method_6_code 33 = .ok (.lastore, 1) := by decide +kernel
theorem zd_101_34 : decode prog_12_method_6_code 34 = .ok (.aload_n 0, 1) := by decide +kernel
theorem zd_101_35 : decode prog_12_method_6_code 35 = .ok (.getfield 29, 3) := by decide +kernel
theorem zd_101_38 : decode prog_12_method_6_code 38 = .ok (.iconst 2, 1) := by decide +kernel
theorem zd_101_39 : decode prog_12_method_6_code 39 = .ok (.aload_n 0, 1) := by decide +kernel
theorem zd_101_40 : decode prog_12_method_6_code 40 = .ok (.getfield 55, 3) := by decide +kernel
theorem zd_101_43 : decode prog_12_method_6_code 43 = .ok (.imul, 1) := by decide +kernel
theorem zd_101_44 : decode prog_12_method_6_code 44 = .ok (.iconst 1, 1) := by decide +kernel
theorem zd_101_45 : decode prog_12_method_6_code 45 = .ok (.iadd, 1) := by decide +kernel
theorem zd_101_46 : decode prog_12_method_6_code 46 = .ok (.lload_n 3, 1) := by decide +kernel
theorem zd_101_47 : decode prog_12_method_6_code 47 = .ok (.lastore, 1) := by decide +kernel
theorem zd_101_48 : decode prog_12_method_6_code 48 = .ok (.aload_n 0, 1) := by decide +kernel
theorem zd_101_49 : decode prog_12_method_6_code 49 = .ok (.getfield 32, 3) := by decide +kernel
theorem zd_101_52 : decode prog_12_method_6_code 52 = .ok (.iload 7, 2) := by decide +kernel
theorem zd_101_54 : decode prog_12_method_6_code 54 = .ok (.iconst 0, 1) := by decide +kernel
theorem zd_101_55 : decode prog_12_method_6_code 55 = .ok (.iadd, 1) := by decide +kernel
theorem zd_101_56 : decode prog_12_method_6_code 56 = .ok (.iload 5, 2) := by decide +kernel
theorem zd_101_58 : decode prog_12_method_6_code 58 = .ok (.iastore, 1) := by decide +kernel
theorem zd_101_59 : decode prog_12_method_6_code 59 = .ok (.aload_n 0, 1) := by decide +kernel
theorem zd_101_60 : decode prog_12_method_6_code 60 = .ok (.getfield 32, 3) := by decide +kernel
theorem zd_101_63 : decode prog_12_method_6_code 63 = .ok (.iload 7, 2) := by decide +kernel
theorem zd_101_65 : decode prog_12_method_6_code 65 = .ok (.iconst 1, 1) := by decide +kernel
theorem zd_101_66 : decode prog_12_method_6_code 66 = .ok (.iadd, 1) := by decide +kernel
theorem zd_101_67 : decode prog_12_method_6_code 67 = .ok (.iload 6, 2) := by decide +kernel
theorem zd_101_69 : decode prog_12_method_6_code 69 = .ok (.iastore, 1) := by decide +kernel
theorem zd_101_70 : decode prog_12_method_6_code 70 = .ok (.aload_n 0, 1) := by decide +kernel
theorem zd_101_71 : decode prog_12_method_6_code 71 = .ok (.dup, 1) := by decide +kernel
theorem zd_101_72 : decode prog_12_method_6_code 72 = .ok (.getfield 55, 3) := by decide +kernel
theorem zd_101_75 : decode prog_12_method_6_code 75 = .ok (.iconst 1, 1) := by decide +kernel
theorem zd_101_76 : decode prog_12_method_6_code 76 = .ok (.iadd, 1) := by decide +kernel
theorem zd_101_77 : decode prog_12_method_6_code 77 = .ok (.putfield 55, 3) := by decide +kernel
theorem zd_101_80 : decode prog_12_method_6_code 80 = .ok (.iconst 1, 1) := by decide +kernel
theorem zd_102_0 : decode prog_12_method_5_code 0 = .ok (.aload_n 0, 1) := by decide +kernel
theorem zd_102_1 : decode prog_12_method_5_code 1 = .ok (.getfield 52, 3) := by decide +kernel
theorem zd_102_4 : decode prog_12_method_5_code 4 = .ok (.iconst 5, 1) := by decide +kernel
theorem zd_102_5 : decode prog_12_method_5_code 5 = .ok (.imul, 1) := by decide +kernel
theorem zd_102_6 : decode prog_12_method_5_code 6 = .ok (.istore 7, 2) := by decide +kernel
theorem zd_102_8 : decode prog_12_method_5_code 8 = .ok (.iload 7, 2) := by decide +kernel
theorem zd_102_10 : decode prog_12_method_5_code 10 = .ok (.iconst 5, 1) := by decide +kernel
theorem zd_102_11 : decode prog_12_method_5_code 11 = .ok (.iadd, 1) := by decide +kernel
theorem zd_102_12 : decode prog_12_method_5_code 12 = .ok (.aload_n 0, 1) := by decide +kernel
theorem zd_102_13 : decode prog_12_method_5_code 13 = .ok (.getfield 26, 3) := by decide +kernel
theorem zd_102_16 : decode prog_12_method_5_code 16 = .ok (.arraylength, 1) := by decide +kernel
theorem zd_102_17 : decode prog_12_method_5_code 17 = .ok (.if_icmp .le 5, 3) := by decide +kernel
theorem zd_102_22 : decode prog_12_method_5_code 22 = .ok (.aload_n 0, 1) := by decide +kernel
theorem zd_102_23 : decode prog_12_method_5_code 23 = .ok (.getfield 23, 3) := by decide +kernel
theorem zd_102_26 : decode prog_12_method_5_code 26 = .ok (.iconst 2, 1) := by decide +kernel
theorem zd_102_27 : decode prog_12_method_5_code 27 = .ok (.aload_n 0, 1) := by decide +kernel
theorem zd_102_28 : decode prog_12_method_5_code 28 = .ok (.getfield 52, 3) := by decide +kernel
theorem zd_102_31 : decode prog_12_method_5_code 31 = .ok (.imul, 1) := by decide +kernel
theorem zd_102_32 : decode prog_12_method_5_code 32 = .ok (.lload_n 1, 1) := by decide +kernel
theorem zd_102_33 : decode prog_12_method_5_code 33 = .ok (.lastore, 1) := by decide +kernel
theorem zd_102_34 : decode prog_12_method_5_code 34 = .ok (.aload_n 0, 1) := by decide +kernel
theorem zd_102_35 : decode prog_12_method_5_code 35 = .ok (.getfield 23, 3) := by decide +kernel
theorem zd_102_38 : decode prog_12_method_5_code 38 = .ok (.iconst 2, 1) := by decide +kernel
theorem zd_102_39 : decode prog_12_method_5_code 39 = .ok (.aload_n 0, 1) := by decide +kernel
theorem zd_102_40 : decode prog_12_method_5_code 40 = .ok (.getfield 52, 3) := by decide +kernel
theorem zd_102_43 : decode prog_12_method_5_code 43 = .ok (.imul, 1) := by decide +kernel
theorem zd_102_44 : decode prog_12_method_5_code 44 = .ok (.iconst 1, 1) := by decide +kernel
theorem zd_102_45 : decode prog_12_method_5_code 45 = .ok (.iadd, 1) := by decide +kernel
theorem zd_102_46 : decode prog_12_method_5_code 46 = .ok (.lload_n 3, 1) := by decide +kernel
theorem zd_102_47 : decode prog_12_method_5_code 47 = .ok (.lastore, 1) := by decide +kernel
theorem zd_102_48 : decode prog_12_method_5_code 48 = .ok (.aload_n 0, 1) := by decide +kernel
theorem zd_102_49 : decode prog_12_method_5_code 49 = .ok (.getfield 26, 3) := by decide +kernel
theorem zd_102_52 : decode prog_12_method_5_code 52 = .ok (.iload 7, 2) := by decide +kernel
theorem zd_102_54 : decode prog_12_method_5_code 54 = .ok (.iconst 0, 1) := by decide +kernel
theorem zd_102_55 : decode prog_12_method_5_code 55 = .ok (.iadd, 1) := by decide +kernel
theorem zd_102_56 : decode prog_12_method_5_code 56 = .ok (.iload 5, 2) := by decide +kernel
theorem zd_102_58 : decode prog_12_method_5_code 58 = .ok (.iastore, 1) := by decide +kernel
theorem zd_102_59 : decode prog_12_method_5_code 59 = .ok (.aload_n 0, 1) := by decide +kernel
theorem zd_102_60 : decode prog_12_method_5_code 60 = .ok (.getfield 26, 3) := by decide +kernel
theorem zd_102_63 : decode prog_12_method_5_code 63 = .ok (.iload 7, 2) := by decide +kernel
theorem zd_102_65 : decode prog_12_method_5_code 65 = .ok (.iconst 1, 1) := by decide +kernel
theorem zd_102_66 : decode prog_12_method_5_code 66 = .ok (.iadd, 1) := by decide +kernel
theorem zd_102_67 : decode prog_12_method_5_code 67 = .ok (.aload_n 0, 1) := by decide +kernel
theorem zd_102_68 : decode prog_12_method_5_code 68 = .ok (.iload 5, 2) := by decide +kernel
theorem zd_102_70 : decode prog_12_method_5_code 70 = .ok (.invokevirtual 61, 3) := by decide +kernel
theorem zd_102_73 : decode prog_12_method_5_code 73 = .ok (.iastore, 1) := by decide +kernel
theorem zd_102_74 : decode prog_12_method_5_code 74 = .ok (.aload_n 0, 1) := by decide +kernel
theorem zd_102_75 : decode prog_12_method_5_code 75 = .ok (.getfield 26, 3) := by decide +kernel
theorem zd_102_78 : decode prog_12_method_5_code 78 = .ok (.iload 7, 2) := by decide +kernel
theorem zd_102_80 : decode prog_12_method_5_code 80 = .ok (.iconst 2, 1) := by decide +kernel
theorem zd_102_81 : decode prog_12_method_5_code 81 = .ok (.iadd, 1) := by decide +kernel
theorem zd_102_82 : decode prog_12_method_5_code 82 = .ok (.iload 6, 2) := by decide +kernel
theorem zd_102_84 : decode prog_12_method_5_code 84 = .ok (.iastore, 1) := by decide +kernel
theorem zd_102_85 : decode prog_12_method_5_code 85 = .ok (.aload_n 0, 1) := by decide +kernel
theorem zd_102_86 : decode prog_12_method_5_code 86 = .ok (.getfield 26, 3) := by decide +kernel
theorem zd_102_89 : decode prog_12_method_5_code 89 = .ok (.iload 7, 2) := by decide +kernel
theorem zd_102_91 : decode prog_12_method_5_code 91 = .ok (.iconst 3, 1) := by decide +kernel
theorem zd_102_92 : decode prog_12_method_5_code 92 = .ok (.iadd, 1) := by decide +kernel
theorem zd_102_93 : decode prog_12_method_5_code 93 = .ok (.iconst 0, 1) := by decide +kernel
theorem zd_102_94 : decode prog_12_method_5_code 94 = .ok (.iastore, 1) := by decide +kernel
theorem zd_102_95 : decode prog_12_method_5_code 95 = .ok (.aload_n 0, 1) := by decide +kernel
theorem zd_102_96 : decode prog_12_method_5_code 96 = .ok (.getfield 26, 3) := by decide +kernel
theorem zd_102_99 : decode prog_12_method_5_code 99 = .ok (.iload 7, 2) := by decide +kernel
theorem zd_102_101 : decode prog_12_method_5_code 101 = .ok (.iconst 4, 1) := by decide +kernel
theorem zd_102_102 : decode prog_12_method_5_code 102 = .ok (.iadd, 1) := by decide +kernel
theorem zd_102_103 : decode prog_12_method_5_code 103 = .ok (.iconst 0, 1) := by decide +kernel
theorem zd_102_104 : decode prog_12_method_5_code 104 = .ok (.iastore, 1) := by decide +kernel
theorem zd_102_105 : decode prog_12_method_5_code 105 = .ok (.aload_n 0, 1) := by decide +kernel
theorem zd_102_106 : decode prog_12_method_5_code 106 = .ok (.dup, 1) := by decide +kernel
theorem zd_102_107 : decode prog_12_method_5_code 107 = .ok (.getfield 52, 3) := by decide +kernel
theorem zd_102_110 : decode prog_12_method_5_code 110 = .ok (.iconst 1, 1) := by decide +kernel
theorem zd_102_111 : decode prog_12_method_5_code 111 = .ok (.iadd, 1) := by decide +kernel
theorem zd_102_112 : decode prog_12_method_5_code 112 = .ok (.putfield 52, 3) := by decide +kernel
theorem zd_102_115 : decode prog_12_method_5_code 115 = .ok (.iconst 1, 1) := by decide +kernel
theorem zd_103_0 : decode prog_11_method_23_code 0 = .ok (.aload_n 0, 1) := by decide +kernel
theorem zd_103_1 : decode prog_11_method_23_code 1 = .ok (.invokevirtual 121, 3) := by decide +kernel
theorem zd_103_4 : decode prog_11_method_23_code 4 = .ok (.aload_n 0, 1) := by decide +kernel
theorem zd_103_5 : decode prog_11_method_23_code 5 = .ok (.getfield 112, 3) := by decide +kernel
theorem zd_103_8 : decode prog_11_method_23_code 8 = .ok (.iconst (-1), 1) := by decide +kernel
theorem zd_103_9 : decode prog_11_method_23_code 9 = .ok (.if_icmp .ne 8, 3) := by decide +kernel
theorem zd_104_0 : decode prog_11_method_21_code 0 = .ok (.aload_n 0, 1) := by decide +kernel
theorem zd_104_1 : decode prog_11_method_21_code 1 = .ok (.invokevirtual 121, 3) := by decide +kernel
theorem zd_104_4 : decode prog_11_method_21_code 4 = .ok (.aload_n 0, 1) := by decide +kernel
theorem zd_104_5 : decode prog_11_method_21_code 5 = .ok (.getfield 112, 3) := by decide +kernel
theorem zd_104_8 : decode prog_11_method_21_code 8 = .ok (.iconst (-1), 1) := by decide +kernel
theorem zd_104_9 : decode prog_11_method_21_code 9 = .ok (.if_icmp .eq 11, 3) := by decide +kernel
theorem zd_104_20 : decode prog_11_method_21_code 20 = .ok (.aload_n 0, 1) := by decide +kernel
theorem zd_104_21 : decode prog_11_method_21_code 21 = .ok (.getfield 109, 3) := by decide +kernel
theorem zd_104_24 : decode prog_11_method_21_code 24 = .ok (.iload_n 1, 1) := by decide +kernel
theorem zd_104_25 : decode prog_11_method_21_code 25 = .ok (.if_icmp .lt 11, 3) := by decide +kernel
theorem zd_104_28 : decode prog_11_method_21_code 28 = .ok (.aload_n 0, 1) := by decide +kernel
theorem zd_104_29 : decode prog_11_method_21_code 29 = .ok (.getfield 109, 3) := by decide +kernel
theorem zd_104_32 : decode prog_11_method_21_code 32 = .ok (.iload_n 2, 1) := by decide +kernel
theorem zd_104_33 : decode prog_11_method_21_code 33 = .ok (.if_icmp .le 8, 3) := by decide +kernel
theorem zd_104_41 : decode prog_11_method_21_code 41 = .ok (.aload_n 0, 1) := by decide +kernel
theorem zd_104_42 : decode prog_11_method_21_code 42 = .ok (.getfield 109, 3) := by decide +kernel
theorem zd_105_0 : decode prog_3_method_3_code 0 = .ok (.iload_n 0, 1) := by decide +kernel
theorem zd_105_1 : decode prog_3_method_3_code 1 = .ok (.bipush 6, 2) := by decide +kernel
theorem zd_105_3 : decode prog_3_method_3_code 3 = .ok (.if_icmp .eq 21, 3) := by decide +kernel
theorem zd_105_6 : decode prog_3_method_3_code 6 = .ok (.iload_n 0, 1) := by decide +kernel
theorem zd_105_7 : decode prog_3_method_3_code 7 = .ok (.bipush 7, 2) := by decide +kernel
theorem zd_105_9 : decode prog_3_method_3_code 9 = .ok (.if_icmp .eq 15, 3) := by decide +kernel
theorem zd_105_12 : decode prog_3_method_3_code 12 = .ok (.iload_n 0, 1) := by decide +kernel
theorem zd_105_13 : decode prog_3_method_3_code 13 = .ok (.bipush 26, 2) := by decide +kernel
theorem zd_105_15 : decode prog_3_method_3_code 15 = .ok (.if_icmp .lt 13, 3) := by decide +kernel
theorem zd_105_18 : decode prog_3_method_3_code 18 = .ok (.iload_n 0, 1) := by decide +kernel
theorem zd_105_19 : decode prog_3_method_3_code 19 = .ok (.bipush 35, 2) := by decide +kernel
theorem zd_105_21 : decode prog_3_method_3_code 21 = .ok (.if_icmp .gt 7, 3) := by decide +kernel
theorem zd_105_24 : decode prog_3_method_3_code 24 = .ok (.iconst 1, 1) := by decide +kernel
theorem zd_105_25 : decode prog_3_method_3_code 25 = .ok (.goto 4, 3) := by decide +kernel
theorem zd_105_28 : decode prog_3_method_3_code 28 = .ok (.iconst 0, 1) := by decide +kernel
theorem zd_106_0 : decode prog_2_method_17_code 0 = .ok (.aload_n 0, 1) := by decide +kernel
theorem zd_106_1 : decode prog_2_method_17_code 1 = .ok (.getfield 24, 3) := by decide +kernel
theorem zd_106_4 : decode prog_2_method_17_code 4 = .ok (.aload_n 0, 1) := by decide +kernel
theorem zd_106_5 : decode prog_2_method_17_code 5 = .ok (.getfield 196, 3) := by decide +kernel
theorem zd_106_8 : decode prog_2_method_17_code 8 = .ok (.iaload, 1) := by decide +kernel
theorem zd_106_9 : decode prog_2_method_17_code 9 = .ok (.iconst (-1), 1) := by decide +kernel
theorem zd_106_10 : decode prog_2_method_17_code 10 = .ok (.if_icmp .eq 31, 3) := by decide +kernel
theorem zd_106_41 : decode prog_2_method_17_code 41 = .ok (.iconst 0, 1) := by decide +kernel
theorem zd_107_0 : decode prog_2_method_18_code 0 = .ok (.aload_n 0, 1) := by decide +kernel
theorem zd_107_1 : decode prog_2_method_18_code 1 = .ok (.getfield 52, 3) := by decide +kernel
theorem zd_107_4 : decode prog_2_method_18_code 4 = .ok (.invokevirtual 348, 3) := by decide +kernel
theorem zd_107_7 : decode prog_2_method_18_code 7 = .ok (.istore_n 3, 1) := by decide +kernel
theorem zd_107_8 : decode prog_2_method_18_code 8 = .ok (.aload_n 0, 1) := by decide +kernel
theorem zd_107_9 : decode prog_2_method_18_code 9 = .ok (.getfield 52, 3) := by decide +kernel
theorem zd_107_12 : decode prog_2_method_18_code 12 = .ok (.invokevirtual 351, 3) := by decide +kernel
theorem zd_107_15 : decode prog_2_method_18_code 15 = .ok (.iconst 4, 1) := by decide +kernel
theorem zd_107_16 : decode prog_2_method_18_code 16 = .ok (.if_icmp .ne 23, 3) := by decide +kernel
theorem zd_107_39 : decode prog_2_method_18_code 39 = .ok (.aload_n 0, 1) := by decide +kernel
theorem zd_107_40 : decode prog_2_method_18_code 40 = .ok (.getfield 65, 3) := by decide +kernel
theorem zd_107_43 : decode prog_2_method_18_code 43 = .ok (.aload_n 0, 1) := by decide +kernel
theorem zd_107_44 : decode prog_2_method_18_code 44 = .ok (.getfield 196, 3) := by decide +kernel
theorem zd_107_47 : decode prog_2_method_18_code 47 = .ok (.iload_n 2, 1) := by decide +kernel
theorem zd_107_48 : decode prog_2_method_18_code 48 = .ok (.iload_n 1, 1) := by decide +kernel
theorem zd_107_49 : decode prog_2_method_18_code 49 = .ok (.aload_n 0, 1) := by decide +kernel
theorem zd_107_50 : decode prog_2_method_18_code 50 = .ok (.getfield 52, 3) := by decide +kernel
theorem zd_107_53 : decode prog_2_method_18_code 53 = .ok (.getfield 266, 3) := by decide +kernel
theorem zd_107_56 : decode prog_2_method_18_code 56 = .ok (.aload_n 0, 1) := by decide +kernel
theorem zd_107_57 : decode prog_2_method_18_code 57 = .ok (.getfield 45, 3) := by decide +kernel
theorem zd_107_60 : decode prog_2_method_18_code 60 = .ok (.getfield 113, 3) := by decide +kernel
theorem zd_107_63 : decode prog_2_method_18_code 63 = .ok (.invokevirtual 354, 3) := by decide +kernel
theorem zd_107_66 : decode prog_2_method_18_code 66 = .ok (.istore 4, 2) := by decide +kernel
theorem zd_107_68 : decode prog_2_method_18_code 68 = .ok (.iload 4, 2) := by decide +kernel
theorem zd_107_70 : decode prog_2_method_18_code 70 = .ok (.iconst (-1), 1) := by decide +kernel
theorem zd_107_71 : decode prog_2_method_18_code 71 = .ok (.if_icmp .eq 11, 3) := by decide +kernel
theorem zd_107_74 : decode prog_2_method_18_code 74 = .ok (.iload 4, 2) := by decide +kernel
theorem zd_107_76 : decode prog_2_method_18_code 76 = .ok (.sipush 3000, 3) := by decide +kernel
theorem zd_107_79 : decode prog_2_method_18_code 79 = .ok (.if_icmp .lt 14, 3) := by decide +kernel
theorem zd_107_93 : decode prog_2_method_18_code 93 = .ok (.iload 4, 2) := by decide +kernel
theorem zd_107_95 : decode prog_2_method_18_code 95 = .ok (.bipush 6, 2) := by decide +kernel
theorem zd_107_97 : decode prog_2_method_18_code 97 = .ok (.imul, 1) := by decide +kernel
theorem zd_107_98 : decode prog_2_method_18_code 98 = .ok (.istore 5, 2) := by decide +kernel
theorem zd_107_100 : decode prog_2_method_18_code 100 = .ok (.aload_n 0, 1) := by decide +kernel
theorem zd_107_101 : decode prog_2_method_18_code 101 = .ok (.getfield 52, 3) := by decide +kernel
theorem zd_107_104 : decode prog_2_method_18_code 104 = .ok (.invokevirtual 351, 3) := by decide +kernel
theorem zd_107_107 : decode prog_2_method_18_code 107 = .ok (.iconst 2, 1) := by decide +kernel
theorem zd_107_108 : decode prog_2_method_18_code 108 = .ok (.if_icmp .ne 46, 3) := by decide +kernel
theorem zd_107_111 : decode prog_2_method_18_code 111 = .ok (.aload_n 0, 1) := by decide +kernel
theorem zd_107_112 : decode prog_2_method_18_code 112 = .ok (.getfield 65, 3) := by decide +kernel
theorem zd_107_115 : decode prog_2_method_18_code 115 = .ok (.getfield 357, 3) := by decide +kernel
theorem zd_107_118 : decode prog_2_method_18_code 118 = .ok (.iconst 2, 1) := by decide +kernel
theorem zd_107_119 : decode prog_2_method_18_code 119 = .ok (.iload 4, 2) := by decide +kernel
theorem zd_107_121 : decode prog_2_method_18_code 121 = .ok (.imul, 1) := by decide +kernel
theorem zd_107_122 : decode prog_2_method_18_code 122 = .ok (.aload_n 0, 1) := by decide +kernel
theorem zd_107_123 : decode prog_2_method_18_code 123 = .ok (.getfield 52, 3) := by decide +kernel
theorem zd_107_126 : decode prog_2_method_18_code 126 = .ok (.invokevirtual 361, 3) := by decide +kernel
theorem zd_107_129 : decode prog_2_method_18_code 129 = .ok (.lastore, 1) := by decide +kernel
theorem zd_107_130 : decode prog_2_method_18_code 130 = .ok (.aload_n 0, 1) := by decide +kernel
theorem zd_107_131 : decode prog_2_method_18_code 131 = .ok (.getfield 65, 3) := by decide +kernel
theorem zd_107_134 : decode prog_2_method_18_code 134 = .ok (.getfield 357, 3) := by decide +kernel
theorem zd_107_137 : decode prog_2_method_18_code 137 = .ok (.iconst 2, 1) := by decide +kernel
theorem zd_107_138 : decode prog_2_method_18_code 138 = .ok (.iload 4, 2) := by decide +kernel
theorem zd_107_140 : decode prog_2_method_18_code 140 = .ok (.imul, 1) := by decide +kernel
theorem zd_107_141 : decode prog_2_method_18_code 141 = .ok (.iconst 1, 1) := by decide +kernel
theorem zd_107_142 : decode prog_2_method_18_code 142 = .ok (.iadd, 1) := by decide +kernel
theorem zd_107_143 : decode prog_2_method_18_code 143 = .ok (.aload_n 0, 1) := by decide +kernel
theorem zd_107_144 : decode prog_2_method_18_code 144 = .ok (.getfield 52, 3) := by decide +kernel
theorem zd_107_147 : decode prog_2_method_18_code 147 = .ok (.invokevirtual 364, 3) := by decide +kernel
theorem zd_107_150 : decode prog_2_method_18_code 150 = .ok (.lastore, 1) := by decide +kernel
theorem zd_107_151 : decode prog_2_method_18_code 151 = .ok (.goto 91, 3) := by decide +kernel
theorem zd_107_242 : decode prog_2_method_18_code 242 = .ok (.iload 4, 2) := by decide +kernel
theorem zd_108_0 : decode prog_12_method_9_code 0 = .ok (.iload_n 2, 1) := by decide +kernel
theorem zd_108_1 : decode prog_12_method_9_code 1 = .ok (.ifCond .lt 17, 3) := by decide +kernel
theorem zd_108_4 : decode prog_12_method_9_code 4 = .ok (.aload_n 0, 1) := by decide +kernel
theorem zd_108_5 : decode prog_12_method_9_code 5 = .ok (.getfield 45, 3) := by decide +kernel
theorem zd_108_8 : decode prog_12_method_9_code 8 = .ok (.iload_n 2, 1) := by decide +kernel
theorem zd_108_9 : decode prog_12_method_9_code 9 = .ok (.iadd, 1) := by decide +kernel
theorem zd_108_10 : decode prog_12_method_9_code 10 = .ok (.aload_n 0, 1) := by decide +kernel
theorem zd_108_11 : decode prog_12_method_9_code 11 = .ok (.getfield 41, 3) := by decide +kernel
theorem zd_108_14 : decode prog_12_method_9_code 14 = .ok (.arraylength, 1) := by decide +kernel
theorem zd_108_15 : decode prog_12_method_9_code 15 = .ok (.if_icmp .le 5, 3) := by decide +kernel
theorem zd_108_20 : decode prog_12_method_9_code 20 = .ok (.iload_n 1, 1) := by decide +kernel
theorem zd_108_21 : decode prog_12_method_9_code 21 = .ok (.bipush 6, 2) := by decide +kernel
theorem zd_108_23 : decode prog_12_method_9_code 23 = .ok (.imul, 1) := by decide +kernel
theorem zd_108_24 : decode prog_12_method_9_code 24 = .ok (.istore_n 3, 1) := by decide +kernel
theorem zd_108_25 : decode prog_12_method_9_code 25 = .ok (.aload_n 0, 1) := by decide +kernel
theorem zd_108_26 : decode prog_12_method_9_code 26 = .ok (.getfield 19, 3) := by decide +kernel
theorem zd_108_29 : decode prog_12_method_9_code 29 = .ok (.iload_n 3, 1) := by decide +kernel
theorem zd_108_30 : decode prog_12_method_9_code 30 = .ok (.iconst 3, 1) := by decide +kernel
theorem zd_108_31 : decode prog_12_method_9_code 31 = .ok (.iadd, 1) := by decide +kernel
theorem zd_108_32 : decode prog_12_method_9_code 32 = .ok (.iaload, 1) := by decide +kernel
theorem zd_108_33 : decode prog_12_method_9_code 33 = .ok (.aload_n 0, 1) := by decide +kernel
theorem zd_108_34 : decode prog_12_method_9_code 34 = .ok (.getfield 19, 3) := by decide +kernel
theorem zd_108_37 : decode prog_12_method_9_code 37 = .ok (.iload_n 3, 1) := by decide +kernel
theorem zd_108_38 : decode prog_12_method_9_code 38 = .ok (.iconst 1, 1) := by decide +kernel
theorem zd_108_39 : decode prog_12_method_9_code 39 = .ok (.iadd, 1) := by decide +kernel
theorem zd_108_40 : decode prog_12_method_9_code 40 = .ok (.iaload, 1) := by decide +kernel
theorem zd_108_41 : decode prog_12_method_9_code 41 = .ok (.iadd, 1) := by decide +kernel
theorem zd_108_42 : decode prog_12_method_9_code 42 = .ok (.istore 4, 2) := by decide +kernel
theorem zd_108_44 : decode prog_12_method_9_code 44 = .ok (.aload_n 0, 1) := by decide +kernel
theorem zd_108_45 : decode prog_12_method_9_code 45 = .ok (.getfield 45, 3) := by decide +kernel
theorem zd_108_48 : decode prog_12_method_9_code 48 = .ok (.iconst 1, 1) := by decide +kernel
theorem zd_108_49 : decode prog_12_method_9_code 49 = .ok (.isub, 1) := by decide +kernel
theorem zd_108_50 : decode prog_12_method_9_code 50 = .ok (.istore 5, 2) := by decide +kernel
theorem zd_108_52 : decode prog_12_method_9_code 52 = .ok (.iload 5, 2) := by decide +kernel
theorem zd_108_54 : decode prog_12_method_9_code 54 = .ok (.iload 4, 2) := by decide +kernel
theorem zd_108_56 : decode prog_12_method_9_code 56 = .ok (.if_icmp .lt 25, 3) := by decide +kernel
theorem zd_108_81 : decode prog_12_method_9_code 81 = .ok (.aload_n 0, 1) := by decide +kernel
theorem zd_108_82 : decode prog_12_method_9_code 82 = .ok (.getfield 41, 3) := by decide +kernel
theorem zd_108_85 : decode prog_12_method_9_code 85 = .ok (.iload 4, 2) := by decide +kernel
theorem zd_108_87 : decode prog_12_method_9_code 87 = .ok (.iload 4, 2) := by decide +kernel
theorem zd_108_89 : decode prog_12_method_9_code 89 = .ok (.iload_n 2, 1) := by decide +kernel
theorem zd_108_90 : decode prog_12_method_9_code 90 = .ok (.iadd, 1) := by decide +kernel
theorem zd_108_91 : decode prog_12_method_9_code 91 = .ok (.iconst 0, 1) := by decide +kernel
theorem zd_108_92 : decode prog_12_method_9_code 92 = .ok (.invokestatic 65, 3) := by decide +kernel
theorem zd_108_95 : decode prog_12_method_9_code 95 = .ok (.iload_n 1, 1) := by decide +kernel
theorem zd_108_96 : decode prog_12_method_9_code 96 = .ok (.iconst 1, 1) := by decide +kernel
theorem zd_108_97 : decode prog_12_method_9_code 97 = .ok (.iadd, 1) := by decide +kernel
theorem zd_108_98 : decode prog_12_method_9_code 98 = .ok (.istore 5, 2) := by decide +kernel
theorem zd_108_100 : decode prog_12_method_9_code 100 = .ok (.iload 5, 2) := by decide +kernel
theorem zd_108_102 : decode prog_12_method_9_code 102 = .ok (.aload_n 0, 1) := by decide +kernel
theorem zd_108_103 : decode prog_12_method_9_code 103 = .ok (.getfield 49, 3) := by decide +kernel
theorem zd_108_106 : decode prog_12_method_9_code 106 = .ok (.if_icmp .ge 25, 3) := by decide +kernel
theorem zd_108_131 : decode prog_12_method_9_code 131 = .ok (.aload_n 0, 1) := by decide +kernel
theorem zd_108_132 : decode prog_12_method_9_code 132 = .ok (.getfield 19, 3) := by decide +kernel
theorem zd_108_135 : decode prog_12_method_9_code 135 = .ok (.iload_n 3, 1) := by decide +kernel
theorem zd_108_136 : decode prog_12_method_9_code 136 = .ok (.iconst 1, 1) := by decide +kernel
theorem zd_108_137 : decode prog_12_method_9_code 137 = .ok (.iadd, 1) := by decide +kernel
theorem zd_108_138 : decode prog_12_method_9_code 138 = .ok (.dup2, 1) := by decide +kernel
theorem zd_108_139 : decode prog_12_method_9_code 139 = .ok (.iaload, 1) := by decide +kernel
theorem zd_108_140 : decode prog_12_method_9_code 140 = .ok (.iload_n 2, 1) := by decide +kernel
theorem zd_108_141 : decode prog_12_method_9_code 141 = .ok (.iadd, 1) := by decide +kernel
theorem zd_108_142 : decode prog_12_method_9_code 142 = .ok (.iastore, 1) := by decide +kernel
theorem zd_108_143 : decode prog_12_method_9_code 143 = .ok (.aload_n 0, 1) := by decide +kernel
theorem zd_108_144 : decode prog_12_method_9_code 144 = .ok (.dup, 1) := by decide +kernel
theorem zd_108_145 : decode prog_12_method_9_code 145 = .ok (.getfield 45, 3) := by decide +kernel
theorem zd_108_148 : decode prog_12_method_9_code 148 = .ok (.iload_n 2, 1) := by decide +kernel
theorem zd_108_149 : decode prog_12_method_9_code 149 = .ok (.iadd, 1) := by decide +kernel
theorem zd_108_150 : decode prog_12_method_9_code 150 = .ok (.putfield 45, 3) := by decide +kernel
theorem zd_108_153 : decode prog_12_method_9_code 153 = .ok (.iconst 1, 1) := by decide +kernel
theorem zd_109_0 : decode prog_12_method_10_code 0 = .ok (.aload_n 0, 1) := by decide +kernel
theorem zd_109_1 : decode prog_12_method_10_code 1 = .ok (.getfield 19, 3) := by decide +kernel
theorem zd_109_4 : decode prog_12_method_10_code 4 = .ok (.iload_n 1, 1) := by decide +kernel
theorem zd_109_5 : decode prog_12_method_10_code 5 = .ok (.bipush 6, 2) := by decide +kernel
theorem zd_109_7 : decode prog_12_method_10_code 7 = .ok (.imul, 1) := by decide +kernel
theorem zd_109_8 : decode prog_12_method_10_code 8 = .ok (.iconst 3, 1) := by decide +kernel
theorem zd_109_9 : decode prog_12_method_10_code 9 = .ok (.iadd, 1) := by decide +kernel
theorem zd_109_10 : decode prog_12_method_10_code 10 = .ok (.iaload, 1) := by decide +kernel
theorem zd_109_11 : decode prog_12_method_10_code 11 = .ok (.iload_n 2, 1) := by decide +kernel
theorem zd_109_12 : decode prog_12_method_10_code 12 = .ok (.iadd, 1) := by decide +kernel
theorem zd_109_13 : decode prog_12_method_10_code 13 = .ok (.istore 5, 2) := by decide +kernel
theorem zd_109_15 : decode prog_12_method_10_code 15 = .ok (.iconst 0, 1) := by decide +kernel
theorem zd_109_16 : decode prog_12_method_10_code 16 = .ok (.istore 6, 2) := by decide +kernel
theorem zd_109_18 : decode prog_12_method_10_code 18 = .ok (.iload 6, 2) := by decide +kernel
theorem zd_109_20 : decode prog_12_method_10_code 20 = .ok (.iload 4, 2) := by decide +kernel
theorem zd_109_22 : decode prog_12_method_10_code 22 = .ok (.if_icmp .ge 44, 3) := by decide +kernel
theorem zd_109_25 : decode prog_12_method_10_code 25 = .ok (.iload 5, 2) := by decide +kernel
theorem zd_109_27 : decode prog_12_method_10_code 27 = .ok (.ifCond .lt 39, 3) := by decide +kernel
theorem zd_109_30 : decode prog_12_method_10_code 30 = .ok (.iload 5, 2) := by decide +kernel
theorem zd_109_32 : decode prog_12_method_10_code 32 = .ok (.iload 6, 2) := by decide +kernel
theorem zd_109_34 : decode prog_12_method_10_code 34 = .ok (.iadd, 1) := by decide +kernel
theorem zd_109_35 : decode prog_12_method_10_code 35 = .ok (.aload_n 0, 1) := by decide +kernel
theorem zd_109_36 : decode prog_12_method_10_code 36 = .ok (.getfield 45, 3) := by decide +kernel
theorem zd_109_39 : decode prog_12_method_10_code 39 = .ok (.if_icmp .ge 27, 3) := by decide +kernel
theorem zd_109_42 : decode prog_12_method_10_code 42 = .ok (.aload_n 0, 1) := by decide +kernel
theorem zd_109_43 : decode prog_12_method_10_code 43 = .ok (.getfield 41, 3) := by decide +kernel
theorem zd_109_46 : decode prog_12_method_10_code 46 = .ok (.iload 5, 2) := by decide +kernel
theorem zd_109_48 : decode prog_12_method_10_code 48 = .ok (.iload 6, 2) := by decide +kernel
theorem zd_109_50 : decode prog_12_method_10_code 50 = .ok (.iadd, 1) := by decide +kernel
theorem zd_109_51 : decode prog_12_method_10_code 51 = .ok (.iload_n 3, 1) := by decide +kernel
theorem zd_109_52 : decode prog_12_method_10_code 52 = .ok (.bipush 8, 2) := by decide +kernel
theorem zd_109_54 : decode prog_12_method_10_code 54 = .ok (.iload 6, 2) := by decide +kernel
theorem zd_109_56 : decode prog_12_method_10_code 56 = .ok (.imul, 1) := by decide +kernel
theorem zd_109_57 : decode prog_12_method_10_code 57 = .ok (.iushr, 1) := by decide +kernel
theorem zd_109_58 : decode prog_12_method_10_code 58 = .ok (.i2b, 1) := by decide +kernel
theorem zd_109_59 : decode prog_12_method_10_code 59 = .ok (.bastore, 1) := by decide +kernel
theorem zd_109_60 : decode prog_12_method_10_code 60 = .ok (.iinc 6 1, 3) := by decide +kernel
theorem zd_109_63 : decode prog_12_method_10_code 63 = .ok (.goto (-45), 3) := by decide +kernel
theorem zd_110_0 : decode prog_11_method_18_code 0 = .ok (.aload_n 0, 1) := by decide +kernel
theorem zd_110_1 : decode prog_11_method_18_code 1 = .ok (.getfield 9, 3) := by decide +kernel
theorem zd_110_4 : decode prog_11_method_18_code 4 = .ok (.aload_n 0, 1) := by decide +kernel
theorem zd_110_5 : decode prog_11_method_18_code 5 = .ok (.getfield 49, 3) := by decide +kernel
theorem zd_110_8 : decode prog_11_method_18_code 8 = .ok (.iaload, 1) := by decide +kernel
theorem zd_110_9 : decode prog_11_method_18_code 9 = .ok (.bipush 6, 2) := by decide +kernel
theorem zd_110_11 : decode prog_11_method_18_code 11 = .ok (.if_icmp .eq 10, 3) := by decide +kernel
theorem zd_110_21 : decode prog_11_method_18_code 21 = .ok (.aload_n 0, 1) := by decide +kernel
theorem zd_110_22 : decode prog_11_method_18_code 22 = .ok (.dup, 1) := by decide +kernel
theorem zd_110_23 : decode prog_11_method_18_code 23 = .ok (.getfield 49, 3) := by decide +kernel
theorem zd_110_26 : decode prog_11_method_18_code 26 = .ok (.iconst 1, 1) := by decide +kernel
theorem zd_110_27 : decode prog_11_method_18_code 27 = .ok (.iadd, 1) := by decide +kernel
theorem zd_110_28 : decode prog_11_method_18_code 28 = .ok (.putfield 49, 3) := by decide +kernel
theorem zd_110_31 : decode prog_11_method_18_code 31 = .ok (.aload_n 0, 1) := by decide +kernel
theorem zd_110_32 : decode prog_11_method_18_code 32 = .ok (.getfield 15, 3) := by decide +kernel
theorem zd_110_35 : decode prog_11_method_18_code 35 = .ok (.aload_n 0, 1) := by decide +kernel
theorem zd_110_36 : decode prog_11_method_18_code 36 = .ok (.getfield 49, 3) := by decide +kernel
theorem zd_110_39 : decode prog_11_method_18_code 39 = .ok (.iconst 1, 1) := by decide +kernel
theorem zd_110_40 : decode prog_11_method_18_code 40 = .ok (.isub, 1) := by decide +kernel
theorem zd_110_41 : decode prog_11_method_18_code 41 = .ok (.iaload, 1) := by decide +kernel
theorem zd_110_42 : decode prog_11_method_18_code 42 = .ok (.iload_n 1, 1) := by decide +kernel
theorem zd_110_43 : decode prog_11_method_18_code 43 = .ok (.ishl, 1) := by decide +kernel
theorem zd_111_0 : decode prog_11_method_19_code 0 = .ok (.aload_n 0, 1) := by decide +kernel
theorem zd_111_1 : decode prog_11_method_19_code 1 = .ok (.bipush 44, 2) := by decide +kernel
theorem zd_111_3 : decode prog_11_method_19_code 3 = .ok (.invokevirtual 102, 3) := by decide +kernel
theorem zd_111_6 : decode prog_11_method_19_code 6 = .ok (.aload_n 0, 1) := by decide +kernel
theorem zd_111_7 : decode prog_11_method_19_code 7 = .ok (.iload_n 1, 1) := by decide +kernel
theorem zd_111_8 : decode prog_11_method_19_code 8 = .ok (.invokevirtual 106, 3) := by decide +kernel
theorem zd_112_0 : decode prog_14_method_105_code 0 = .ok (.aload_n 0, 1) := by decide +kernel
theorem zd_112_1 : decode prog_14_method_105_code 1 = .ok (.getfield 1204, 3) := by decide +kernel
theorem zd_112_4 : decode prog_14_method_105_code 4 = .ok (.sipush 3001, 3) := by decide +kernel
theorem zd_112_7 : decode prog_14_method_105_code 7 = .ok (.if_icmp .ge 23, 3) := by decide +kernel
theorem zd_112_10 : decode prog_14_method_105_code 10 = .ok (.aload_n 0, 1) := by decide +kernel
theorem zd_112_11 : decode prog_14_method_105_code 11 = .ok (.getfield 298, 3) := by decide +kernel
theorem zd_112_14 : decode prog_14_method_105_code 14 = .ok (.aload_n 0, 1) := by decide +kernel
theorem zd_112_15 : decode prog_14_method_105_code 15 = .ok (.getfield 1204, 3) := by decide +kernel
theorem zd_112_18 : decode prog_14_method_105_code 18 = .ok (.iload_n 1, 1) := by decide +kernel
theorem zd_112_19 : decode prog_14_method_105_code 19 = .ok (.iastore, 1) := by decide +kernel
theorem zd_112_20 : decode prog_14_method_105_code 20 = .ok (.aload_n 0, 1) := by decide +kernel
theorem zd_112_21 : decode prog_14_method_105_code 21 = .ok (.dup, 1) := by decide +kernel
theorem zd_112_22 : decode prog_14_method_105_code 22 = .ok (.getfield 1204, 3) := by decide +kernel
theorem zd_112_25 : decode prog_14_method_105_code 25 = .ok (.iconst 1, 1) := by decide +kernel
theorem zd_112_26 : decode prog_14_method_105_code 26 = .ok (.iadd, 1) := by decide +kernel
theorem zd_112_27 : decode prog_14_method_105_code 27 = .ok (.putfield 1204, 3) := by decide +kernel
theorem zd_113_0 : decode prog_14_method_110_code 0 = .ok (.aload_n 0, 1) := by decide +kernel
theorem zd_113_1 : decode prog_14_method_110_code 1 = .ok (.invokevirtual 1222, 3) := by decide +kernel
theorem zd_113_4 : decode prog_14_method_110_code 4 = .ok (.bipush 32, 2) := by decide +kernel
theorem zd_113_6 : decode prog_14_method_110_code 6 = .ok (.if_icmp .ne 16, 3) := by decide +kernel
theorem zd_113_9 : decode prog_14_method_110_code 9 = .ok (.aload_n 0, 1) := by decide +kernel
theorem zd_113_10 : decode prog_14_method_110_code 10 = .ok (.dup, 1) := by decide +kernel
theorem zd_113_11 : decode prog_14_method_110_code 11 = .ok (.getfield 1219, 3) := by decide +kernel
theorem zd_113_14 : decode prog_14_method_110_code 14 = .ok (.iconst 1, 1) := by decide +kernel
theorem zd_113_15 : decode prog_14_method_110_code 15 = .ok (.iadd, 1) := by decide +kernel
theorem zd_113_16 : decode prog_14_method_110_code 16 = .ok (.putfield 1219, 3) := by decide +kernel
theorem zd_113_19 : decode prog_14_method_110_code 19 = .ok (.goto (-19), 3) := by decide +kernel
theorem zd_114_0 : decode prog_14_method_109_code 0 = .ok (.aload_n 0, 1) := by decide +kernel
theorem zd_114_1 : decode prog_14_method_109_code 1 = .ok (.getfield 1219, 3) := by decide +kernel
theorem zd_114_4 : decode prog_14_method_109_code 4 = .ok (.aload_n 0, 1) := by decide +kernel
theorem zd_114_5 : decode prog_14_method_109_code 5 = .ok (.getfield 1204, 3) := by decide +kernel
theorem zd_114_8 : decode prog_14_method_109_code 8 = .ok (.if_icmp .ge 15, 3) := by decide +kernel
theorem zd_114_11 : decode prog_14_method_109_code 11 = .ok (.aload_n 0, 1) := by decide +kernel
theorem zd_114_12 : decode prog_14_method_109_code 12 = .ok (.getfield 298, 3) := by decide +kernel
theorem zd_114_15 : decode prog_14_method_109_code 15 = .ok (.aload_n 0, 1) := by decide +kernel
theorem zd_114_16 : decode prog_14_method_109_code 16 = .ok (.getfield 1219, 3) := by decide +kernel
theorem zd_114_19 : decode prog_14_method_109_code 19 = .ok (.iaload, 1) := by decide +kernel
theorem zd_114_20 : decode prog_14_method_109_code 20 = .ok (.goto 4, 3) := by decide +kernel
theorem zd_114_23 : decode prog_14_method_109_code 23 = .ok (.iconst (-1), 1) := by decide +kernel
theorem zd_115_0 : decode prog_14_method_102_code 0 = .ok (.iload_n 0, 1) := by decide +kernel
theorem zd_115_1 : decode prog_14_method_102_code 1 = .ok (.invokestatic 550, 3) := by decide +kernel
theorem zd_115_4 : decode prog_14_method_102_code 4 = .ok (.ifCond .ne 15, 3) := by decide +kernel
theorem zd_115_7 : decode prog_14_method_102_code 7 = .ok (.iload_n 0, 1) := by decide +kernel
theorem zd_115_8 : decode prog_14_method_102_code 8 = .ok (.bipush 95, 2) := by decide +kernel
theorem zd_115_10 : decode prog_14_method_102_code 10 = .ok (.if_icmp .eq 9, 3) := by decide +kernel
theorem zd_115_13 : decode prog_14_method_102_code 13 = .ok (.iload_n 0, 1) := by decide +kernel
theorem zd_115_14 : decode prog_14_method_102_code 14 = .ok (.bipush 46, 2) := by decide +kernel
theorem zd_115_16 : decode prog_14_method_102_code 16 = .ok (.if_icmp .ne 7, 3) := by decide +kernel
theorem zd_115_19 : decode prog_14_method_102_code 19 = .ok (.iconst 1, 1) := by decide +kernel
theorem zd_115_20 : decode prog_14_method_102_code 20 = .ok (.goto 4, 3) := by decide +kernel
theorem zd_115_23 : decode prog_14_method_102_code 23 = .ok (.iconst 0, 1) := by decide +kernel
theorem zd_116_0 : decode prog_14_method_114_code 0 = .ok (.aload_n 0, 1) := by decide +kernel
theorem zd_116_1 : decode prog_14_method_114_code 1 = .ok (.invokevirtual 1225, 3) := by decide +kernel
theorem zd_116_4 : decode prog_14_method_114_code 4 = .ok (.aload_n 0, 1) := by decide +kernel
theorem zd_116_5 : decode prog_14_method_114_code 5 = .ok (.getfield 1219, 3) := by decide +kernel
theorem zd_116_8 : decode prog_14_method_114_code 8 = .ok (.istore_n 1, 1) := by decide +kernel
theorem zd_116_9 : decode prog_14_method_114_code 9 = .ok (.lconst 0, 1) := by decide +kernel
theorem zd_116_10 : decode prog_14_method_114_code 10 = .ok (.lstore_n 2, 1) := by decide +kernel
theorem zd_116_11 : decode prog_14_method_114_code 11 = .ok (.lconst 0, 1) := by decide +kernel
theorem zd_116_12 : decode prog_14_method_114_code 12 = .ok (.lstore 4, 2) := by decide +kernel
theorem zd_116_14 : decode prog_14_method_114_code 14 = .ok (.aload_n 0, 1) := by decide +kernel
theorem zd_116_15 : decode prog_14_method_114_code 15 = .ok (.getfield 1219, 3) := by decide +kernel
theorem zd_116_18 : decode prog_14_method_114_code 18 = .ok (.iload_n 1, 1) := by decide +kernel
theorem zd_116_19 : decode prog_14_method_114_code 19 = .ok (.if_icmp .ne 16, 3) := by decide +kernel
theorem zd_116_22 : decode prog_14_method_114_code 22 = .ok (.aload_n 0, 1) := by decide +kernel
theorem zd_116_23 : decode prog_14_method_114_code 23 = .ok (.invokevirtual 1222, 3) := by decide +kernel
theorem zd_116_26 : decode prog_14_method_114_code 26 = .ok (.invokestatic 1198, 3) := by decide +kernel
theorem zd_116_29 : decode prog_14_method_114_code 29 = .ok (.ifCond .eq 100, 3) := by decide +kernel
theorem zd_116_32 : decode prog_14_method_114_code 32 = .ok (.goto 13, 3) := by decide +kernel
theorem zd_116_35 : decode prog_14_method_114_code 35 = .ok (.aload_n 0, 1) := by decide +kernel
theorem zd_116_36 : decode prog_14_method_114_code 36 = .ok (.invokevirtual 1222, 3) := by decide +kernel
theorem zd_116_39 : decode prog_14_method_114_code 39 = .ok (.invokestatic 1201, 3) := by decide +kernel
theorem zd_116_42 : decode prog_14_method_114_code 42 = .ok (.ifCond .eq 87, 3) := by decide +kernel
theorem zd_116_45 : decode prog_14_method_114_code 45 = .ok (.aload_n 0, 1) := by decide +kernel
theorem zd_116_46 : decode prog_14_method_114_code 46 = .ok (.getfield 1219, 3) := by decide +kernel
theorem zd_116_49 : decode prog_14_method_114_code 49 = .ok (.iload_n 1, 1) := by decide +kernel
theorem zd_116_50 : decode prog_14_method_114_code 50 = .ok (.isub, 1) := by decide +kernel
theorem zd_116_51 : decode prog_14_method_114_code 51 = .ok (.istore 6, 2) := by decide +kernel
theorem zd_116_53 : decode prog_14_method_114_code 53 = .ok (.iload 6, 2) := by decide +kernel
theorem zd_116_55 : decode prog_14_method_114_code 55 = .ok (.bipush 8, 2) := by decide +kernel
theorem zd_116_57 : decode prog_14_method_114_code 57 = .ok (.if_icmp .ge 19, 3) := by decide +kernel
theorem zd_116_60 : decode prog_14_method_114_code 60 = .ok (.lload_n 2, 1) := by decide +kernel
theorem zd_116_61 : decode prog_14_method_114_code 61 = .ok (.aload_n 0, 1) := by decide +kernel
theorem zd_116_62 : decode prog_14_method_114_code 62 = .ok (.invokevirtual 1222, 3) := by decide +kernel
theorem zd_116_65 : decode prog_14_method_114_code 65 = .ok (.i2l, 1) := by decide +kernel
theorem zd_116_66 : decode prog_14_method_114_code 66 = .ok (.bipush 8, 2) := by decide +kernel
theorem zd_116_68 : decode prog_14_method_114_code 68 = .ok (.iload 6, 2) := by decide +kernel
theorem zd_116_70 : decode prog_14_method_114_code 70 = .ok (.imul, 1) := by decide +kernel
theorem zd_116_71 : decode prog_14_method_114_code 71 = .ok (.lshl, 1) := by decide +kernel
theorem zd_116_72 : decode prog_14_method_114_code 72 = .ok (.lor, 1) := by decide +kernel
theorem zd_116_73 : decode prog_14_method_114_code 73 = .ok (.goto 4, 3) := by decide +kernel
theorem zd_116_77 : decode prog_14_method_114_code 77 = .ok (.lstore_n 2, 1) := by decide +kernel
theorem zd_116_78 : decode prog_14_method_114_code 78 = .ok (.iload 6, 2) := by decide +kernel
theorem zd_116_80 : decode prog_14_method_114_code 80 = .ok (.bipush 8, 2) := by decide +kernel
theorem zd_116_82 : decode prog_14_method_114_code 82 = .ok (.if_icmp .lt 30, 3) := by decide +kernel
theorem zd_116_112 : decode prog_14_method_114_code 112 = .ok (.lload 4, 2) := by decide +kernel
theorem zd_116_114 : decode prog_14_method_114_code 114 = .ok (.lstore 4, 2) := by decide +kernel
theorem zd_116_116 : decode prog_14_method_114_code 116 = .ok (.aload_n 0, 1) := by decide +kernel
theorem zd_116_117 : decode prog_14_method_114_code 117 = .ok (.dup, 1) := by decide +kernel
theorem zd_116_118 : decode prog_14_method_114_code 118 = .ok (.getfield 1219, 3) := by decide +kernel
theorem zd_116_121 : decode prog_14_method_114_code 121 = .ok (.iconst 1, 1) := by decide +kernel
theorem zd_116_122 : decode prog_14_method_114_code 122 = .ok (.iadd, 1) := by decide +kernel
theorem zd_116_123 : decode prog_14_method_114_code 123 = .ok (.putfield 1219, 3) := by decide +kernel
theorem zd_116_126 : decode prog_14_method_114_code 126 = .ok (.goto (-112), 3) := by decide +kernel
theorem zd_116_129 : decode prog_14_method_114_code 129 = .ok (.aload_n 0, 1) := by decide +kernel
theorem zd_116_130 : decode prog_14_method_114_code 130 = .ok (.getfield 1219, 3) := by decide +kernel
theorem zd_116_133 : decode prog_14_method_114_code 133 = .ok (.iload_n 1, 1) := by decide +kernel
theorem zd_116_134 : decode prog_14_method_114_code 134 = .ok (.if_icmp .eq 14, 3) := by decide +kernel
theorem zd_116_137 : decode prog_14_method_114_code 137 = .ok (.aload_n 0, 1) := by decide +kernel
theorem zd_116_138 : decode prog_14_method_114_code 138 = .ok (.getfield 1219, 3) := by decide +kernel
theorem zd_116_141 : decode prog_14_method_114_code 141 = .ok (.iload_n 1, 1) := by decide +kernel
theorem zd_116_142 : decode prog_14_method_114_code 142 = .ok (.isub, 1) := by decide +kernel
theorem zd_116_143 : decode prog_14_method_114_code 143 = .ok (.bipush 16, 2) := by decide +kernel
theorem zd_116_145 : decode prog_14_method_114_code 145 = .ok (.if_icmp .le 10, 3) := by decide +kernel
theorem zd_116_155 : decode prog_14_method_114_code 155 = .ok (.aload_n 0, 1) := by decide +kernel
theorem zd_116_156 : decode prog_14_method_114_code 156 = .ok (.lload_n 2, 1) := by decide +kernel
theorem zd_116_157 : decode prog_14_method_114_code 157 = .ok (.lload 4, 2) := by decide +kernel
theorem zd_116_159 : decode prog_14_method_114_code 159 = .ok (.invokevirtual 536, 3) := by decide +kernel
theorem zd_117_0 : decode prog_14_method_112_code 0 = .ok (.aload_n 0, 1) := by decide +kernel
theorem zd_117_1 : decode prog_14_method_112_code 1 = .ok (.invokevirtual 1225, 3) := by decide +kernel
theorem zd_117_4 : decode prog_14_method_112_code 4 = .ok (.aload_n 0, 1) := by decide +kernel
theorem zd_117_5 : decode prog_14_method_112_code 5 = .ok (.invokevirtual 1222, 3) := by decide +kernel
theorem zd_117_8 : decode prog_14_method_112_code 8 = .ok (.iload_n 1, 1) := by decide +kernel
theorem zd_117_9 : decode prog_14_method_112_code 9 = .ok (.if_icmp .ne 7, 3) := by decide +kernel
theorem zd_117_12 : decode prog_14_method_112_code 12 = .ok (.iconst 1, 1) := by decide +kernel
theorem zd_117_13 : decode prog_14_method_112_code 13 = .ok (.goto 4, 3) := by decide +kernel
theorem zd_117_16 : decode prog_14_method_112_code 16 = .ok (.iconst 0, 1) := by decide +kernel
theorem zd_118_0 : decode prog_14_method_171_code 0 = .ok (.aload_n 0, 1) := by decide +kernel
theorem zd_118_1 : decode prog_14_method_171_code 1 = .ok (.iload_n 1, 1) := by decide +kernel
theorem zd_118_2 : decode prog_14_method_171_code 2 = .ok (.invokevirtual 1456, 3) := by decide +kernel
theorem zd_118_5 : decode prog_14_method_171_code 5 = .ok (.istore_n 3, 1) := by decide +kernel
theorem zd_118_6 : decode prog_14_method_171_code 6 = .ok (.iload_n 3, 1) := by decide +kernel
theorem zd_118_7 : decode prog_14_method_171_code 7 = .ok (.ifCond .lt 9, 3) := by decide +kernel
theorem zd_118_16 : decode prog_14_method_171_code 16 = .ok (.iload_n 1, 1) := by decide +kernel
theorem zd_118_17 : decode prog_14_method_171_code 17 = .ok (.bipush 8, 2) := by decide +kernel
theorem zd_118_19 : decode prog_14_method_171_code 19 = .ok (.isub, 1) := by decide +kernel
theorem zd_118_20 : decode prog_14_method_171_code 20 = .ok (.istore 4, 2) := by decide +kernel
theorem zd_118_22 : decode prog_14_method_171_code 22 = .ok (.iload 4, 2) := by decide +kernel
theorem zd_118_24 : decode prog_14_method_171_code 24 = .ok (.iconst 0, 1) := by decide +kernel
theorem zd_118_25 : decode prog_14_method_171_code 25 = .ok (.bipush 84, 2) := by decide +kernel
theorem zd_118_27 : decode prog_14_method_171_code 27 = .ok (.invokestatic 504, 3) := by decide +kernel
theorem zd_118_30 : decode prog_14_method_171_code 30 = .ok (.ifCond .eq 14, 3) := by decide +kernel
theorem zd_118_33 : decode prog_14_method_171_code 33 = .ok (.iload_n 2, 1) := by decide +kernel
theorem zd_118_34 : decode prog_14_method_171_code 34 = .ok (.ifCond .eq 16, 3) := by decide +kernel
theorem zd_118_37 : decode prog_14_method_171_code 37 = .ok (.iload 4, 2) := by decide +kernel
theorem zd_118_39 : decode prog_14_method_171_code 39 = .ok (.bipush 77, 2) := by decide +kernel
theorem zd_118_41 : decode prog_14_method_171_code 41 = .ok (.if_icmp .lt 9, 3) := by decide +kernel
theorem zd_118_50 : decode prog_14_method_171_code 50 = .ok (.iload 4, 2) := by decide +kernel
theorem zd_118_52 : decode prog_14_method_171_code 52 = .ok (.bipush 64, 2) := by decide +kernel
theorem zd_118_54 : decode prog_14_method_171_code 54 = .ok (.if_icmp .ge 12, 3) := by decide +kernel
theorem zd_118_57 : decode prog_14_method_171_code 57 = .ok (.aload_n 0, 1) := by decide +kernel
theorem zd_118_58 : decode prog_14_method_171_code 58 = .ok (.iload 4, 2) := by decide +kernel
theorem zd_118_60 : decode prog_14_method_171_code 60 = .ok (.invokevirtual 1477, 3) := by decide +kernel
theorem zd_118_63 : decode prog_14_method_171_code 63 = .ok (.goto 9, 3) := by decide +kernel
theorem zd_118_66 : decode prog_14_method_171_code 66 = .ok (.aload_n 0, 1) := by decide +kernel
theorem zd_118_67 : decode prog_14_method_171_code 67 = .ok (.iload 4, 2) := by decide +kernel
theorem zd_118_69 : decode prog_14_method_171_code 69 = .ok (.invokevirtual 1480, 3) := by decide +kernel
theorem zd_119_0 : decode prog_14_method_131_code 0 = .ok (.aload_n 0, 1) := by decide +kernel
theorem zd_119_1 : decode prog_14_method_131_code 1 = .ok (.iload_n 1, 1) := by decide +kernel
theorem zd_119_2 : decode prog_14_method_131_code 2 = .ok (.invokevirtual 1299, 3) := by decide +kernel
theorem zd_119_5 : decode prog_14_method_131_code 5 = .ok (.ifCond .ge 11, 3) := by decide +kernel
theorem zd_119_8 : decode prog_14_method_131_code 8 = .ok (.aload_n 0, 1) := by decide +kernel
theorem zd_119_9 : decode prog_14_method_131_code 9 = .ok (.iload_n 1, 1) := by decide +kernel
theorem zd_119_10 : decode prog_14_method_131_code 10 = .ok (.invokevirtual 1257, 3) := by decide +kernel
theorem zd_119_13 : decode prog_14_method_131_code 13 = .ok (.ifCond .lt 9, 3) := by decide +kernel
theorem zd_119_22 : decode prog_14_method_131_code 22 = .ok (.aload_n 0, 1) := by decide +kernel
theorem zd_119_23 : decode prog_14_method_131_code 23 = .ok (.getfield 72, 3) := by decide +kernel
theorem zd_119_26 : decode prog_14_method_131_code 26 = .ok (.aload_n 0, 1) := by decide +kernel
theorem zd_119_27 : decode prog_14_method_131_code 27 = .ok (.getfield 1174, 3) := by decide +kernel
theorem zd_119_30 : decode prog_14_method_131_code 30 = .ok (.iaload, 1) := by decide +kernel
theorem zd_119_31 : decode prog_14_method_131_code 31 = .ok (.sipush 600, 3) := by decide +kernel
theorem zd_119_34 : decode prog_14_method_131_code 34 = .ok (.if_icmp .ne 10, 3) := by decide +kernel
theorem zd_119_44 : decode prog_14_method_131_code 44 = .ok (.sipush 600, 3) := by decide +kernel
theorem zd_119_47 : decode prog_14_method_131_code 47 = .ok (.aload_n 0, 1) := by decide +kernel
theorem zd_119_48 : decode prog_14_method_131_code 48 = .ok (.getfield 1174, 3) := by decide +kernel
theorem zd_119_51 : decode prog_14_method_131_code 51 = .ok (.imul, 1) := by decide +kernel
theorem zd_119_52 : decode prog_14_method_131_code 52 = .ok (.aload_n 0, 1) := by decide +kernel
theorem zd_119_53 : decode prog_14_method_131_code 53 = .ok (.getfield 72, 3) := by decide +kernel
theorem zd_119_56 : decode prog_14_method_131_code 56 = .ok (.aload_n 0, 1) := by decide +kernel
theorem zd_119_57 : decode prog_14_method_131_code 57 = .ok (.getfield 1174, 3) := by decide +kernel
theorem zd_119_60 : decode prog_14_method_131_code 60 = .ok (.iaload, 1) := by decide +kernel
theorem zd_119_61 : decode prog_14_method_131_code 61 = .ok (.iadd, 1) := by decide +kernel
theorem zd_119_62 : decode prog_14_method_131_code 62 = .ok (.istore_n 2, 1) := by decide +kernel
theorem zd_119_63 : decode prog_14_method_131_code 63 = .ok (.aload_n 0, 1) := by decide +kernel
theorem zd_119_64 : decode prog_14_method_131_code 64 = .ok (.getfield 75, 3) := by decide +kernel
theorem zd_119_67 : decode prog_14_method_131_code 67 = .ok (.iload_n 2, 1) := by decide +kernel
theorem zd_119_68 : decode prog_14_method_131_code 68 = .ok (.iload_n 1, 1) := by decide +kernel
theorem zd_119_69 : decode prog_14_method_131_code 69 = .ok (.iastore, 1) := by decide +kernel
theorem zd_119_70 : decode prog_14_method_131_code 70 = .ok (.aload_n 0, 1) := by decide +kernel
theorem zd_119_71 : decode prog_14_method_131_code 71 = .ok (.getfield 78, 3) := by decide +kernel
theorem zd_119_74 : decode prog_14_method_131_code 74 = .ok (.iload_n 2, 1) := by decide +kernel
theorem zd_119_75 : decode prog_14_method_131_code 75 = .ok (.aload_n 0, 1) := by decide +kernel
theorem zd_119_76 : decode prog_14_method_131_code 76 = .ok (.getfield 1272, 3) := by decide +kernel
theorem zd_119_79 : decode prog_14_method_131_code 79 = .ok (.iastore, 1) := by decide +kernel
theorem zd_119_80 : decode prog_14_method_131_code 80 = .ok (.aload_n 0, 1) := by decide +kernel
theorem zd_119_81 : decode prog_14_method_131_code 81 = .ok (.getfield 81, 3) := by decide +kernel
theorem zd_119_84 : decode prog_14_method_131_code 84 = .ok (.iload_n 2, 1) := by decide +kernel
theorem zd_119_85 : decode prog_14_method_131_code 85 = .ok (.aload_n 0, 1) := by decide +kernel
theorem zd_119_86 : decode prog_14_method_131_code 86 = .ok (.invokevirtual 1290, 3) := by decide +kernel
theorem zd_119_89 : decode prog_14_method_131_code 89 = .ok (.iastore, 1) := by decide +kernel
theorem zd_119_90 : decode prog_14_method_131_code 90 = .ok (.aload_n 0, 1) := by decide +kernel
theorem zd_119_91 : decode prog_14_method_131_code 91 = .ok (.getfield 84, 3) := by decide +kernel
theorem zd_119_94 : decode prog_14_method_131_code 94 = .ok (.iload_n 2, 1) := by decide +kernel
theorem zd_119_95 : decode prog_14_method_131_code 95 = .ok (.aload_n 0, 1) := by decide +kernel
theorem zd_119_96 : decode prog_14_method_131_code 96 = .ok (.getfield 1177, 3) := by decide +kernel
theorem zd_119_99 : decode prog_14_method_131_code 99 = .ok (.iastore, 1) := by decide +kernel
theorem zd_119_100 : decode prog_14_method_131_code 100 = .ok (.aload_n 0, 1) := by decide +kernel
theorem zd_119_101 : decode prog_14_method_131_code 101 = .ok (.getfield 72, 3) := by decide +kernel
theorem zd_119_104 : decode prog_14_method_131_code 104 = .ok (.aload_n 0, 1) := by decide +kernel
theorem zd_119_105 : decode prog_14_method_131_code 105 = .ok (.getfield 1174, 3) := by decide +kernel
theorem zd_119_108 : decode prog_14_method_131_code 108 = .ok (.dup2, 1) := by decide +kernel
theorem zd_119_109 : decode prog_14_method_131_code 109 = .ok (.iaload, 1) := by decide +kernel
theorem zd_119_110 : decode prog_14_method_131_code 110 = .ok (.iconst 1, 1) := by decide +kernel
theorem zd_119_111 : decode prog_14_method_131_code 111 = .ok (.iadd, 1) := by decide +kernel
theorem zd_119_112 : decode prog_14_method_131_code 112 = .ok (.iastore, 1) := by decide +kernel
theorem zd_119_113 : decode prog_14_method_131_code 113 = .ok (.aload_n 0, 1) := by decide +kernel
theorem zd_119_114 : decode prog_14_method_131_code 114 = .ok (.getfield 383, 3) := by decide +kernel
theorem zd_119_117 : decode prog_14_method_131_code 117 = .ok (.aload_n 0, 1) := by decide +kernel
theorem zd_119_118 : decode prog_14_method_131_code 118 = .ok (.getfield 1272, 3) := by decide +kernel
theorem zd_119_121 : decode prog_14_method_131_code 121 = .ok (.aload_n 0, 1) := by decide +kernel
theorem zd_119_122 : decode prog_14_method_131_code 122 = .ok (.invokevirtual 1290, 3) := by decide +kernel
theorem zd_119_125 : decode prog_14_method_131_code 125 = .ok (.iastore, 1) := by decide +kernel
theorem zd_120_0 : decode prog_14_method_130_code 0 = .ok (.iconst (-1), 1) := by decide +kernel
theorem zd_120_1 : decode prog_14_method_130_code 1 = .ok (.istore_n 2, 1) := by decide +kernel
theorem zd_120_2 : decode prog_14_method_130_code 2 = .ok (.iconst 0, 1) := by decide +kernel
theorem zd_120_3 : decode prog_14_method_130_code 3 = .ok (.istore_n 3, 1) := by decide +kernel
theorem zd_120_4 : decode prog_14_method_130_code 4 = .ok (.iload_n 3, 1) := by decide +kernel
theorem zd_120_5 : decode prog_14_method_130_code 5 = .ok (.aload_n 0, 1) := by decide +kernel
theorem zd_120_6 : decode prog_14_method_130_code 6 = .ok (.getfield 72, 3) := by decide +kernel
theorem zd_120_9 : decode prog_14_method_130_code 9 = .ok (.aload_n 0, 1) := by decide +kernel
theorem zd_120_10 : decode prog_14_method_130_code 10 = .ok (.getfield 1174, 3) := by decide +kernel
theorem zd_120_13 : decode prog_14_method_130_code 13 = .ok (.iaload, 1) := by decide +kernel
theorem zd_120_14 : decode prog_14_method_130_code 14 = .ok (.if_icmp .ge 34, 3) := by decide +kernel
theorem zd_120_17 : decode prog_14_method_130_code 17 = .ok (.aload_n 0, 1) := by decide +kernel
theorem zd_120_18 : decode prog_14_method_130_code 18 = .ok (.getfield 75, 3) := by decide +kernel
theorem zd_120_21 : decode prog_14_method_130_code 21 = .ok (.sipush 600, 3) := by decide +kernel
theorem zd_120_24 : decode prog_14_method_130_code 24 = .ok (.aload_n 0, 1) := by decide +kernel
theorem zd_120_25 : decode prog_14_method_130_code 25 = .ok (.getfield 1174, 3) := by decide +kernel
theorem zd_120_28 : decode prog_14_method_130_code 28 = .ok (.imul, 1) := by decide +kernel
theorem zd_120_29 : decode prog_14_method_130_code 29 = .ok (.iload_n 3, 1) := by decide +kernel
theorem zd_120_30 : decode prog_14_method_130_code 30 = .ok (.iadd, 1) := by decide +kernel
theorem zd_120_31 : decode prog_14_method_130_code 31 = .ok (.iaload, 1) := by decide +kernel
theorem zd_120_32 : decode prog_14_method_130_code 32 = .ok (.iload_n 1, 1) := by decide +kernel
theorem zd_120_33 : decode prog_14_method_130_code 33 = .ok (.if_icmp .ne 7, 3) := by decide +kernel
theorem zd_120_40 : decode prog_14_method_130_code 40 = .ok (.iload_n 2, 1) := by decide +kernel
theorem zd_120_41 : decode prog_14_method_130_code 41 = .ok (.istore_n 2, 1) := by decide +kernel
theorem zd_120_42 : decode prog_14_method_130_code 42 = .ok (.iinc 3 1, 3) := by decide +kernel
theorem zd_120_45 : decode prog_14_method_130_code 45 = .ok (.goto (-41), 3) := by decide +kernel
theorem zd_120_48 : decode prog_14_method_130_code 48 = .ok (.iload_n 2, 1) := by decide +kernel
theorem zd_121_0 : decode prog_26_method_80_code 0 = .ok (.aload_n 0, 1) := by decide +kernel
theorem zd_121_1 : decode prog_26_method_80_code 1 = .ok (.invokevirtual 492, 3) := by decide +kernel
theorem zd_121_4 : decode prog_26_method_80_code 4 = .ok (.ifCond .eq 19, 3) := by decide +kernel
theorem zd_121_7 : decode prog_26_method_80_code 7 = .ok (.aload_n 0, 1) := by decide +kernel
theorem zd_121_8 : decode prog_26_method_80_code 8 = .ok (.getfield 9, 3) := by decide +kernel
theorem zd_121_11 : decode prog_26_method_80_code 11 = .ok (.iload_n 1, 1) := by decide +kernel
theorem zd_121_12 : decode prog_26_method_80_code 12 = .ok (.iload_n 2, 1) := by decide +kernel
theorem zd_121_13 : decode prog_26_method_80_code 13 = .ok (.aload_n 0, 1) := by decide +kernel
theorem zd_121_14 : decode prog_26_method_80_code 14 = .ok (.invokevirtual 505, 3) := by decide +kernel
theorem zd_121_17 : decode prog_26_method_80_code 17 = .ok (.invokestatic 637, 3) := by decide +kernel
theorem zd_121_20 : decode prog_26_method_80_code 20 = .ok (.goto 16, 3) := by decide +kernel
theorem zd_122_0 : decode prog_1_method_30_code 0 = .ok (.iload_n 0, 1) := by decide +kernel
theorem zd_122_1 : decode prog_1_method_30_code 1 = .ok (.bipush 97, 2) := by decide +kernel
theorem zd_122_3 : decode prog_1_method_30_code 3 = .ok (.if_icmp .lt 13, 3) := by decide +kernel
theorem zd_122_6 : decode prog_1_method_30_code 6 = .ok (.iload_n 0, 1) := by decide +kernel
theorem zd_122_7 : decode prog_1_method_30_code 7 = .ok (.bipush 122, 2) := by decide +kernel
theorem zd_122_9 : decode prog_1_method_30_code 9 = .ok (.if_icmp .gt 7, 3) := by decide +kernel
theorem zd_122_12 : decode prog_1_method_30_code 12 = .ok (.iconst 1, 1) := by decide +kernel
theorem zd_122_13 : decode prog_1_method_30_code 13 = .ok (.goto 4, 3) := by decide +kernel
theorem zd_122_16 : decode prog_1_method_30_code 16 = .ok (.iconst 0, 1) := by decide +kernel
theorem zd_123_0 : decode prog_11_method_20_code 0 = .ok (.aload_n 0, 1) := by decide +kernel
theorem zd_123_1 : decode prog_11_method_20_code 1 = .ok (.iconst 0, 1) := by decide +kernel
theorem zd_123_2 : decode prog_11_method_20_code 2 = .ok (.putfield 109, 3) := by decide +kernel
theorem zd_123_5 : decode prog_11_method_20_code 5 = .ok (.aload_n 0, 1) := by decide +kernel
theorem zd_123_6 : decode prog_11_method_20_code 6 = .ok (.iconst (-1), 1) := by decide +kernel
theorem zd_123_7 : decode prog_11_method_20_code 7 = .ok (.putfield 112, 3) := by decide +kernel
theorem zd_123_10 : decode prog_11_method_20_code 10 = .ok (.aload_n 0, 1) := by decide +kernel
theorem zd_123_11 : decode prog_11_method_20_code 11 = .ok (.getfield 9, 3) := by decide +kernel
theorem zd_123_14 : decode prog_11_method_20_code 14 = .ok (.aload_n 0, 1) := by decide +kernel
theorem zd_123_15 : decode prog_11_method_20_code 15 = .ok (.getfield 49, 3) := by decide +kernel
theorem zd_123_18 : decode prog_11_method_20_code 18 = .ok (.iaload, 1) := by decide +kernel
theorem zd_123_19 : decode prog_11_method_20_code 19 = .ok (.bipush 45, 2) := by decide +kernel
theorem zd_123_21 : decode prog_11_method_20_code 21 = .ok (.if_icmp .ne 7, 3) := by decide +kernel
theorem zd_123_28 : decode prog_11_method_20_code 28 = .ok (.iconst 0, 1) := by decide +kernel
theorem zd_123_29 : decode prog_11_method_20_code 29 = .ok (.istore_n 1, 1) := by decide +kernel
theorem zd_123_30 : decode prog_11_method_20_code 30 = .ok (.aload_n 0, 1) := by decide +kernel
theorem zd_123_31 : decode prog_11_method_20_code 31 = .ok (.dup, 1) := by decide +kernel
theorem zd_123_32 : decode prog_11_method_20_code 32 = .ok (.getfield 49, 3) := by decide +kernel
theorem zd_123_35 : decode prog_11_method_20_code 35 = .ok (.iload_n 1, 1) := by decide +kernel
theorem zd_123_36 : decode prog_11_method_20_code 36 = .ok (.ifCond .eq 7, 3) := by decide +kernel
theorem zd_123_43 : decode prog_11_method_20_code 43 = .ok (.iconst 0, 1) := by decide +kernel
theorem zd_123_44 : decode prog_11_method_20_code 44 = .ok (.iadd, 1) := by decide +kernel
theorem zd_123_45 : decode prog_11_method_20_code 45 = .ok (.putfield 49, 3) := by decide +kernel
theorem zd_123_48 : decode prog_11_method_20_code 48 = .ok (.iconst 0, 1) := by decide +kernel
theorem zd_123_49 : decode prog_11_method_20_code 49 = .ok (.istore_n 2, 1) := by decide +kernel
theorem zd_123_50 : decode prog_11_method_20_code 50 = .ok (.iload_n 2, 1) := by decide +kernel
theorem zd_123_51 : decode prog_11_method_20_code 51 = .ok (.aload_n 0, 1) := by decide +kernel
theorem zd_123_52 : decode prog_11_method_20_code 52 = .ok (.getfield 42, 3) := by decide +kernel
theorem zd_123_55 : decode prog_11_method_20_code 55 = .ok (.if_icmp .gt 206, 3) := by decide +kernel
theorem zd_123_58 : decode prog_11_method_20_code 58 = .ok (.aload_n 0, 1) := by decide +kernel
theorem zd_123_59 : decode prog_11_method_20_code 59 = .ok (.getfield 9, 3) := by decide +kernel
theorem zd_123_62 : decode prog_11_method_20_code 62 = .ok (.aload_n 0, 1) := by decide +kernel
theorem zd_123_63 : decode prog_11_method_20_code 63 = .ok (.getfield 49, 3) := by decide +kernel
theorem zd_123_66 : decode prog_11_method_20_code 66 = .ok (.iaload, 1) := by decide +kernel
theorem zd_123_67 : decode prog_11_method_20_code 67 = .ok (.istore_n 3, 1) := by decide +kernel
theorem zd_123_68 : decode prog_11_method_20_code 68 = .ok (.aload_n 0, 1) := by decide +kernel
theorem zd_123_69 : decode prog_11_method_20_code 69 = .ok (.getfield 15, 3) := by decide +kernel
theorem zd_123_72 : decode prog_11_method_20_code 72 = .ok (.aload_n 0, 1) := by decide +kernel
theorem zd_123_73 : decode prog_11_method_20_code 73 = .ok (.getfield 49, 3) := by decide +kernel
theorem zd_123_76 : decode prog_11_method_20_code 76 = .ok (.iaload, 1) := by decide +kernel
