/-! decode rows, by program -/
theorem zd_20_58 : decode prog_14_method_107_code 58 = .ok (.iload 5, 2) := by decide +kernel
theorem zd_20_60 : decode prog_14_method_107_code 60 = .ok (.invokevirtual 1207, 3) := by decide +kernel
theorem zd_20_63 : decode prog_14_method_107_code 63 = .ok (.iinc 4 1, 3) := by decide +kernel
theorem zd_20_66 : decode prog_14_method_107_code 66 = .ok (.goto 65, 3) := by decide +kernel
theorem zd_20_131 : decode prog_14_method_107_code 131 = .ok (.goto (-111), 3) := by decide +kernel
theorem zd_20_134 : decode prog_14_method_107_code 134 = .ok (.iload_n 3, 1) := by decide +kernel
theorem zd_20_135 : decode prog_14_method_107_code 135 = .ok (.ifCond .lt 19, 3) := by decide +kernel
theorem zd_21_0 : decode prog_14_method_172_code 0 = .ok (.aload_n 0, 1) := by decide +kernel
theorem zd_21_1 : decode prog_14_method_172_code 1 = .ok (.iconst 0, 1) := by decide +kernel
theorem zd_21_2 : decode prog_14_method_172_code 2 = .ok (.putfield 1219, 3) := by decide +kernel
theorem zd_21_5 : decode prog_14_method_172_code 5 = .ok (.aload_n 0, 1) := by decide +kernel
theorem zd_21_6 : decode prog_14_method_172_code 6 = .ok (.iconst 1, 1) := by decide +kernel
theorem zd_21_7 : decode prog_14_method_172_code 7 = .ok (.putfield 1228, 3) := by decide +kernel
theorem zd_21_10 : decode prog_14_method_172_code 10 = .ok (.aload_n 0, 1) := by decide +kernel
theorem zd_21_11 : decode prog_14_method_172_code 11 = .ok (.iconst 0, 1) := by decide +kernel
theorem zd_21_12 : decode prog_14_method_172_code 12 = .ok (.putfield 1260, 3) := by decide +kernel
theorem zd_21_15 : decode prog_14_method_172_code 15 = .ok (.iconst 0, 1) := by decide +kernel
theorem zd_21_16 : decode prog_14_method_172_code 16 = .ok (.istore_n 1, 1) := by decide +kernel
theorem zd_21_17 : decode prog_14_method_172_code 17 = .ok (.aload_n 0, 1) := by decide +kernel
theorem zd_21_18 : decode prog_14_method_172_code 18 = .ok (.getfield 1183, 3) := by decide +kernel
theorem zd_21_21 : decode prog_14_method_172_code 21 = .ok (.ifCond .ne 173, 3) := by decide +kernel
theorem zd_21_24 : decode prog_14_method_172_code 24 = .ok (.aload_n 0, 1) := by decide +kernel
theorem zd_21_25 : decode prog_14_method_172_code 25 = .ok (.invokevirtual 1225, 3) := by decide +kernel
theorem zd_21_28 : decode prog_14_method_172_code 28 = .ok (.aload_n 0, 1) := by decide +kernel
theorem zd_21_29 : decode prog_14_method_172_code 29 = .ok (.getfield 1219, 3) := by decide +kernel
theorem zd_21_32 : decode prog_14_method_172_code 32 = .ok (.aload_n 0, 1) := by decide +kernel
theorem zd_21_33 : decode prog_14_method_172_code 33 = .ok (.getfield 1204, 3) := by decide +kernel
theorem zd_21_36 : decode prog_14_method_172_code 36 = .ok (.if_icmp .lt 4, 3) := by decide +kernel
theorem zd_21_40 : decode prog_14_method_172_code 40 = .ok (.aload_n 0, 1) := by decide +kernel
theorem zd_21_41 : decode prog_14_method_172_code 41 = .ok (.invokevirtual 1222, 3) := by decide +kernel
theorem zd_21_44 : decode prog_14_method_172_code 44 = .ok (.invokestatic 1198, 3) := by decide +kernel
theorem zd_21_47 : decode prog_14_method_172_code 47 = .ok (.ifCond .eq 45, 3) := by decide +kernel
theorem zd_21_50 : decode prog_14_method_172_code 50 = .ok (.aload_n 0, 1) := by decide +kernel
theorem zd_21_51 : decode prog_14_method_172_code 51 = .ok (.invokevirtual 1254, 3) := by decide +kernel
theorem zd_21_54 : decode prog_14_method_172_code 54 = .ok (.istore_n 2, 1) := by decide +kernel
theorem zd_21_55 : decode prog_14_method_172_code 55 = .ok (.aload_n 0, 1) := by decide +kernel
theorem zd_21_56 : decode prog_14_method_172_code 56 = .ok (.getfield 1228, 3) := by decide +kernel
theorem zd_21_59 : decode prog_14_method_172_code 59 = .ok (.ifCond .ne 9, 3) := by decide +kernel
theorem zd_21_68 : decode prog_14_method_172_code 68 = .ok (.aload_n 0, 1) := by decide +kernel
theorem zd_21_69 : decode prog_14_method_172_code 69 = .ok (.bipush 58, 2) := by decide +kernel
theorem zd_21_71 : decode prog_14_method_172_code 71 = .ok (.invokevirtual 1330, 3) := by decide +kernel
theorem zd_21_74 : decode prog_14_method_172_code 74 = .ok (.ifCond .ne 10, 3) := by decide +kernel
theorem zd_21_77 : decode prog_14_method_172_code 77 = .ok (.aload_n 0, 1) := by decide +kernel
theorem zd_21_78 : decode prog_14_method_172_code 78 = .ok (.iload_n 2, 1) := by decide +kernel
theorem zd_21_79 : decode prog_14_method_172_code 79 = .ok (.iload_n 1, 1) := by decide +kernel
theorem zd_21_80 : decode prog_14_method_172_code 80 = .ok (.invokevirtual 1483, 3) := by decide +kernel
theorem zd_21_84 : decode prog_14_method_172_code 84 = .ok (.aload_n 0, 1) := by decide +kernel
theorem zd_21_85 : decode prog_14_method_172_code 85 = .ok (.iload_n 2, 1) := by decide +kernel
theorem zd_21_86 : decode prog_14_method_172_code 86 = .ok (.invokevirtual 1486, 3) := by decide +kernel
theorem zd_21_89 : decode prog_14_method_172_code 89 = .ok (.goto 90, 3) := by decide +kernel
theorem zd_21_179 : decode prog_14_method_172_code 179 = .ok (.aload_n 0, 1) := by decide +kernel
theorem zd_21_180 : decode prog_14_method_172_code 180 = .ok (.dup, 1) := by decide +kernel
theorem zd_21_181 : decode prog_14_method_172_code 181 = .ok (.getfield 1219, 3) := by decide +kernel
theorem zd_21_184 : decode prog_14_method_172_code 184 = .ok (.iconst 1, 1) := by decide +kernel
theorem zd_21_185 : decode prog_14_method_172_code 185 = .ok (.iadd, 1) := by decide +kernel
theorem zd_21_186 : decode prog_14_method_172_code 186 = .ok (.putfield 1219, 3) := by decide +kernel
theorem zd_21_189 : decode prog_14_method_172_code 189 = .ok (.iconst 1, 1) := by decide +kernel
theorem zd_21_190 : decode prog_14_method_172_code 190 = .ok (.istore_n 1, 1) := by decide +kernel
theorem zd_21_191 : decode prog_14_method_172_code 191 = .ok (.goto (-174), 3) := by decide +kernel
theorem zd_22_0 : decode prog_14_method_169_code 0 = .ok (.aload_n 0, 1) := by decide +kernel
theorem zd_22_1 : decode prog_14_method_169_code 1 = .ok (.getfield 1444, 3) := by decide +kernel
theorem zd_22_4 : decode prog_14_method_169_code 4 = .ok (.aload_n 0, 1) := by decide +kernel
theorem zd_22_5 : decode prog_14_method_169_code 5 = .ok (.getfield 322, 3) := by decide +kernel
theorem zd_22_8 : decode prog_14_method_169_code 8 = .ok (.iload_n 1, 1) := by decide +kernel
theorem zd_22_9 : decode prog_14_method_169_code 9 = .ok (.iaload, 1) := by decide +kernel
theorem zd_22_10 : decode prog_14_method_169_code 10 = .ok (.if_icmp .eq 20, 3) := by decide +kernel
theorem zd_22_30 : decode prog_14_method_169_code 30 = .ok (.aload_n 0, 1) := by decide +kernel
theorem zd_22_31 : decode prog_14_method_169_code 31 = .ok (.getfield 310, 3) := by decide +kernel
theorem zd_22_34 : decode prog_14_method_169_code 34 = .ok (.iload_n 1, 1) := by decide +kernel
theorem zd_22_35 : decode prog_14_method_169_code 35 = .ok (.dup2, 1) := by decide +kernel
theorem zd_22_36 : decode prog_14_method_169_code 36 = .ok (.iaload, 1) := by decide +kernel
theorem zd_22_37 : decode prog_14_method_169_code 37 = .ok (.iconst 1, 1) := by decide +kernel
theorem zd_22_38 : decode prog_14_method_169_code 38 = .ok (.isub, 1) := by decide +kernel
theorem zd_22_39 : decode prog_14_method_169_code 39 = .ok (.iastore, 1) := by decide +kernel
theorem zd_22_40 : decode prog_14_method_169_code 40 = .ok (.aload_n 0, 1) := by decide +kernel
theorem zd_22_41 : decode prog_14_method_169_code 41 = .ok (.getfield 307, 3) := by decide +kernel
theorem zd_22_44 : decode prog_14_method_169_code 44 = .ok (.iload_n 1, 1) := by decide +kernel
theorem zd_22_45 : decode prog_14_method_169_code 45 = .ok (.aload_n 0, 1) := by decide +kernel
theorem zd_22_46 : decode prog_14_method_169_code 46 = .ok (.getfield 301, 3) := by decide +kernel
theorem zd_22_49 : decode prog_14_method_169_code 49 = .ok (.iload_n 1, 1) := by decide +kernel
theorem zd_22_50 : decode prog_14_method_169_code 50 = .ok (.iaload, 1) := by decide +kernel
theorem zd_22_51 : decode prog_14_method_169_code 51 = .ok (.iastore, 1) := by decide +kernel
theorem zd_22_52 : decode prog_14_method_169_code 52 = .ok (.aload_n 0, 1) := by decide +kernel
theorem zd_22_53 : decode prog_14_method_169_code 53 = .ok (.getfield 310, 3) := by decide +kernel
theorem zd_22_56 : decode prog_14_method_169_code 56 = .ok (.iload_n 1, 1) := by decide +kernel
theorem zd_22_57 : decode prog_14_method_169_code 57 = .ok (.iaload, 1) := by decide +kernel
theorem zd_22_58 : decode prog_14_method_169_code 58 = .ok (.ifCond .gt 34, 3) := by decide +kernel
theorem zd_22_61 : decode prog_14_method_169_code 61 = .ok (.aload_n 0, 1) := by decide +kernel
theorem zd_22_62 : decode prog_14_method_169_code 62 = .ok (.dup, 1) := by decide +kernel
theorem zd_22_63 : decode prog_14_method_169_code 63 = .ok (.getfield 1447, 3) := by decide +kernel
theorem zd_22_66 : decode prog_14_method_169_code 66 = .ok (.iconst 1, 1) := by decide +kernel
theorem zd_22_67 : decode prog_14_method_169_code 67 = .ok (.isub, 1) := by decide +kernel
theorem zd_22_68 : decode prog_14_method_169_code 68 = .ok (.putfield 1447, 3) := by decide +kernel
theorem zd_22_71 : decode prog_14_method_169_code 71 = .ok (.aload_n 0, 1) := by decide +kernel
theorem zd_22_72 : decode prog_14_method_169_code 72 = .ok (.aload_n 0, 1) := by decide +kernel
theorem zd_22_73 : decode prog_14_method_169_code 73 = .ok (.getfield 1447, 3) := by decide +kernel
theorem zd_22_76 : decode prog_14_method_169_code 76 = .ok (.ifCond .le 12, 3) := by decide +kernel
theorem zd_22_88 : decode prog_14_method_169_code 88 = .ok (.iconst 0, 1) := by decide +kernel
theorem zd_22_89 : decode prog_14_method_169_code 89 = .ok (.putfield 1468, 3) := by decide +kernel
theorem zd_23_0 : decode prog_14_method_177_code 0 = .ok (.aload_n 0, 1) := by decide +kernel
theorem zd_23_1 : decode prog_14_method_177_code 1 = .ok (.getfield 416, 3) := by decide +kernel
theorem zd_23_4 : decode prog_14_method_177_code 4 = .ok (.iload_n 1, 1) := by decide +kernel
theorem zd_23_5 : decode prog_14_method_177_code 5 = .ok (.iaload, 1) := by decide +kernel
theorem zd_23_6 : decode prog_14_method_177_code 6 = .ok (.iconst 3, 1) := by decide +kernel
theorem zd_23_7 : decode prog_14_method_177_code 7 = .ok (.if_icmp .ne 15, 3) := by decide +kernel
theorem zd_23_22 : decode prog_14_method_177_code 22 = .ok (.iconst (-1), 1) := by decide +kernel
theorem zd_23_23 : decode prog_14_method_177_code 23 = .ok (.istore_n 2, 1) := by decide +kernel
theorem zd_23_24 : decode prog_14_method_177_code 24 = .ok (.aload_n 0, 1) := by decide +kernel
theorem zd_23_25 : decode prog_14_method_177_code 25 = .ok (.getfield 425, 3) := by decide +kernel
theorem zd_23_28 : decode prog_14_method_177_code 28 = .ok (.iload_n 1, 1) := by decide +kernel
theorem zd_23_29 : decode prog_14_method_177_code 29 = .ok (.iaload, 1) := by decide +kernel
theorem zd_23_30 : decode prog_14_method_177_code 30 = .ok (.istore_n 3, 1) := by decide +kernel
theorem zd_23_31 : decode prog_14_method_177_code 31 = .ok (.aload_n 0, 1) := by decide +kernel
theorem zd_23_32 : decode prog_14_method_177_code 32 = .ok (.getfield 422, 3) := by decide +kernel
theorem zd_23_35 : decode prog_14_method_177_code 35 = .ok (.iload_n 1, 1) := by decide +kernel
theorem zd_23_36 : decode prog_14_method_177_code 36 = .ok (.iaload, 1) := by decide +kernel
theorem zd_23_37 : decode prog_14_method_177_code 37 = .ok (.istore 4, 2) := by decide +kernel
theorem zd_23_39 : decode prog_14_method_177_code 39 = .ok (.aload_n 0, 1) := by decide +kernel
theorem zd_23_40 : decode prog_14_method_177_code 40 = .ok (.getfield 416, 3) := by decide +kernel
theorem zd_23_43 : decode prog_14_method_177_code 43 = .ok (.iload_n 1, 1) := by decide +kernel
theorem zd_23_44 : decode prog_14_method_177_code 44 = .ok (.iaload, 1) := by decide +kernel
theorem zd_23_45 : decode prog_14_method_177_code 45 = .ok (.iconst 1, 1) := by decide +kernel
theorem zd_23_46 : decode prog_14_method_177_code 46 = .ok (.if_icmp .ne 86, 3) := by decide +kernel
theorem zd_23_49 : decode prog_14_method_177_code 49 = .ok (.aload_n 0, 1) := by decide +kernel
theorem zd_23_50 : decode prog_14_method_177_code 50 = .ok (.aload_n 0, 1) := by decide +kernel
theorem zd_23_51 : decode prog_14_method_177_code 51 = .ok (.getfield 419, 3) := by decide +kernel
theorem zd_23_54 : decode prog_14_method_177_code 54 = .ok (.iload_n 1, 1) := by decide +kernel
theorem zd_23_55 : decode prog_14_method_177_code 55 = .ok (.iaload, 1) := by decide +kernel
theorem zd_23_56 : decode prog_14_method_177_code 56 = .ok (.invokevirtual 1299, 3) := by decide +kernel
theorem zd_23_59 : decode prog_14_method_177_code 59 = .ok (.istore 5, 2) := by decide +kernel
theorem zd_23_61 : decode prog_14_method_177_code 61 = .ok (.iload 5, 2) := by decide +kernel
theorem zd_23_63 : decode prog_14_method_177_code 63 = .ok (.ifCond .ge 12, 3) := by decide +kernel
theorem zd_23_66 : decode prog_14_method_177_code 66 = .ok (.aload_n 0, 1) := by decide +kernel
theorem zd_23_67 : decode prog_14_method_177_code 67 = .ok (.getfield 419, 3) := by decide +kernel
theorem zd_23_70 : decode prog_14_method_177_code 70 = .ok (.iload_n 1, 1) := by decide +kernel
theorem zd_23_71 : decode prog_14_method_177_code 71 = .ok (.iaload, 1) := by decide +kernel
theorem zd_23_72 : decode prog_14_method_177_code 72 = .ok (.goto 4, 3) := by decide +kernel
theorem zd_23_76 : decode prog_14_method_177_code 76 = .ok (.istore_n 2, 1) := by decide +kernel
theorem zd_23_77 : decode prog_14_method_177_code 77 = .ok (.iload 5, 2) := by decide +kernel
theorem zd_23_79 : decode prog_14_method_177_code 79 = .ok (.ifCond .ge 7, 3) := by decide +kernel
theorem zd_23_82 : decode prog_14_method_177_code 82 = .ok (.iconst (-1), 1) := by decide +kernel
theorem zd_23_83 : decode prog_14_method_177_code 83 = .ok (.goto 19, 3) := by decide +kernel
theorem zd_23_102 : decode prog_14_method_177_code 102 = .ok (.istore 4, 2) := by decide +kernel
theorem zd_23_104 : decode prog_14_method_177_code 104 = .ok (.iload 5, 2) := by decide +kernel
theorem zd_23_106 : decode prog_14_method_177_code 106 = .ok (.ifCond .ge 7, 3) := by decide +kernel
theorem zd_23_109 : decode prog_14_method_177_code 109 = .ok (.iload_n 3, 1) := by decide +kernel
theorem zd_23_110 : decode prog_14_method_177_code 110 = .ok (.goto 21, 3) := by decide +kernel
theorem zd_23_131 : decode prog_14_method_177_code 131 = .ok (.istore_n 3, 1) := by decide +kernel
theorem zd_23_132 : decode prog_14_method_177_code 132 = .ok (.aload_n 0, 1) := by decide +kernel
theorem zd_23_133 : decode prog_14_method_177_code 133 = .ok (.getfield 413, 3) := by decide +kernel
theorem zd_23_136 : decode prog_14_method_177_code 136 = .ok (.iload_n 1, 1) := by decide +kernel
theorem zd_23_137 : decode prog_14_method_177_code 137 = .ok (.iaload, 1) := by decide +kernel
theorem zd_23_138 : decode prog_14_method_177_code 138 = .ok (.iconst 4, 1) := by decide +kernel
theorem zd_23_139 : decode prog_14_method_177_code 139 = .ok (.if_icmp .ne 115, 3) := by decide +kernel
theorem zd_23_254 : decode prog_14_method_177_code 254 = .ok (.sipush 3000, 3) := by decide +kernel
theorem zd_23_257 : decode prog_14_method_177_code 257 = .ok (.aload_n 0, 1) := by decide +kernel
theorem zd_23_258 : decode prog_14_method_177_code 258 = .ok (.getfield 1174, 3) := by decide +kernel
theorem zd_23_261 : decode prog_14_method_177_code 261 = .ok (.imul, 1) := by decide +kernel
theorem zd_23_262 : decode prog_14_method_177_code 262 = .ok (.aload_n 0, 1) := by decide +kernel
theorem zd_23_263 : decode prog_14_method_177_code 263 = .ok (.getfield 93, 3) := by decide +kernel
theorem zd_23_266 : decode prog_14_method_177_code 266 = .ok (.aload_n 0, 1) := by decide +kernel
theorem zd_23_267 : decode prog_14_method_177_code 267 = .ok (.getfield 1174, 3) := by decide +kernel
theorem zd_23_270 : decode prog_14_method_177_code 270 = .ok (.iaload, 1) := by decide +kernel
theorem zd_23_271 : decode prog_14_method_177_code 271 = .ok (.iadd, 1) := by decide +kernel
theorem zd_23_272 : decode prog_14_method_177_code 272 = .ok (.istore 5, 2) := by decide +kernel
theorem zd_23_274 : decode prog_14_method_177_code 274 = .ok (.aload_n 0, 1) := by decide +kernel
theorem zd_23_275 : decode prog_14_method_177_code 275 = .ok (.getfield 96, 3) := by decide +kernel
theorem zd_23_278 : decode prog_14_method_177_code 278 = .ok (.iload 5, 2) := by decide +kernel
theorem zd_23_280 : decode prog_14_method_177_code 280 = .ok (.aload_n 0, 1) := by decide +kernel
theorem zd_23_281 : decode prog_14_method_177_code 281 = .ok (.getfield 407, 3) := by decide +kernel
theorem zd_23_284 : decode prog_14_method_177_code 284 = .ok (.iload_n 1, 1) := by decide +kernel
theorem zd_23_285 : decode prog_14_method_177_code 285 = .ok (.iaload, 1) := by decide +kernel
theorem zd_23_286 : decode prog_14_method_177_code 286 = .ok (.iastore, 1) := by decide +kernel
theorem zd_23_287 : decode prog_14_method_177_code 287 = .ok (.aload_n 0, 1) := by decide +kernel
theorem zd_23_288 : decode prog_14_method_177_code 288 = .ok (.getfield 99, 3) := by decide +kernel
theorem zd_23_291 : decode prog_14_method_177_code 291 = .ok (.iload 5, 2) := by decide +kernel
theorem zd_23_293 : decode prog_14_method_177_code 293 = .ok (.aload_n 0, 1) := by decide +kernel
theorem zd_23_294 : decode prog_14_method_177_code 294 = .ok (.getfield 410, 3) := by decide +kernel
theorem zd_23_297 : decode prog_14_method_177_code 297 = .ok (.iload_n 1, 1) := by decide +kernel
theorem zd_23_298 : decode prog_14_method_177_code 298 = .ok (.iaload, 1) := by decide +kernel
theorem zd_23_299 : decode prog_14_method_177_code 299 = .ok (.iastore, 1) := by decide +kernel
theorem zd_23_300 : decode prog_14_method_177_code 300 = .ok (.aload_n 0, 1) := by decide +kernel
theorem zd_23_301 : decode prog_14_method_177_code 301 = .ok (.getfield 102, 3) := by decide +kernel
theorem zd_23_304 : decode prog_14_method_177_code 304 = .ok (.iload 5, 2) := by decide +kernel
theorem zd_23_306 : decode prog_14_method_177_code 306 = .ok (.aload_n 0, 1) := by decide +kernel
theorem zd_23_307 : decode prog_14_method_177_code 307 = .ok (.getfield 413, 3) := by decide +kernel
theorem zd_23_310 : decode prog_14_method_177_code 310 = .ok (.iload_n 1, 1) := by decide +kernel
theorem zd_23_311 : decode prog_14_method_177_code 311 = .ok (.iaload, 1) := by decide +kernel
theorem zd_23_312 : decode prog_14_method_177_code 312 = .ok (.iastore, 1) := by decide +kernel
theorem zd_23_313 : decode prog_14_method_177_code 313 = .ok (.aload_n 0, 1) := by decide +kernel
theorem zd_23_314 : decode prog_14_method_177_code 314 = .ok (.getfield 105, 3) := by decide +kernel
theorem zd_23_317 : decode prog_14_method_177_code 317 = .ok (.iload 5, 2) := by decide +kernel
theorem zd_23_319 : decode prog_14_method_177_code 319 = .ok (.iload 4, 2) := by decide +kernel
theorem zd_23_321 : decode prog_14_method_177_code 321 = .ok (.iastore, 1) := by decide +kernel
theorem zd_23_322 : decode prog_14_method_177_code 322 = .ok (.aload_n 0, 1) := by decide +kernel
theorem zd_23_323 : decode prog_14_method_177_code 323 = .ok (.getfield 108, 3) := by decide +kernel
theorem zd_23_326 : decode prog_14_method_177_code 326 = .ok (.iload 5, 2) := by decide +kernel
theorem zd_23_328 : decode prog_14_method_177_code 328 = .ok (.iload_n 3, 1) := by decide +kernel
theorem zd_23_329 : decode prog_14_method_177_code 329 = .ok (.iastore, 1) := by decide +kernel
theorem zd_23_330 : decode prog_14_method_177_code 330 = .ok (.aload_n 0, 1) := by decide +kernel
theorem zd_23_331 : decode prog_14_method_177_code 331 = .ok (.getfield 111, 3) := by decide +kernel
theorem zd_23_334 : decode prog_14_method_177_code 334 = .ok (.iload 5, 2) := by decide +kernel
theorem zd_23_336 : decode prog_14_method_177_code 336 = .ok (.iload_n 2, 1) := by decide +kernel
theorem zd_23_337 : decode prog_14_method_177_code 337 = .ok (.iastore, 1) := by decide +kernel
theorem zd_23_338 : decode prog_14_method_177_code 338 = .ok (.aload_n 0, 1) := by decide +kernel
theorem zd_23_339 : decode prog_14_method_177_code 339 = .ok (.getfield 114, 3) := by decide +kernel
theorem zd_23_342 : decode prog_14_method_177_code 342 = .ok (.iload 5, 2) := by decide +kernel
theorem zd_23_344 : decode prog_14_method_177_code 344 = .ok (.aload_n 0, 1) := by decide +kernel
theorem zd_23_345 : decode prog_14_method_177_code 345 = .ok (.getfield 428, 3) := by decide +kernel
theorem zd_23_348 : decode prog_14_method_177_code 348 = .ok (.iload_n 1, 1) := by decide +kernel
theorem zd_23_349 : decode prog_14_method_177_code 349 = .ok (.iaload, 1) := by decide +kernel
theorem zd_23_350 : decode prog_14_method_177_code 350 = .ok (.iastore, 1) := by decide +kernel
theorem zd_23_351 : decode prog_14_method_177_code 351 = .ok (.aload_n 0, 1) := by decide +kernel
theorem zd_23_352 : decode prog_14_method_177_code 352 = .ok (.getfield 93, 3) := by decide +kernel
theorem zd_23_355 : decode prog_14_method_177_code 355 = .ok (.aload_n 0, 1) := by decide +kernel
theorem zd_23_356 : decode prog_14_method_177_code 356 = .ok (.getfield 1174, 3) := by decide +kernel
theorem zd_23_359 : decode prog_14_method_177_code 359 = .ok (.dup2, 1) := by decide +kernel
theorem zd_23_360 : decode prog_14_method_177_code 360 = .ok (.iaload, 1) := by decide +kernel
theorem zd_23_361 : decode prog_14_method_177_code 361 = .ok (.iconst 1, 1) := by decide +kernel
theorem zd_23_362 : decode prog_14_method_177_code 362 = .ok (.iadd, 1) := by decide +kernel
theorem zd_23_363 : decode prog_14_method_177_code 363 = .ok (.iastore, 1) := by decide +kernel
theorem zd_24_0 : decode prog_14_method_151_code 0 = .ok (.iconst (-1), 1) := by decide +kernel
theorem zd_24_1 : decode prog_14_method_151_code 1 = .ok (.istore_n 2, 1) := by decide +kernel
theorem zd_24_2 : decode prog_14_method_151_code 2 = .ok (.iconst 0, 1) := by decide +kernel
theorem zd_24_3 : decode prog_14_method_151_code 3 = .ok (.istore_n 3, 1) := by decide +kernel
theorem zd_24_4 : decode prog_14_method_151_code 4 = .ok (.iload_n 3, 1) := by decide +kernel
theorem zd_24_5 : decode prog_14_method_151_code 5 = .ok (.aload_n 0, 1) := by decide +kernel
theorem zd_24_6 : decode prog_14_method_151_code 6 = .ok (.getfield 1389, 3) := by decide +kernel
theorem zd_24_9 : decode prog_14_method_151_code 9 = .ok (.if_icmp .ge 25, 3) := by decide +kernel
theorem zd_24_34 : decode prog_14_method_151_code 34 = .ok (.iload_n 2, 1) := by decide +kernel
theorem zd_25_0 : decode prog_14_method_152_code 0 = .ok (.iconst 0, 1) := by decide +kernel
theorem zd_25_1 : decode prog_14_method_152_code 1 = .ok (.istore_n 2, 1) := by decide +kernel
theorem zd_25_2 : decode prog_14_method_152_code 2 = .ok (.iconst 0, 1) := by decide +kernel
theorem zd_25_3 : decode prog_14_method_152_code 3 = .ok (.istore_n 3, 1) := by decide +kernel
theorem zd_25_4 : decode prog_14_method_152_code 4 = .ok (.iload_n 3, 1) := by decide +kernel
theorem zd_25_5 : decode prog_14_method_152_code 5 = .ok (.aload_n 0, 1) := by decide +kernel
theorem zd_25_6 : decode prog_14_method_152_code 6 = .ok (.getfield 1392, 3) := by decide +kernel
theorem zd_25_9 : decode prog_14_method_152_code 9 = .ok (.if_icmp .ge 29, 3) := by decide +kernel
theorem zd_25_12 : decode prog_14_method_152_code 12 = .ok (.iload_n 2, 1) := by decide +kernel
theorem zd_25_13 : decode prog_14_method_152_code 13 = .ok (.ifCond .ne 13, 3) := by decide +kernel
theorem zd_25_16 : decode prog_14_method_152_code 16 = .ok (.aload_n 0, 1) := by decide +kernel
theorem zd_25_17 : decode prog_14_method_152_code 17 = .ok (.getfield 368, 3) := by decide +kernel
theorem zd_25_20 : decode prog_14_method_152_code 20 = .ok (.iload_n 3, 1) := by decide +kernel
theorem zd_25_21 : decode prog_14_method_152_code 21 = .ok (.iaload, 1) := by decide +kernel
theorem zd_25_22 : decode prog_14_method_152_code 22 = .ok (.iload_n 1, 1) := by decide +kernel
theorem zd_25_23 : decode prog_14_method_152_code 23 = .ok (.if_icmp .ne 7, 3) := by decide +kernel
theorem zd_25_26 : decode prog_14_method_152_code 26 = .ok (.iconst 1, 1) := by decide +kernel
theorem zd_25_27 : decode prog_14_method_152_code 27 = .ok (.goto 4, 3) := by decide +kernel
theorem zd_25_30 : decode prog_14_method_152_code 30 = .ok (.iconst 0, 1) := by decide +kernel
theorem zd_25_31 : decode prog_14_method_152_code 31 = .ok (.istore_n 2, 1) := by decide +kernel
theorem zd_25_32 : decode prog_14_method_152_code 32 = .ok (.iinc 3 1, 3) := by decide +kernel
theorem zd_25_35 : decode prog_14_method_152_code 35 = .ok (.goto (-31), 3) := by decide +kernel
theorem zd_25_38 : decode prog_14_method_152_code 38 = .ok (.iload_n 2, 1) := by decide +kernel
theorem zd_26_0 : decode prog_14_method_105_code 0 = .ok (.aload_n 0, 1) := by decide +kernel
theorem zd_26_1 : decode prog_14_method_105_code 1 = .ok (.getfield 1204, 3) := by decide +kernel
theorem zd_26_4 : decode prog_14_method_105_code 4 = .ok (.sipush 3001, 3) := by decide +kernel
theorem zd_26_7 : decode prog_14_method_105_code 7 = .ok (.if_icmp .ge 23, 3) := by decide +kernel
theorem zd_26_10 : decode prog_14_method_105_code 10 = .ok (.aload_n 0, 1) := by decide +kernel
theorem zd_26_11 : decode prog_14_method_105_code 11 = .ok (.getfield 298, 3) := by decide +kernel
theorem zd_26_14 : decode prog_14_method_105_code 14 = .ok (.aload_n 0, 1) := by decide +kernel
theorem zd_26_15 : decode prog_14_method_105_code 15 = .ok (.getfield 1204, 3) := by decide +kernel
theorem zd_26_18 : decode prog_14_method_105_code 18 = .ok (.iload_n 1, 1) := by decide +kernel
theorem zd_26_19 : decode prog_14_method_105_code 19 = .ok (.iastore, 1) := by decide +kernel
theorem zd_26_20 : decode prog_14_method_105_code 20 = .ok (.aload_n 0, 1) := by decide +kernel
theorem zd_26_21 : decode prog_14_method_105_code 21 = .ok (.dup, 1) := by decide +kernel
theorem zd_26_22 : decode prog_14_method_105_code 22 = .ok (.getfield 1204, 3) := by decide +kernel
theorem zd_26_25 : decode prog_14_method_105_code 25 = .ok (.iconst 1, 1) := by decide +kernel
theorem zd_26_26 : decode prog_14_method_105_code 26 = .ok (.iadd, 1) := by decide +kernel
theorem zd_26_27 : decode prog_14_method_105_code 27 = .ok (.putfield 1204, 3) := by decide +kernel
theorem zd_27_0 : decode prog_14_method_110_code 0 = .ok (.aload_n 0, 1) := by decide +kernel
theorem zd_27_1 : decode prog_14_method_110_code 1 = .ok (.invokevirtual 1222, 3) := by decide +kernel
theorem zd_27_4 : decode prog_14_method_110_code 4 = .ok (.bipush 32, 2) := by decide +kernel
theorem zd_27_6 : decode prog_14_method_110_code 6 = .ok (.if_icmp .ne 16, 3) := by decide +kernel
theorem zd_27_9 : decode prog_14_method_110_code 9 = .ok (.aload_n 0, 1) := by decide +kernel
theorem zd_27_10 : decode prog_14_method_110_code 10 = .ok (.dup, 1) := by decide +kernel
theorem zd_27_11 : decode prog_14_method_110_code 11 = .ok (.getfield 1219, 3) := by decide +kernel
theorem zd_27_14 : decode prog_14_method_110_code 14 = .ok (.iconst 1, 1) := by decide +kernel
theorem zd_27_15 : decode prog_14_method_110_code 15 = .ok (.iadd, 1) := by decide +kernel
theorem zd_27_16 : decode prog_14_method_110_code 16 = .ok (.putfield 1219, 3) := by decide +kernel
theorem zd_27_19 : decode prog_14_method_110_code 19 = .ok (.goto (-19), 3) := by decide +kernel
theorem zd_28_0 : decode prog_14_method_109_code 0 = .ok (.aload_n 0, 1) := by decide +kernel
theorem zd_28_1 : decode prog_14_method_109_code 1 = .ok (.getfield 1219, 3) := by decide +kernel
theorem zd_28_4 : decode prog_14_method_109_code 4 = .ok (.aload_n 0, 1) := by decide +kernel
theorem zd_28_5 : decode prog_14_method_109_code 5 = .ok (.getfield 1204, 3) := by decide +kernel
theorem zd_28_8 : decode prog_14_method_109_code 8 = .ok (.if_icmp .ge 15, 3) := by decide +kernel
theorem zd_28_11 : decode prog_14_method_109_code 11 = .ok (.aload_n 0, 1) := by decide +kernel
theorem zd_28_12 : decode prog_14_method_109_code 12 = .ok (.getfield 298, 3) := by decide +kernel
theorem zd_28_15 : decode prog_14_method_109_code 15 = .ok (.aload_n 0, 1) := by decide +kernel
theorem zd_28_16 : decode prog_14_method_109_code 16 = .ok (.getfield 1219, 3) := by decide +kernel
theorem zd_28_19 : decode prog_14_method_109_code 19 = .ok (.iaload, 1) := by decide +kernel
theorem zd_28_20 : decode prog_14_method_109_code 20 = .ok (.goto 4, 3) := by decide +kernel
theorem zd_28_23 : decode prog_14_method_109_code 23 = .ok (.iconst (-1), 1) := by decide +kernel
theorem zd_29_0 : decode prog_14_method_102_code 0 = .ok (.iload_n 0, 1) := by decide +kernel
theorem zd_29_1 : decode prog_14_method_102_code 1 = .ok (.invokestatic 550, 3) := by decide +kernel
theorem zd_29_4 : decode prog_14_method_102_code 4 = .ok (.ifCond .ne 15, 3) := by decide +kernel
theorem zd_29_7 : decode prog_14_method_102_code 7 = .ok (.iload_n 0, 1) := by decide +kernel
theorem zd_29_8 : decode prog_14_method_102_code 8 = .ok (.bipush 95, 2) := by decide +kernel
theorem zd_29_10 : decode prog_14_method_102_code 10 = .ok (.if_icmp .eq 9, 3) := by decide +kernel
theorem zd_29_13 : decode prog_14_method_102_code 13 = .ok (.iload_n 0, 1) := by decide +kernel
theorem zd_29_14 : decode prog_14_method_102_code 14 = .ok (.bipush 46, 2) := by decide +kernel
theorem zd_29_16 : decode prog_14_method_102_code 16 = .ok (.if_icmp .ne 7, 3) := by decide +kernel
theorem zd_29_19 : decode prog_14_method_102_code 19 = .ok (.iconst 1, 1) := by decide +kernel
theorem zd_29_20 : decode prog_14_method_102_code 20 = .ok (.goto 4, 3) := by decide +kernel
theorem zd_29_23 : decode prog_14_method_102_code 23 = .ok (.iconst 0, 1) := by decide +kernel
theorem zd_30_0 : decode prog_14_method_114_code 0 = .ok (.aload_n 0, 1) := by decide +kernel
theorem zd_30_1 : decode prog_14_method_114_code 1 = .ok (.invokevirtual 1225, 3) := by decide +kernel
theorem zd_30_4 : decode prog_14_method_114_code 4 = .ok (.aload_n 0, 1) := by decide +kernel
theorem zd_30_5 : decode prog_14_method_114_code 5 = .ok (.getfield 1219, 3) := by decide +kernel
theorem zd_30_8 : decode prog_14_method_114_code 8 = .ok (.istore_n 1, 1) := by decide +kernel
theorem zd_30_9 : decode prog_14_method_114_code 9 = .ok (.lconst 0, 1) := by decide +kernel
theorem zd_30_10 : decode prog_14_method_114_code 10 = .ok (.lstore_n 2, 1) := by decide +kernel
theorem zd_30_11 : decode prog_14_method_114_code 11 = .ok (.lconst 0, 1) := by decide +kernel
theorem zd_30_12 : decode prog_14_method_114_code 12 = .ok (.lstore 4, 2) := by decide +kernel
theorem zd_30_14 : decode prog_14_method_114_code 14 = .ok (.aload_n 0, 1) := by decide +kernel
theorem zd_30_15 : decode prog_14_method_114_code 15 = .ok (.getfield 1219, 3) := by decide +kernel
theorem zd_30_18 : decode prog_14_method_114_code 18 = .ok (.iload_n 1, 1) := by decide +kernel
theorem zd_30_19 : decode prog_14_method_114_code 19 = .ok (.if_icmp .ne 16, 3) := by decide +kernel
theorem zd_30_22 : decode prog_14_method_114_code 22 = .ok (.aload_n 0, 1) := by decide +kernel
theorem zd_30_23 : decode prog_14_method_114_code 23 = .ok (.invokevirtual 1222, 3) := by decide +kernel
theorem zd_30_26 : decode prog_14_method_114_code 26 = .ok (.invokestatic 1198, 3) := by decide +kernel
theorem zd_30_29 : decode prog_14_method_114_code 29 = .ok (.ifCond .eq 100, 3) := by decide +kernel
theorem zd_30_32 : decode prog_14_method_114_code 32 = .ok (.goto 13, 3) := by decide +kernel
theorem zd_30_35 : decode prog_14_method_114_code 35 = .ok (.aload_n 0, 1) := by decide +kernel
theorem zd_30_36 : decode prog_14_method_114_code 36 = .ok (.invokevirtual 1222, 3) := by decide +kernel
theorem zd_30_39 : decode prog_14_method_114_code 39 = .ok (.invokestatic 1201, 3) := by decide +kernel
theorem zd_30_42 : decode prog_14_method_114_code 42 = .ok (.ifCond .eq 87, 3) := by decide +kernel
theorem zd_30_45 : decode prog_14_method_114_code 45 = .ok (.aload_n 0, 1) := by decide +kernel
theorem zd_30_46 : decode prog_14_method_114_code 46 = .ok (.getfield 1219, 3) := by decide +kernel
theorem zd_30_49 : decode prog_14_method_114_code 49 = .ok (.iload_n 1, 1) := by decide +kernel
theorem zd_30_50 : decode prog_14_method_114_code 50 = .ok (.isub, 1) := by decide +kernel
theorem zd_30_51 : decode prog_14_method_114_code 51 = .ok (.istore 6, 2) := by decide +kernel
theorem zd_30_53 : decode prog_14_method_114_code 53 = .ok (.iload 6, 2) := by decide +kernel
theorem zd_30_55 : decode prog_14_method_114_code 55 = .ok (.bipush 8, 2) := by decide +kernel
theorem zd_30_57 : decode prog_14_method_114_code 57 = .ok (.if_icmp .ge 19, 3) := by decide +kernel
theorem zd_30_60 : decode prog_14_method_114_code 60 = .ok (.lload_n 2, 1) := by decide +kernel
theorem zd_30_61 : decode prog_14_method_114_code 61 = .ok (.aload_n 0, 1) := by decide +kernel
theorem zd_30_62 : decode prog_14_method_114_code 62 = .ok (.invokevirtual 1222, 3) := by decide +kernel
theorem zd_30_65 : decode prog_14_method_114_code 65 = .ok (.i2l, 1) := by decide +kernel
theorem zd_30_66 : decode prog_14_method_114_code 66 = .ok (.bipush 8, 2) := by decide +kernel
theorem zd_30_68 : decode prog_14_method_114_code 68 = .ok (.iload 6, 2) := by decide +kernel
theorem zd_30_70 : decode prog_14_method_114_code 70 = .ok (.imul, 1) := by decide +kernel
theorem zd_30_71 : decode prog_14_method_114_code 71 = .ok (.lshl, 1) := by decide +kernel
theorem zd_30_72 : decode prog_14_method_114_code 72 = .ok (.lor, 1) := by decide +kernel
theorem zd_30_73 : decode prog_14_method_114_code 73 = .ok (.goto 4, 3) := by decide +kernel
theorem zd_30_77 : decode prog_14_method_114_code 77 = .ok (.lstore_n 2, 1) := by decide +kernel
theorem zd_30_78 : decode prog_14_method_114_code 78 = .ok (.iload 6, 2) := by decide +kernel
theorem zd_30_80 : decode prog_14_method_114_code 80 = .ok (.bipush 8, 2) := by decide +kernel
theorem zd_30_82 : decode prog_14_method_114_code 82 = .ok (.if_icmp .lt 30, 3) := by decide +kernel
theorem zd_30_112 : decode prog_14_method_114_code 112 = .ok (.lload 4, 2) := by decide +kernel
theorem zd_30_114 : decode prog_14_method_114_code 114 = .ok (.lstore 4, 2) := by decide +kernel
theorem zd_30_116 : decode prog_14_method_114_code 116 = .ok (.aload_n 0, 1) := by decide +kernel
theorem zd_30_117 : decode prog_14_method_114_code 117 = .ok (.dup, 1) := by decide +kernel
theorem zd_30_118 : decode prog_14_method_114_code 118 = .ok (.getfield 1219, 3) := by decide +kernel
theorem zd_30_121 : decode prog_14_method_114_code 121 = .ok (.iconst 1, 1) := by decide +kernel
theorem zd_30_122 : decode prog_14_method_114_code 122 = .ok (.iadd, 1) := by decide +kernel
theorem zd_30_123 : decode prog_14_method_114_code 123 = .ok (.putfield 1219, 3) := by decide +kernel
theorem zd_30_126 : decode prog_14_method_114_code 126 = .ok (.goto (-112), 3) := by decide +kernel
theorem zd_30_129 : decode prog_14_method_114_code 129 = .ok (.aload_n 0, 1) := by decide +kernel
theorem zd_30_130 : decode prog_14_method_114_code 130 = .ok (.getfield 1219, 3) := by decide +kernel
theorem zd_30_133 : decode prog_14_method_114_code 133 = .ok (.iload_n 1, 1) := by decide +kernel
theorem zd_30_134 : decode prog_14_method_114_code 134 = .ok (.if_icmp .eq 14, 3) := by decide +kernel
theorem zd_30_137 : decode prog_14_method_114_code 137 = .ok (.aload_n 0, 1) := by decide +kernel
theorem zd_30_138 : decode prog_14_method_114_code 138 = .ok (.getfield 1219, 3) := by decide +kernel
theorem zd_30_141 : decode prog_14_method_114_code 141 = .ok (.iload_n 1, 1) := by decide +kernel
theorem zd_30_142 : decode prog_14_method_114_code 142 = .ok (.isub, 1) := by decide +kernel
theorem zd_30_143 : decode prog_14_method_114_code 143 = .ok (.bipush 16, 2) := by decide +kernel
theorem zd_30_145 : decode prog_14_method_114_code 145 = .ok (.if_icmp .le 10, 3) := by decide +kernel
theorem zd_30_155 : decode prog_14_method_114_code 155 = .ok (.aload_n 0, 1) := by decide +kernel
theorem zd_30_156 : decode prog_14_method_114_code 156 = .ok (.lload_n 2, 1) := by decide +kernel
theorem zd_30_157 : decode prog_14_method_114_code 157 = .ok (.lload 4, 2) := by decide +kernel
theorem zd_30_159 : decode prog_14_method_114_code 159 = .ok (.invokevirtual 536, 3) := by decide +kernel
theorem zd_31_0 : decode prog_14_method_112_code 0 = .ok (.aload_n 0, 1) := by decide +kernel
theorem zd_31_1 : decode prog_14_method_112_code 1 = .ok (.invokevirtual 1225, 3) := by decide +kernel
theorem zd_31_4 : decode prog_14_method_112_code 4 = .ok (.aload_n 0, 1) := by decide +kernel
theorem zd_31_5 : decode prog_14_method_112_code 5 = .ok (.invokevirtual 1222, 3) := by decide +kernel
theorem zd_31_8 : decode prog_14_method_112_code 8 = .ok (.iload_n 1, 1) := by decide +kernel
theorem zd_31_9 : decode prog_14_method_112_code 9 = .ok (.if_icmp .ne 7, 3) := by decide +kernel
theorem zd_31_12 : decode prog_14_method_112_code 12 = .ok (.iconst 1, 1) := by decide +kernel
theorem zd_31_13 : decode prog_14_method_112_code 13 = .ok (.goto 4, 3) := by decide +kernel
theorem zd_31_16 : decode prog_14_method_112_code 16 = .ok (.iconst 0, 1) := by decide +kernel
theorem zd_32_0 : decode prog_14_method_171_code 0 = .ok (.aload_n 0, 1) := by decide +kernel
theorem zd_32_1 : decode prog_14_method_171_code 1 = .ok (.iload_n 1, 1) := by decide +kernel
theorem zd_32_2 : decode prog_14_method_171_code 2 = .ok (.invokevirtual 1456, 3) := by decide +kernel
theorem zd_32_5 : decode prog_14_method_171_code 5 = .ok (.istore_n 3, 1) := by decide +kernel
theorem zd_32_6 : decode prog_14_method_171_code 6 = .ok (.iload_n 3, 1) := by decide +kernel
theorem zd_32_7 : decode prog_14_method_171_code 7 = .ok (.ifCond .lt 9, 3) := by decide +kernel
theorem zd_32_16 : decode prog_14_method_171_code 16 = .ok (.iload_n 1, 1) := by decide +kernel
theorem zd_32_17 : decode prog_14_method_171_code 17 = .ok (.bipush 8, 2) := by decide +kernel
theorem zd_32_19 : decode prog_14_method_171_code 19 = .ok (.isub, 1) := by decide +kernel
theorem zd_32_20 : decode prog_14_method_171_code 20 = .ok (.istore 4, 2) := by decide +kernel
theorem zd_32_22 : decode prog_14_method_171_code 22 = .ok (.iload 4, 2) := by decide +kernel
theorem zd_32_24 : decode prog_14_method_171_code 24 = .ok (.iconst 0, 1) := by decide +kernel
theorem zd_32_25 : decode prog_14_method_171_code 25 = .ok (.bipush 84, 2) := by decide +kernel
theorem zd_32_27 : decode prog_14_method_171_code 27 = .ok (.invokestatic 504, 3) := by decide +kernel
theorem zd_32_30 : decode prog_14_method_171_code 30 = .ok (.ifCond .eq 14, 3) := by decide +kernel
theorem zd_32_33 : decode prog_14_method_171_code 33 = .ok (.iload_n 2, 1) := by decide +kernel
theorem zd_32_34 : decode prog_14_method_171_code 34 = .ok (.ifCond .eq 16, 3) := by decide +kernel
theorem zd_32_37 : decode prog_14_method_171_code 37 = .ok (.iload 4, 2) := by decide +kernel
theorem zd_32_39 : decode prog_14_method_171_code 39 = .ok (.bipush 77, 2) := by decide +kernel
theorem zd_32_41 : decode prog_14_method_171_code 41 = .ok (.if_icmp .lt 9, 3) := by decide +kernel
theorem zd_32_50 : decode prog_14_method_171_code 50 = .ok (.iload 4, 2) := by decide +kernel
theorem zd_32_52 : decode prog_14_method_171_code 52 = .ok (.bipush 64, 2) := by decide +kernel
theorem zd_32_54 : decode prog_14_method_171_code 54 = .ok (.if_icmp .ge 12, 3) := by decide +kernel
theorem zd_32_57 : decode prog_14_method_171_code 57 = .ok (.aload_n 0, 1) := by decide +kernel
theorem zd_32_58 : decode prog_14_method_171_code 58 = .ok (.iload 4, 2) := by decide +kernel
theorem zd_32_60 : decode prog_14_method_171_code 60 = .ok (.invokevirtual 1477, 3) := by decide +kernel
theorem zd_32_63 : decode prog_14_method_171_code 63 = .ok (.goto 9, 3) := by decide +kernel
theorem zd_32_66 : decode prog_14_method_171_code 66 = .ok (.aload_n 0, 1) := by decide +kernel
theorem zd_32_67 : decode prog_14_method_171_code 67 = .ok (.iload 4, 2) := by decide +kernel
theorem zd_32_69 : decode prog_14_method_171_code 69 = .ok (.invokevirtual 1480, 3) := by decide +kernel
theorem zd_33_0 : decode prog_14_method_131_code 0 = .ok (.aload_n 0, 1) := by decide +kernel
theorem zd_33_1 : decode prog_14_method_131_code 1 = .ok (.iload_n 1, 1) := by decide +kernel
theorem zd_33_2 : decode prog_14_method_131_code 2 = .ok (.invokevirtual 1299, 3) := by decide +kernel
theorem zd_33_5 : decode prog_14_method_131_code 5 = .ok (.ifCond .ge 11, 3) := by decide +kernel
theorem zd_33_8 : decode prog_14_method_131_code 8 = .ok (.aload_n 0, 1) := by decide +kernel
theorem zd_33_9 : decode prog_14_method_131_code 9 = .ok (.iload_n 1, 1) := by decide +kernel
theorem zd_33_10 : decode prog_14_method_131_code 10 = .ok (.invokevirtual 1257, 3) := by decide +kernel
theorem zd_33_13 : decode prog_14_method_131_code 13 = .ok (.ifCond .lt 9, 3) := by decide +kernel
theorem zd_33_22 : decode prog_14_method_131_code 22 = .ok (.aload_n 0, 1) := by decide +kernel
theorem zd_33_23 : decode prog_14_method_131_code 23 = .ok (.getfield 72, 3) := by decide +kernel
theorem zd_33_26 : decode prog_14_method_131_code 26 = .ok (.aload_n 0, 1) := by decide +kernel
theorem zd_33_27 : decode prog_14_method_131_code 27 = .ok (.getfield 1174, 3) := by decide +kernel
theorem zd_33_30 : decode prog_14_method_131_code 30 = .ok (.iaload, 1) := by decide +kernel
theorem zd_33_31 : decode prog_14_method_131_code 31 = .ok (.sipush 600, 3) := by decide +kernel
theorem zd_33_34 : decode prog_14_method_131_code 34 = .ok (.if_icmp .ne 10, 3) := by decide +kernel
theorem zd_33_44 : decode prog_14_method_131_code 44 = .ok (.sipush 600, 3) := by decide +kernel
theorem zd_33_47 : decode prog_14_method_131_code 47 = .ok (.aload_n 0, 1) := by decide +kernel
theorem zd_33_48 : decode prog_14_method_131_code 48 = .ok (.getfield 1174, 3) := by decide +kernel
theorem zd_33_51 : decode prog_14_method_131_code 51 = .ok (.imul, 1) := by decide +kernel
theorem zd_33_52 : decode prog_14_method_131_code 52 = .ok (.aload_n 0, 1) := by decide +kernel
theorem zd_33_53 : decode prog_14_method_131_code 53 = .ok (.getfield 72, 3) := by decide +kernel
theorem zd_33_56 : decode prog_14_method_131_code 56 = .ok (.aload_n 0, 1) := by decide +kernel
theorem zd_33_57 : decode prog_14_method_131_code 57 = .ok (.getfield 1174, 3) := by decide +kernel
theorem zd_33_60 : decode prog_14_method_131_code 60 = .ok (.iaload, 1) := by decide +kernel
theorem zd_33_61 : decode prog_14_method_131_code 61 = .ok (.iadd, 1) := by decide +kernel
theorem zd_33_62 : decode prog_14_method_131_code 62 = .ok (.istore_n 2, 1) := by decide +kernel
theorem zd_33_63 : decode prog_14_method_131_code 63 = .ok (.aload_n 0, 1) := by decide +kernel
theorem zd_33_64 : decode prog_14_method_131_code 64 = .ok (.getfield 75, 3) := by decide +kernel
theorem zd_33_67 : decode prog_14_method_131_code 67 = .ok (.iload_n 2, 1) := by decide +kernel
theorem zd_33_68 : decode prog_14_method_131_code 68 = .ok (.iload_n 1, 1) := by decide +kernel
theorem zd_33_69 : decode prog_14_method_131_code 69 = .ok (.iastore, 1) := by decide +kernel
theorem zd_33_70 : decode prog_14_method_131_code 70 = .ok (.aload_n 0, 1) := by decide +kernel
theorem zd_33_71 : decode prog_14_method_131_code 71 = .ok (.getfield 78, 3) := by decide +kernel
theorem zd_33_74 : decode prog_14_method_131_code 74 = .ok (.iload_n 2, 1) := by decide +kernel
theorem zd_33_75 : decode prog_14_method_131_code 75 = .ok (.aload_n 0, 1) := by decide +kernel
theorem zd_33_76 : decode prog_14_method_131_code 76 = .ok (.getfield 1272, 3) := by decide +kernel
theorem zd_33_79 : decode prog_14_method_131_code 79 = .ok (.iastore, 1) := by decide +kernel
theorem zd_33_80 : decode prog_14_method_131_code 80 = .ok (.aload_n 0, 1) := by decide +kernel
theorem zd_33_81 : decode prog_14_method_131_code 81 = .ok (.getfield 81, 3) := by decide +kernel
theorem zd_33_84 : decode prog_14_method_131_code 84 = .ok (.iload_n 2, 1) := by decide +kernel
theorem zd_33_85 : decode prog_14_method_131_code 85 = .ok (.aload_n 0, 1) := by decide +kernel
theorem zd_33_86 : decode prog_14_method_131_code 86 = .ok (.invokevirtual 1290, 3) := by decide +kernel
theorem zd_33_89 : decode prog_14_method_131_code 89 = .ok (.iastore, 1) := by decide +kernel
theorem zd_33_90 : decode prog_14_method_131_code 90 = .ok (.aload_n 0, 1) := by decide +kernel
theorem zd_33_91 : decode prog_14_method_131_code 91 = .ok (.getfield 84, 3) := by decide +kernel
theorem zd_33_94 : decode prog_14_method_131_code 94 = .ok (.iload_n 2, 1) := by decide +kernel
theorem zd_33_95 : decode prog_14_method_131_code 95 = .ok (.aload_n 0, 1) := by decide +kernel
theorem zd_33_96 : decode prog_14_method_131_code 96 = .ok (.getfield 1177, 3) := by decide +kernel
theorem zd_33_99 : decode prog_14_method_131_code 99 = .ok (.iastore, 1) := by decide +kernel
theorem zd_33_100 : decode prog_14_method_131_code 100 = .ok (.aload_n 0, 1) := by decide +kernel
theorem zd_33_101 : decode prog_14_method_131_code 101 = .ok (.getfield 72, 3) := by decide +kernel
theorem zd_33_104 : decode prog_14_method_131_code 104 = .ok (.aload_n 0, 1) := by decide +kernel
theorem zd_33_105 : decode prog_14_method_131_code 105 = .ok (.getfield 1174, 3) := by decide +kernel
theorem zd_33_108 : decode prog_14_method_131_code 108 = .ok (.dup2, 1) := by decide +kernel
theorem zd_33_109 : decode prog_14_method_131_code 109 = .ok (.iaload, 1) := by decide +kernel
theorem zd_33_110 : decode prog_14_method_131_code 110 = .ok (.iconst 1, 1) := by decide +kernel
theorem zd_33_111 : decode prog_14_method_131_code 111 = .ok (.iadd, 1) := by decide +kernel
theorem zd_33_112 : decode prog_14_method_131_code 112 = .ok (.iastore, 1) := by decide +kernel
theorem zd_33_113 : decode prog_14_method_131_code 113 = .ok (.aload_n 0, 1) := by decide +kernel
theorem zd_33_114 : decode prog_14_method_131_code 114 = .ok (.getfield 383, 3) := by decide +kernel
theorem zd_33_117 : decode prog_14_method_131_code 117 = .ok (.aload_n 0, 1) := by decide +kernel
theorem zd_33_118 : decode prog_14_method_131_code 118 = .ok (.getfield 1272, 3) := by decide +kernel
theorem zd_33_121 : decode prog_14_method_131_code 121 = .ok (.aload_n 0, 1) := by decide +kernel
theorem zd_33_122 : decode prog_14_method_131_code 122 = .ok (.invokevirtual 1290, 3) := by decide +kernel
theorem zd_33_125 : decode prog_14_method_131_code 125 = .ok (.iastore, 1) := by decide +kernel
theorem zd_34_0 : decode prog_14_method_130_code 0 = .ok (.iconst (-1), 1) := by decide +kernel
theorem zd_34_1 : decode prog_14_method_130_code 1 = .ok (.istore_n 2, 1) := by decide +kernel
theorem zd_34_2 : decode prog_14_method_130_code 2 = .ok (.iconst 0, 1) := by decide +kernel
theorem zd_34_3 : decode prog_14_method_130_code 3 = .ok (.istore_n 3, 1) := by decide +kernel
theorem zd_34_4 : decode prog_14_method_130_code 4 = .ok (.iload_n 3, 1) := by decide +kernel
theorem zd_34_5 : decode prog_14_method_130_code 5 = .ok (.aload_n 0, 1) := by decide +kernel
theorem zd_34_6 : decode prog_14_method_130_code 6 = .ok (.getfield 72, 3) := by decide +kernel
theorem zd_34_9 : decode prog_14_method_130_code 9 = .ok (.aload_n 0, 1) := by decide +kernel
theorem zd_34_10 : decode prog_14_method_130_code 10 = .ok (.getfield 1174, 3) := by decide +kernel
theorem zd_34_13 : decode prog_14_method_130_code 13 = .ok (.iaload, 1) := by decide +kernel
theorem zd_34_14 : decode prog_14_method_130_code 14 = .ok (.if_icmp .ge 34, 3) := by decide +kernel
theorem zd_34_17 : decode prog_14_method_130_code 17 = .ok (.aload_n 0, 1) := by decide +kernel
theorem zd_34_18 : decode prog_14_method_130_code 18 = .ok (.getfield 75, 3) := by decide +kernel
theorem zd_34_21 : decode prog_14_method_130_code 21 = .ok (.sipush 600, 3) := by decide +kernel
theorem zd_34_24 : decode prog_14_method_130_code 24 = .ok (.aload_n 0, 1) := by decide +kernel
theorem zd_34_25 : decode prog_14_method_130_code 25 = .ok (.getfield 1174, 3) := by decide +kernel
theorem zd_34_28 : decode prog_14_method_130_code 28 = .ok (.imul, 1) := by decide +kernel
theorem zd_34_29 : decode prog_14_method_130_code 29 = .ok (.iload_n 3, 1) := by decide +kernel
theorem zd_34_30 : decode prog_14_method_130_code 30 = .ok (.iadd, 1) := by decide +kernel
theorem zd_34_31 : decode prog_14_method_130_code 31 = .ok (.iaload, 1) := by decide +kernel
theorem zd_34_32 : decode prog_14_method_130_code 32 = .ok (.iload_n 1, 1) := by decide +kernel
theorem zd_34_33 : decode prog_14_method_130_code 33 = .ok (.if_icmp .ne 7, 3) := by decide +kernel
theorem zd_34_40 : decode prog_14_method_130_code 40 = .ok (.iload_n 2, 1) := by decide +kernel
theorem zd_34_41 : decode prog_14_method_130_code 41 = .ok (.istore_n 2, 1) := by decide +kernel
theorem zd_34_42 : decode prog_14_method_130_code 42 = .ok (.iinc 3 1, 3) := by decide +kernel
theorem zd_34_45 : decode prog_14_method_130_code 45 = .ok (.goto (-41), 3) := by decide +kernel
theorem zd_34_48 : decode prog_14_method_130_code 48 = .ok (.iload_n 2, 1) := by decide +kernel
theorem zd_35_0 : decode prog_14_method_14_code 0 = .ok (.iload_n 0, 1) := by decide +kernel
theorem zd_35_1 : decode prog_14_method_14_code 1 = .ok (.bipush 97, 2) := by decide +kernel
theorem zd_35_3 : decode prog_14_method_14_code 3 = .ok (.if_icmp .lt 13, 3) := by decide +kernel
theorem zd_35_6 : decode prog_14_method_14_code 6 = .ok (.iload_n 0, 1) := by decide +kernel
theorem zd_35_7 : decode prog_14_method_14_code 7 = .ok (.bipush 122, 2) := by decide +kernel
theorem zd_35_9 : decode prog_14_method_14_code 9 = .ok (.if_icmp .gt 7, 3) := by decide +kernel
theorem zd_35_12 : decode prog_14_method_14_code 12 = .ok (.iconst 1, 1) := by decide +kernel
theorem zd_35_13 : decode prog_14_method_14_code 13 = .ok (.goto 4, 3) := by decide +kernel
theorem zd_35_16 : decode prog_14_method_14_code 16 = .ok (.iconst 0, 1) := by decide +kernel
theorem zd_36_0 : decode prog_14_method_103_code 0 = .ok (.iload_n 0, 1) := by decide +kernel
theorem zd_36_1 : decode prog_14_method_103_code 1 = .ok (.invokestatic 1198, 3) := by decide +kernel
theorem zd_36_4 : decode prog_14_method_103_code 4 = .ok (.ifCond .ne 10, 3) := by decide +kernel
theorem zd_36_7 : decode prog_14_method_103_code 7 = .ok (.iload_n 0, 1) := by decide +kernel
theorem zd_36_8 : decode prog_14_method_103_code 8 = .ok (.invokestatic 553, 3) := by decide +kernel
theorem zd_36_11 : decode prog_14_method_103_code 11 = .ok (.ifCond .eq 7, 3) := by decide +kernel
theorem zd_36_14 : decode prog_14_method_103_code 14 = .ok (.iconst 1, 1) := by decide +kernel
theorem zd_36_15 : decode prog_14_method_103_code 15 = .ok (.goto 4, 3) := by decide +kernel
theorem zd_36_18 : decode prog_14_method_103_code 18 = .ok (.iconst 0, 1) := by decide +kernel
theorem zd_37_0 : decode prog_14_method_163_code 0 = .ok (.iconst (-1), 1) := by decide +kernel
theorem zd_37_1 : decode prog_14_method_163_code 1 = .ok (.istore_n 2, 1) := by decide +kernel
theorem zd_37_2 : decode prog_14_method_163_code 2 = .ok (.iconst 0, 1) := by decide +kernel
theorem zd_37_3 : decode prog_14_method_163_code 3 = .ok (.istore_n 3, 1) := by decide +kernel
theorem zd_37_4 : decode prog_14_method_163_code 4 = .ok (.iload_n 3, 1) := by decide +kernel
theorem zd_37_5 : decode prog_14_method_163_code 5 = .ok (.aload_n 0, 1) := by decide +kernel
theorem zd_37_6 : decode prog_14_method_163_code 6 = .ok (.getfield 1450, 3) := by decide +kernel
theorem zd_37_9 : decode prog_14_method_163_code 9 = .ok (.if_icmp .ge 25, 3) := by decide +kernel
theorem zd_37_34 : decode prog_14_method_163_code 34 = .ok (.iload_n 2, 1) := by decide +kernel
theorem zd_38_0 : decode prog_14_method_158_code 0 = .ok (.iload_n 1, 1) := by decide +kernel
theorem zd_38_1 : decode prog_14_method_158_code 1 = .ok (.tableswitch 141 64 76 #[67, 75, 83, 83, 83, 91, 91, 91, 99, 99, 83, 107, 107], 67) := by decide +kernel
theorem zd_38_68 : decode prog_14_method_158_code 68 = .ok (.aload_n 0, 1) := by decide +kernel
theorem zd_38_69 : decode prog_14_method_158_code 69 = .ok (.iconst 0, 1) := by decide +kernel
theorem zd_38_70 : decode prog_14_method_158_code 70 = .ok (.invokevirtual 1413, 3) := by decide +kernel
theorem zd_38_73 : decode prog_14_method_158_code 73 = .ok (.goto 74, 3) := by decide +kernel
theorem zd_38_84 : decode prog_14_method_158_code 84 = .ok (.aload_n 0, 1) := by decide +kernel
theorem zd_38_85 : decode prog_14_method_158_code 85 = .ok (.iload_n 1, 1) := by decide +kernel
theorem zd_38_86 : decode prog_14_method_158_code 86 = .ok (.invokevirtual 1416, 3) := by decide +kernel
theorem zd_38_89 : decode prog_14_method_158_code 89 = .ok (.goto 58, 3) := by decide +kernel
theorem zd_39_0 : decode prog_14_method_140_code 0 = .ok (.aload_n 0, 1) := by decide +kernel
theorem zd_39_1 : decode prog_14_method_140_code 1 = .ok (.iconst 0, 1) := by decide +kernel
theorem zd_39_2 : decode prog_14_method_140_code 2 = .ok (.putfield 1306, 3) := by decide +kernel
theorem zd_39_5 : decode prog_14_method_140_code 5 = .ok (.aload_n 0, 1) := by decide +kernel
theorem zd_39_6 : decode prog_14_method_140_code 6 = .ok (.iconst 0, 1) := by decide +kernel
theorem zd_39_7 : decode prog_14_method_140_code 7 = .ok (.putfield 1309, 3) := by decide +kernel
theorem zd_39_10 : decode prog_14_method_140_code 10 = .ok (.aload_n 0, 1) := by decide +kernel
theorem zd_39_11 : decode prog_14_method_140_code 11 = .ok (.iconst 0, 1) := by decide +kernel
theorem zd_39_12 : decode prog_14_method_140_code 12 = .ok (.putfield 1312, 3) := by decide +kernel
theorem zd_39_15 : decode prog_14_method_140_code 15 = .ok (.aload_n 0, 1) := by decide +kernel
theorem zd_39_16 : decode prog_14_method_140_code 16 = .ok (.iload_n 1, 1) := by decide +kernel
theorem zd_39_17 : decode prog_14_method_140_code 17 = .ok (.invokevirtual 1333, 3) := by decide +kernel
theorem zd_39_20 : decode prog_14_method_140_code 20 = .ok (.aload_n 0, 1) := by decide +kernel
theorem zd_39_21 : decode prog_14_method_140_code 21 = .ok (.invokevirtual 1336, 3) := by decide +kernel
theorem zd_39_24 : decode prog_14_method_140_code 24 = .ok (.aload_n 0, 1) := by decide +kernel
theorem zd_39_25 : decode prog_14_method_140_code 25 = .ok (.getfield 1228, 3) := by decide +kernel
theorem zd_39_28 : decode prog_14_method_140_code 28 = .ok (.ifCond .eq 23, 3) := by decide +kernel
theorem zd_39_31 : decode prog_14_method_140_code 31 = .ok (.aload_n 0, 1) := by decide +kernel
theorem zd_39_32 : decode prog_14_method_140_code 32 = .ok (.getfield 50, 3) := by decide +kernel
theorem zd_39_35 : decode prog_14_method_140_code 35 = .ok (.bipush 64, 2) := by decide +kernel
theorem zd_39_37 : decode prog_14_method_140_code 37 = .ok (.aload_n 0, 1) := by decide +kernel
theorem zd_39_38 : decode prog_14_method_140_code 38 = .ok (.getfield 1174, 3) := by decide +kernel
theorem zd_39_41 : decode prog_14_method_140_code 41 = .ok (.imul, 1) := by decide +kernel
theorem zd_39_42 : decode prog_14_method_140_code 42 = .ok (.aload_n 0, 1) := by decide +kernel
theorem zd_39_43 : decode prog_14_method_140_code 43 = .ok (.getfield 1272, 3) := by decide +kernel
theorem zd_39_46 : decode prog_14_method_140_code 46 = .ok (.iadd, 1) := by decide +kernel
theorem zd_39_47 : decode prog_14_method_140_code 47 = .ok (.baload, 1) := by decide +kernel
theorem zd_39_48 : decode prog_14_method_140_code 48 = .ok (.ifCond .eq 9, 3) := by decide +kernel
theorem zd_39_57 : decode prog_14_method_140_code 57 = .ok (.aload_n 0, 1) := by decide +kernel
theorem zd_39_58 : decode prog_14_method_140_code 58 = .ok (.iload_n 1, 1) := by decide +kernel
theorem zd_39_59 : decode prog_14_method_140_code 59 = .ok (.invokevirtual 1339, 3) := by decide +kernel
theorem zd_39_62 : decode prog_14_method_140_code 62 = .ok (.ifCond .eq 12, 3) := by decide +kernel
theorem zd_39_65 : decode prog_14_method_140_code 65 = .ok (.aload_n 0, 1) := by decide +kernel
theorem zd_39_66 : decode prog_14_method_140_code 66 = .ok (.invokevirtual 1290, 3) := by decide +kernel
theorem zd_39_69 : decode prog_14_method_140_code 69 = .ok (.iconst 4, 1) := by decide +kernel
theorem zd_39_70 : decode prog_14_method_140_code 70 = .ok (.irem, 1) := by decide +kernel
theorem zd_39_71 : decode prog_14_method_140_code 71 = .ok (.ifCond .eq 9, 3) := by decide +kernel
theorem zd_39_80 : decode prog_14_method_140_code 80 = .ok (.aload_n 0, 1) := by decide +kernel
theorem zd_39_81 : decode prog_14_method_140_code 81 = .ok (.invokevirtual 1342, 3) := by decide +kernel
theorem zd_39_84 : decode prog_14_method_140_code 84 = .ok (.ifCond .ne 9, 3) := by decide +kernel
theorem zd_39_93 : decode prog_14_method_140_code 93 = .ok (.iload_n 1, 1) := by decide +kernel
theorem zd_39_94 : decode prog_14_method_140_code 94 = .ok (.bipush 26, 2) := by decide +kernel
theorem zd_39_96 : decode prog_14_method_140_code 96 = .ok (.if_icmp .ge 11, 3) := by decide +kernel
theorem zd_39_99 : decode prog_14_method_140_code 99 = .ok (.aload_n 0, 1) := by decide +kernel
theorem zd_39_100 : decode prog_14_method_140_code 100 = .ok (.iload_n 1, 1) := by decide +kernel
theorem zd_39_101 : decode prog_14_method_140_code 101 = .ok (.invokevirtual 1345, 3) := by decide +kernel
theorem zd_39_104 : decode prog_14_method_140_code 104 = .ok (.goto 22, 3) := by decide +kernel
theorem zd_39_107 : decode prog_14_method_140_code 107 = .ok (.iload_n 1, 1) := by decide +kernel
theorem zd_39_108 : decode prog_14_method_140_code 108 = .ok (.bipush 40, 2) := by decide +kernel
theorem zd_39_110 : decode prog_14_method_140_code 110 = .ok (.if_icmp .gt 11, 3) := by decide +kernel
theorem zd_39_121 : decode prog_14_method_140_code 121 = .ok (.aload_n 0, 1) := by decide +kernel
theorem zd_39_122 : decode prog_14_method_140_code 122 = .ok (.iload_n 1, 1) := by decide +kernel
theorem zd_39_123 : decode prog_14_method_140_code 123 = .ok (.invokevirtual 1351, 3) := by decide +kernel
theorem zd_40_0 : decode prog_14_method_116_code 0 = .ok (.iconst (-1), 1) := by decide +kernel
theorem zd_40_1 : decode prog_14_method_116_code 1 = .ok (.istore_n 2, 1) := by decide +kernel
theorem zd_40_2 : decode prog_14_method_116_code 2 = .ok (.iconst 0, 1) := by decide +kernel
theorem zd_40_3 : decode prog_14_method_116_code 3 = .ok (.istore_n 3, 1) := by decide +kernel
theorem zd_40_4 : decode prog_14_method_116_code 4 = .ok (.iload_n 3, 1) := by decide +kernel
theorem zd_40_5 : decode prog_14_method_116_code 5 = .ok (.aload_n 0, 1) := by decide +kernel
theorem zd_40_6 : decode prog_14_method_116_code 6 = .ok (.getfield 1231, 3) := by decide +kernel
theorem zd_40_9 : decode prog_14_method_116_code 9 = .ok (.if_icmp .ge 25, 3) := by decide +kernel
theorem zd_40_34 : decode prog_14_method_116_code 34 = .ok (.iload_n 2, 1) := by decide +kernel
theorem zd_41_0 : decode prog_14_method_123_code 0 = .ok (.aload_n 0, 1) := by decide +kernel
theorem zd_41_1 : decode prog_14_method_123_code 1 = .ok (.getfield 53, 3) := by decide +kernel
theorem zd_41_4 : decode prog_14_method_123_code 4 = .ok (.bipush 64, 2) := by decide +kernel
theorem zd_41_6 : decode prog_14_method_123_code 6 = .ok (.aload_n 0, 1) := by decide +kernel
theorem zd_41_7 : decode prog_14_method_123_code 7 = .ok (.getfield 1174, 3) := by decide +kernel
theorem zd_41_10 : decode prog_14_method_123_code 10 = .ok (.imul, 1) := by decide +kernel
theorem zd_41_11 : decode prog_14_method_123_code 11 = .ok (.aload_n 0, 1) := by decide +kernel
theorem zd_41_12 : decode prog_14_method_123_code 12 = .ok (.getfield 1272, 3) := by decide +kernel
theorem zd_41_15 : decode prog_14_method_123_code 15 = .ok (.iadd, 1) := by decide +kernel
theorem zd_41_16 : decode prog_14_method_123_code 16 = .ok (.iaload, 1) := by decide +kernel
theorem zd_42_0 : decode prog_14_method_15_code 0 = .ok (.iload_n 0, 1) := by decide +kernel
theorem zd_42_1 : decode prog_14_method_15_code 1 = .ok (.bipush 48, 2) := by decide +kernel
theorem zd_42_3 : decode prog_14_method_15_code 3 = .ok (.if_icmp .lt 13, 3) := by decide +kernel
theorem zd_42_6 : decode prog_14_method_15_code 6 = .ok (.iload_n 0, 1) := by decide +kernel
theorem zd_42_7 : decode prog_14_method_15_code 7 = .ok (.bipush 57, 2) := by decide +kernel
theorem zd_42_9 : decode prog_14_method_15_code 9 = .ok (.if_icmp .gt 7, 3) := by decide +kernel
theorem zd_42_12 : decode prog_14_method_15_code 12 = .ok (.iconst 1, 1) := by decide +kernel
theorem zd_42_13 : decode prog_14_method_15_code 13 = .ok (.goto 4, 3) := by decide +kernel
theorem zd_42_16 : decode prog_14_method_15_code 16 = .ok (.iconst 0, 1) := by decide +kernel
theorem zd_43_0 : decode prog_14_method_150_code 0 = .ok (.aload_n 0, 1) := by decide +kernel
theorem zd_43_1 : decode prog_14_method_150_code 1 = .ok (.invokevirtual 1225, 3) := by decide +kernel
theorem zd_43_4 : decode prog_14_method_150_code 4 = .ok (.aload_n 0, 1) := by decide +kernel
theorem zd_43_5 : decode prog_14_method_150_code 5 = .ok (.getfield 1219, 3) := by decide +kernel
theorem zd_43_8 : decode prog_14_method_150_code 8 = .ok (.aload_n 0, 1) := by decide +kernel
theorem zd_43_9 : decode prog_14_method_150_code 9 = .ok (.getfield 1204, 3) := by decide +kernel
theorem zd_43_12 : decode prog_14_method_150_code 12 = .ok (.if_icmp .ge 10, 3) := by decide +kernel
theorem zd_43_15 : decode prog_14_method_150_code 15 = .ok (.aload_n 0, 1) := by decide +kernel
theorem zd_43_16 : decode prog_14_method_150_code 16 = .ok (.invokevirtual 1254, 3) := by decide +kernel
theorem zd_43_19 : decode prog_14_method_150_code 19 = .ok (.goto 21, 3) := by decide +kernel
theorem zd_43_40 : decode prog_14_method_150_code 40 = .ok (.istore_n 2, 1) := by decide +kernel
theorem zd_43_41 : decode prog_14_method_150_code 41 = .ok (.aload_n 0, 1) := by decide +kernel
theorem zd_43_42 : decode prog_14_method_150_code 42 = .ok (.invokevirtual 1336, 3) := by decide +kernel
theorem zd_43_45 : decode prog_14_method_150_code 45 = .ok (.aload_n 0, 1) := by decide +kernel
theorem zd_43_46 : decode prog_14_method_150_code 46 = .ok (.getfield 1228, 3) := by decide +kernel
theorem zd_43_49 : decode prog_14_method_150_code 49 = .ok (.ifCond .ne 9, 3) := by decide +kernel
theorem zd_43_58 : decode prog_14_method_150_code 58 = .ok (.aload_n 0, 1) := by decide +kernel
theorem zd_43_59 : decode prog_14_method_150_code 59 = .ok (.iload_n 2, 1) := by decide +kernel
theorem zd_43_60 : decode prog_14_method_150_code 60 = .ok (.invokevirtual 1383, 3) := by decide +kernel
theorem zd_43_63 : decode prog_14_method_150_code 63 = .ok (.istore_n 3, 1) := by decide +kernel
theorem zd_43_64 : decode prog_14_method_150_code 64 = .ok (.iload_n 3, 1) := by decide +kernel
theorem zd_43_65 : decode prog_14_method_150_code 65 = .ok (.ifCond .lt 29, 3) := by decide +kernel
theorem zd_43_94 : decode prog_14_method_150_code 94 = .ok (.iload_n 3, 1) := by decide +kernel
theorem zd_43_95 : decode prog_14_method_150_code 95 = .ok (.ifCond .lt 11, 3) := by decide +kernel
theorem zd_43_106 : decode prog_14_method_150_code 106 = .ok (.aload_n 0, 1) := by decide +kernel
theorem zd_43_107 : decode prog_14_method_150_code 107 = .ok (.getfield 44, 3) := by decide +kernel
theorem zd_43_110 : decode prog_14_method_150_code 110 = .ok (.aload_n 0, 1) := by decide +kernel
theorem zd_43_111 : decode prog_14_method_150_code 111 = .ok (.getfield 1174, 3) := by decide +kernel
theorem zd_43_114 : decode prog_14_method_150_code 114 = .ok (.iaload, 1) := by decide +kernel
theorem zd_43_115 : decode prog_14_method_150_code 115 = .ok (.bipush 64, 2) := by decide +kernel
theorem zd_43_117 : decode prog_14_method_150_code 117 = .ok (.if_icmp .ne 12, 3) := by decide +kernel
theorem zd_43_129 : decode prog_14_method_150_code 129 = .ok (.aload_n 0, 1) := by decide +kernel
theorem zd_43_130 : decode prog_14_method_150_code 130 = .ok (.iload_n 2, 1) := by decide +kernel
theorem zd_43_131 : decode prog_14_method_150_code 131 = .ok (.iload_n 1, 1) := by decide +kernel
theorem zd_43_132 : decode prog_14_method_150_code 132 = .ok (.invokevirtual 1386, 3) := by decide +kernel
theorem zd_44_0 : decode prog_14_method_154_code 0 = .ok (.aload_n 0, 1) := by decide +kernel
theorem zd_44_1 : decode prog_14_method_154_code 1 = .ok (.invokevirtual 1254, 3) := by decide +kernel
theorem zd_44_4 : decode prog_14_method_154_code 4 = .ok (.istore_n 2, 1) := by decide +kernel
theorem zd_44_5 : decode prog_14_method_154_code 5 = .ok (.iload_n 1, 1) := by decide +kernel
theorem zd_44_6 : decode prog_14_method_154_code 6 = .ok (.bipush 66, 2) := by decide +kernel
theorem zd_44_8 : decode prog_14_method_154_code 8 = .ok (.if_icmp .eq 14, 3) := by decide +kernel
theorem zd_44_11 : decode prog_14_method_154_code 11 = .ok (.aload_n 0, 1) := by decide +kernel
theorem zd_44_12 : decode prog_14_method_154_code 12 = .ok (.bipush 44, 2) := by decide +kernel
theorem zd_44_14 : decode prog_14_method_154_code 14 = .ok (.invokevirtual 1269, 3) := by decide +kernel
theorem zd_44_17 : decode prog_14_method_154_code 17 = .ok (.aload_n 0, 1) := by decide +kernel
theorem zd_44_18 : decode prog_14_method_154_code 18 = .ok (.iconst 1, 1) := by decide +kernel
theorem zd_44_19 : decode prog_14_method_154_code 19 = .ok (.invokevirtual 1315, 3) := by decide +kernel
theorem zd_44_22 : decode prog_14_method_154_code 22 = .ok (.aload_n 0, 1) := by decide +kernel
theorem zd_44_23 : decode prog_14_method_154_code 23 = .ok (.invokevirtual 1336, 3) := by decide +kernel
theorem zd_44_26 : decode prog_14_method_154_code 26 = .ok (.aload_n 0, 1) := by decide +kernel
theorem zd_44_27 : decode prog_14_method_154_code 27 = .ok (.getfield 1228, 3) := by decide +kernel
theorem zd_44_30 : decode prog_14_method_154_code 30 = .ok (.ifCond .ne 11, 3) := by decide +kernel
theorem zd_44_41 : decode prog_14_method_154_code 41 = .ok (.iload_n 1, 1) := by decide +kernel
theorem zd_44_42 : decode prog_14_method_154_code 42 = .ok (.bipush 74, 2) := by decide +kernel
theorem zd_44_44 : decode prog_14_method_154_code 44 = .ok (.if_icmp .ne 11, 3) := by decide +kernel
theorem zd_44_55 : decode prog_14_method_154_code 55 = .ok (.iload_n 1, 1) := by decide +kernel
theorem zd_44_56 : decode prog_14_method_154_code 56 = .ok (.bipush 66, 2) := by decide +kernel
theorem zd_44_58 : decode prog_14_method_154_code 58 = .ok (.if_icmp .ne 42, 3) := by decide +kernel
theorem zd_44_61 : decode prog_14_method_154_code 61 = .ok (.aload_n 0, 1) := by decide +kernel
theorem zd_44_62 : decode prog_14_method_154_code 62 = .ok (.iload_n 2, 1) := by decide +kernel
theorem zd_44_63 : decode prog_14_method_154_code 63 = .ok (.invokevirtual 1407, 3) := by decide +kernel
theorem zd_44_66 : decode prog_14_method_154_code 66 = .ok (.ifCond .eq 219, 3) := by decide +kernel
theorem zd_44_69 : decode prog_14_method_154_code 69 = .ok (.aload_n 0, 1) := by decide +kernel
theorem zd_44_70 : decode prog_14_method_154_code 70 = .ok (.iload_n 2, 1) := by decide +kernel
theorem zd_44_71 : decode prog_14_method_154_code 71 = .ok (.invokevirtual 1395, 3) := by decide +kernel
theorem zd_44_74 : decode prog_14_method_154_code 74 = .ok (.ifCond .ne 211, 3) := by decide +kernel
theorem zd_44_77 : decode prog_14_method_154_code 77 = .ok (.aload_n 0, 1) := by decide +kernel
theorem zd_44_78 : decode prog_14_method_154_code 78 = .ok (.getfield 368, 3) := by decide +kernel
theorem zd_44_81 : decode prog_14_method_154_code 81 = .ok (.aload_n 0, 1) := by decide +kernel
theorem zd_44_82 : decode prog_14_method_154_code 82 = .ok (.getfield 1392, 3) := by decide +kernel
theorem zd_44_85 : decode prog_14_method_154_code 85 = .ok (.iload_n 2, 1) := by decide +kernel
theorem zd_44_86 : decode prog_14_method_154_code 86 = .ok (.iastore, 1) := by decide +kernel
theorem zd_44_87 : decode prog_14_method_154_code 87 = .ok (.aload_n 0, 1) := by decide +kernel
theorem zd_44_88 : decode prog_14_method_154_code 88 = .ok (.dup, 1) := by decide +kernel
theorem zd_44_89 : decode prog_14_method_154_code 89 = .ok (.getfield 1392, 3) := by decide +kernel
theorem zd_44_92 : decode prog_14_method_154_code 92 = .ok (.iconst 1, 1) := by decide +kernel
theorem zd_44_93 : decode prog_14_method_154_code 93 = .ok (.iadd, 1) := by decide +kernel
theorem zd_44_94 : decode prog_14_method_154_code 94 = .ok (.putfield 1392, 3) := by decide +kernel
theorem zd_44_97 : decode prog_14_method_154_code 97 = .ok (.goto 188, 3) := by decide +kernel
theorem zd_44_100 : decode prog_14_method_154_code 100 = .ok (.aload_n 0, 1) := by decide +kernel
theorem zd_44_101 : decode prog_14_method_154_code 101 = .ok (.getfield 431, 3) := by decide +kernel
theorem zd_44_104 : decode prog_14_method_154_code 104 = .ok (.iconst 0, 1) := by decide +kernel
theorem zd_44_105 : decode prog_14_method_154_code 105 = .ok (.iaload, 1) := by decide +kernel
theorem zd_44_106 : decode prog_14_method_154_code 106 = .ok (.iconst 0, 1) := by decide +kernel
theorem zd_44_107 : decode prog_14_method_154_code 107 = .ok (.bipush 15, 2) := by decide +kernel
theorem zd_44_109 : decode prog_14_method_154_code 109 = .ok (.invokestatic 504, 3) := by decide +kernel
theorem zd_44_112 : decode prog_14_method_154_code 112 = .ok (.ifCond .ne 11, 3) := by decide +kernel
theorem zd_44_123 : decode prog_14_method_154_code 123 = .ok (.iload_n 1, 1) := by decide +kernel
theorem zd_44_124 : decode prog_14_method_154_code 124 = .ok (.bipush 67, 2) := by decide +kernel
theorem zd_44_126 : decode prog_14_method_154_code 126 = .ok (.if_icmp .ne 74, 3) := by decide +kernel
theorem zd_44_200 : decode prog_14_method_154_code 200 = .ok (.aload_n 0, 1) := by decide +kernel
theorem zd_44_201 : decode prog_14_method_154_code 201 = .ok (.getfield 117, 3) := by decide +kernel
theorem zd_44_204 : decode prog_14_method_154_code 204 = .ok (.aload_n 0, 1) := by decide +kernel
theorem zd_44_205 : decode prog_14_method_154_code 205 = .ok (.getfield 1174, 3) := by decide +kernel
theorem zd_44_208 : decode prog_14_method_154_code 208 = .ok (.iaload, 1) := by decide +kernel
theorem zd_44_209 : decode prog_14_method_154_code 209 = .ok (.sipush 600, 3) := by decide +kernel
theorem zd_44_212 : decode prog_14_method_154_code 212 = .ok (.if_icmp .ne 12, 3) := by decide +kernel
theorem zd_44_224 : decode prog_14_method_154_code 224 = .ok (.sipush 600, 3) := by decide +kernel
theorem zd_44_227 : decode prog_14_method_154_code 227 = .ok (.aload_n 0, 1) := by decide +kernel
theorem zd_44_228 : decode prog_14_method_154_code 228 = .ok (.getfield 1174, 3) := by decide +kernel
theorem zd_44_231 : decode prog_14_method_154_code 231 = .ok (.imul, 1) := by decide +kernel
theorem zd_44_232 : decode prog_14_method_154_code 232 = .ok (.aload_n 0, 1) := by decide +kernel
theorem zd_44_233 : decode prog_14_method_154_code 233 = .ok (.getfield 117, 3) := by decide +kernel
theorem zd_44_236 : decode prog_14_method_154_code 236 = .ok (.aload_n 0, 1) := by decide +kernel
theorem zd_44_237 : decode prog_14_method_154_code 237 = .ok (.getfield 1174, 3) := by decide +kernel
theorem zd_44_240 : decode prog_14_method_154_code 240 = .ok (.iaload, 1) := by decide +kernel
theorem zd_44_241 : decode prog_14_method_154_code 241 = .ok (.iadd, 1) := by decide +kernel
theorem zd_44_242 : decode prog_14_method_154_code 242 = .ok (.istore_n 3, 1) := by decide +kernel
theorem zd_44_243 : decode prog_14_method_154_code 243 = .ok (.aload_n 0, 1) := by decide +kernel
theorem zd_44_244 : decode prog_14_method_154_code 244 = .ok (.getfield 120, 3) := by decide +kernel
theorem zd_44_247 : decode prog_14_method_154_code 247 = .ok (.iload_n 3, 1) := by decide +kernel
theorem zd_44_248 : decode prog_14_method_154_code 248 = .ok (.iload_n 2, 1) := by decide +kernel
theorem zd_44_249 : decode prog_14_method_154_code 249 = .ok (.iastore, 1) := by decide +kernel
theorem zd_44_250 : decode prog_14_method_154_code 250 = .ok (.aload_n 0, 1) := by decide +kernel
theorem zd_44_251 : decode prog_14_method_154_code 251 = .ok (.getfield 123, 3) := by decide +kernel
theorem zd_44_254 : decode prog_14_method_154_code 254 = .ok (.iload_n 3, 1) := by decide +kernel
theorem zd_44_255 : decode prog_14_method_154_code 255 = .ok (.aload_n 0, 1) := by decide +kernel
theorem zd_44_256 : decode prog_14_method_154_code 256 = .ok (.getfield 431, 3) := by decide +kernel
theorem zd_44_259 : decode prog_14_method_154_code 259 = .ok (.iconst 0, 1) := by decide +kernel
theorem zd_44_260 : decode prog_14_method_154_code 260 = .ok (.iaload, 1) := by decide +kernel
theorem zd_44_261 : decode prog_14_method_154_code 261 = .ok (.iastore, 1) := by decide +kernel
theorem zd_44_262 : decode prog_14_method_154_code 262 = .ok (.aload_n 0, 1) := by decide +kernel
theorem zd_44_263 : decode prog_14_method_154_code 263 = .ok (.getfield 126, 3) := by decide +kernel
theorem zd_44_266 : decode prog_14_method_154_code 266 = .ok (.iload_n 3, 1) := by decide +kernel
theorem zd_44_267 : decode prog_14_method_154_code 267 = .ok (.aload_n 0, 1) := by decide +kernel
theorem zd_44_268 : decode prog_14_method_154_code 268 = .ok (.getfield 1177, 3) := by decide +kernel
theorem zd_44_271 : decode prog_14_method_154_code 271 = .ok (.iastore, 1) := by decide +kernel
theorem zd_44_272 : decode prog_14_method_154_code 272 = .ok (.aload_n 0, 1) := by decide +kernel
theorem zd_44_273 : decode prog_14_method_154_code 273 = .ok (.getfield 117, 3) := by decide +kernel
theorem zd_44_276 : decode prog_14_method_154_code 276 = .ok (.aload_n 0, 1) := by decide +kernel
theorem zd_44_277 : decode prog_14_method_154_code 277 = .ok (.getfield 1174, 3) := by decide +kernel
theorem zd_44_280 : decode prog_14_method_154_code 280 = .ok (.dup2, 1) := by decide +kernel
theorem zd_44_281 : decode prog_14_method_154_code 281 = .ok (.iaload, 1) := by decide +kernel
theorem zd_44_282 : decode prog_14_method_154_code 282 = .ok (.iconst 1, 1) := by decide +kernel
theorem zd_44_283 : decode prog_14_method_154_code 283 = .ok (.iadd, 1) := by decide +kernel
theorem zd_44_284 : decode prog_14_method_154_code 284 = .ok (.iastore, 1) := by decide +kernel
theorem zd_45_0 : decode prog_14_method_135_code 0 = .ok (.iload_n 1, 1) := by decide +kernel
theorem zd_45_1 : decode prog_14_method_135_code 1 = .ok (.bipush 7, 2) := by decide +kernel
theorem zd_45_3 : decode prog_14_method_135_code 3 = .ok (.if_icmp .gt 42, 3) := by decide +kernel
theorem zd_45_45 : decode prog_14_method_135_code 45 = .ok (.iload_n 1, 1) := by decide +kernel
theorem zd_45_46 : decode prog_14_method_135_code 46 = .ok (.bipush 13, 2) := by decide +kernel
theorem zd_45_48 : decode prog_14_method_135_code 48 = .ok (.if_icmp .gt 56, 3) := by decide +kernel
theorem zd_45_104 : decode prog_14_method_135_code 104 = .ok (.iload_n 1, 1) := by decide +kernel
theorem zd_45_105 : decode prog_14_method_135_code 105 = .ok (.bipush 17, 2) := by decide +kernel
theorem zd_45_107 : decode prog_14_method_135_code 107 = .ok (.if_icmp .gt 28, 3) := by decide +kernel
theorem zd_45_135 : decode prog_14_method_135_code 135 = .ok (.iload_n 1, 1) := by decide +kernel
theorem zd_45_136 : decode prog_14_method_135_code 136 = .ok (.bipush 19, 2) := by decide +kernel
theorem zd_45_138 : decode prog_14_method_135_code 138 = .ok (.if_icmp .gt 14, 3) := by decide +kernel
theorem zd_45_152 : decode prog_14_method_135_code 152 = .ok (.iload_n 1, 1) := by decide +kernel
theorem zd_45_153 : decode prog_14_method_135_code 153 = .ok (.bipush 23, 2) := by decide +kernel
theorem zd_45_155 : decode prog_14_method_135_code 155 = .ok (.if_icmp .gt 14, 3) := by decide +kernel
theorem zd_45_169 : decode prog_14_method_135_code 169 = .ok (.iload_n 1, 1) := by decide +kernel
theorem zd_45_170 : decode prog_14_method_135_code 170 = .ok (.bipush 25, 2) := by decide +kernel
theorem zd_45_172 : decode prog_14_method_135_code 172 = .ok (.if_icmp .ne 11, 3) := by decide +kernel
theorem zd_45_175 : decode prog_14_method_135_code 175 = .ok (.aload_n 0, 1) := by decide +kernel
theorem zd_45_176 : decode prog_14_method_135_code 176 = .ok (.iconst 1, 1) := by decide +kernel
theorem zd_45_177 : decode prog_14_method_135_code 177 = .ok (.invokevirtual 1315, 3) := by decide +kernel
theorem zd_45_180 : decode prog_14_method_135_code 180 = .ok (.goto 131, 3) := by decide +kernel
theorem zd_45_183 : decode prog_14_method_135_code 183 = .ok (.iload_n 1, 1) := by decide +kernel
theorem zd_45_184 : decode prog_14_method_135_code 184 = .ok (.bipush 25, 2) := by decide +kernel
theorem zd_45_186 : decode prog_14_method_135_code 186 = .ok (.if_icmp .le 59, 3) := by decide +kernel
theorem zd_45_189 : decode prog_14_method_135_code 189 = .ok (.iload_n 1, 1) := by decide +kernel
theorem zd_45_190 : decode prog_14_method_135_code 190 = .ok (.bipush 31, 2) := by decide +kernel
theorem zd_45_192 : decode prog_14_method_135_code 192 = .ok (.if_icmp .gt 53, 3) := by decide +kernel
theorem zd_45_245 : decode prog_14_method_135_code 245 = .ok (.iload_n 1, 1) := by decide +kernel
theorem zd_45_246 : decode prog_14_method_135_code 246 = .ok (.bipush 32, 2) := by decide +kernel
theorem zd_45_248 : decode prog_14_method_135_code 248 = .ok (.if_icmp .ne 33, 3) := by decide +kernel
theorem zd_45_281 : decode prog_14_method_135_code 281 = .ok (.iload_n 1, 1) := by decide +kernel
theorem zd_45_282 : decode prog_14_method_135_code 282 = .ok (.bipush 33, 2) := by decide +kernel
theorem zd_45_284 : decode prog_14_method_135_code 284 = .ok (.if_icmp .lt 16, 3) := by decide +kernel
theorem zd_45_287 : decode prog_14_method_135_code 287 = .ok (.iload_n 1, 1) := by decide +kernel
theorem zd_45_288 : decode prog_14_method_135_code 288 = .ok (.bipush 40, 2) := by decide +kernel
theorem zd_45_290 : decode prog_14_method_135_code 290 = .ok (.if_icmp .gt 10, 3) := by decide +kernel
theorem zd_45_300 : decode prog_14_method_135_code 300 = .ok (.iload_n 1, 1) := by decide +kernel
theorem zd_45_301 : decode prog_14_method_135_code 301 = .ok (.bipush 41, 2) := by decide +kernel
theorem zd_45_303 : decode prog_14_method_135_code 303 = .ok (.if_icmp .lt 8, 3) := by decide +kernel
theorem zd_45_306 : decode prog_14_method_135_code 306 = .ok (.aload_n 0, 1) := by decide +kernel
theorem zd_45_307 : decode prog_14_method_135_code 307 = .ok (.iload_n 1, 1) := by decide +kernel
theorem zd_45_308 : decode prog_14_method_135_code 308 = .ok (.invokevirtual 1324, 3) := by decide +kernel
theorem zd_46_0 : decode prog_14_method_113_code 0 = .ok (.aload_n 0, 1) := by decide +kernel
theorem zd_46_1 : decode prog_14_method_113_code 1 = .ok (.invokevirtual 1225, 3) := by decide +kernel
theorem zd_46_4 : decode prog_14_method_113_code 4 = .ok (.aload_n 0, 1) := by decide +kernel
theorem zd_46_5 : decode prog_14_method_113_code 5 = .ok (.aload_n 0, 1) := by decide +kernel
theorem zd_46_6 : decode prog_14_method_113_code 6 = .ok (.getfield 1228, 3) := by decide +kernel
theorem zd_46_9 : decode prog_14_method_113_code 9 = .ok (.ifCond .eq 18, 3) := by decide +kernel
theorem zd_46_12 : decode prog_14_method_113_code 12 = .ok (.aload_n 0, 1) := by decide +kernel
theorem zd_46_13 : decode prog_14_method_113_code 13 = .ok (.getfield 1219, 3) := by decide +kernel
theorem zd_46_16 : decode prog_14_method_113_code 16 = .ok (.aload_n 0, 1) := by decide +kernel
theorem zd_46_17 : decode prog_14_method_113_code 17 = .ok (.getfield 1204, 3) := by decide +kernel
theorem zd_46_20 : decode prog_14_method_113_code 20 = .ok (.if_icmp .lt 7, 3) := by decide +kernel
theorem zd_46_23 : decode prog_14_method_113_code 23 = .ok (.iconst 1, 1) := by decide +kernel
theorem zd_46_24 : decode prog_14_method_113_code 24 = .ok (.goto 4, 3) := by decide +kernel
theorem zd_46_28 : decode prog_14_method_113_code 28 = .ok (.putfield 1228, 3) := by decide +kernel
theorem zd_47_0 : decode prog_14_method_138_code 0 = .ok (.aload_n 0, 1) := by decide +kernel
theorem zd_47_1 : decode prog_14_method_138_code 1 = .ok (.getfield 1260, 3) := by decide +kernel
theorem zd_47_4 : decode prog_14_method_138_code 4 = .ok (.ifCond .eq 21, 3) := by decide +kernel
theorem zd_47_7 : decode prog_14_method_138_code 7 = .ok (.aload_n 0, 1) := by decide +kernel
theorem zd_47_8 : decode prog_14_method_138_code 8 = .ok (.getfield 434, 3) := by decide +kernel
theorem zd_47_11 : decode prog_14_method_138_code 11 = .ok (.iconst 0, 1) := by decide +kernel
theorem zd_47_12 : decode prog_14_method_138_code 12 = .ok (.iaload, 1) := by decide +kernel
theorem zd_47_13 : decode prog_14_method_138_code 13 = .ok (.ifCond .ne 12, 3) := by decide +kernel
theorem zd_47_16 : decode prog_14_method_138_code 16 = .ok (.aload_n 0, 1) := by decide +kernel
theorem zd_47_17 : decode prog_14_method_138_code 17 = .ok (.getfield 440, 3) := by decide +kernel
theorem zd_47_20 : decode prog_14_method_138_code 20 = .ok (.iconst 0, 1) := by decide +kernel
theorem zd_47_21 : decode prog_14_method_138_code 21 = .ok (.iaload, 1) := by decide +kernel
theorem zd_47_22 : decode prog_14_method_138_code 22 = .ok (.ifCond .le 5, 3) := by decide +kernel
theorem zd_47_25 : decode prog_14_method_138_code 25 = .ok (.iconst 1, 1) := by decide +kernel
theorem zd_47_27 : decode prog_14_method_138_code 27 = .ok (.aload_n 0, 1) := by decide +kernel
theorem zd_47_28 : decode prog_14_method_138_code 28 = .ok (.getfield 431, 3) := by decide +kernel
theorem zd_47_31 : decode prog_14_method_138_code 31 = .ok (.iconst 0, 1) := by decide +kernel
theorem zd_47_32 : decode prog_14_method_138_code 32 = .ok (.iaload, 1) := by decide +kernel
theorem zd_47_33 : decode prog_14_method_138_code 33 = .ok (.istore_n 2, 1) := by decide +kernel
theorem zd_47_34 : decode prog_14_method_138_code 34 = .ok (.iload_n 1, 1) := by decide +kernel
theorem zd_47_35 : decode prog_14_method_138_code 35 = .ok (.bipush 8, 2) := by decide +kernel
theorem zd_47_37 : decode prog_14_method_138_code 37 = .ok (.if_icmp .lt 17, 3) := by decide +kernel
theorem zd_47_40 : decode prog_14_method_138_code 40 = .ok (.iload_n 1, 1) := by decide +kernel
theorem zd_47_41 : decode prog_14_method_138_code 41 = .ok (.bipush 10, 2) := by decide +kernel
theorem zd_47_43 : decode prog_14_method_138_code 43 = .ok (.if_icmp .gt 11, 3) := by decide +kernel
theorem zd_47_54 : decode prog_14_method_138_code 54 = .ok (.iload_n 1, 1) := by decide +kernel
theorem zd_47_55 : decode prog_14_method_138_code 55 = .ok (.bipush 25, 2) := by decide +kernel
theorem zd_47_57 : decode prog_14_method_138_code 57 = .ok (.if_icmp .ne 12, 3) := by decide +kernel
theorem zd_47_60 : decode prog_14_method_138_code 60 = .ok (.iload_n 2, 1) := by decide +kernel
theorem zd_47_61 : decode prog_14_method_138_code 61 = .ok (.iconst 0, 1) := by decide +kernel
theorem zd_47_62 : decode prog_14_method_138_code 62 = .ok (.sipush 1023, 3) := by decide +kernel
theorem zd_47_65 : decode prog_14_method_138_code 65 = .ok (.invokestatic 504, 3) := by decide +kernel
theorem zd_47_69 : decode prog_14_method_138_code 69 = .ok (.iload_n 1, 1) := by decide +kernel
theorem zd_47_70 : decode prog_14_method_138_code 70 = .ok (.bipush 26, 2) := by decide +kernel
theorem zd_47_72 : decode prog_14_method_138_code 72 = .ok (.if_icmp .lt 9, 3) := by decide +kernel
theorem zd_47_75 : decode prog_14_method_138_code 75 = .ok (.iload_n 1, 1) := by decide +kernel
theorem zd_47_76 : decode prog_14_method_138_code 76 = .ok (.bipush 28, 2) := by decide +kernel
theorem zd_47_78 : decode prog_14_method_138_code 78 = .ok (.if_icmp .le 15, 3) := by decide +kernel
theorem zd_47_81 : decode prog_14_method_138_code 81 = .ok (.iload_n 1, 1) := by decide +kernel
theorem zd_47_82 : decode prog_14_method_138_code 82 = .ok (.bipush 33, 2) := by decide +kernel
theorem zd_47_84 : decode prog_14_method_138_code 84 = .ok (.if_icmp .lt 20, 3) := by decide +kernel
theorem zd_47_87 : decode prog_14_method_138_code 87 = .ok (.iload_n 1, 1) := by decide +kernel
theorem zd_47_88 : decode prog_14_method_138_code 88 = .ok (.bipush 40, 2) := by decide +kernel
theorem zd_47_90 : decode prog_14_method_138_code 90 = .ok (.if_icmp .gt 14, 3) := by decide +kernel
theorem zd_47_104 : decode prog_14_method_138_code 104 = .ok (.iload_n 1, 1) := by decide +kernel
theorem zd_47_105 : decode prog_14_method_138_code 105 = .ok (.bipush 29, 2) := by decide +kernel
theorem zd_47_107 : decode prog_14_method_138_code 107 = .ok (.if_icmp .lt 20, 3) := by decide +kernel
theorem zd_47_110 : decode prog_14_method_138_code 110 = .ok (.iload_n 1, 1) := by decide +kernel
theorem zd_47_111 : decode prog_14_method_138_code 111 = .ok (.bipush 32, 2) := by decide +kernel
theorem zd_47_113 : decode prog_14_method_138_code 113 = .ok (.if_icmp .gt 14, 3) := by decide +kernel
theorem zd_47_127 : decode prog_14_method_138_code 127 = .ok (.iconst 1, 1) := by decide +kernel
theorem zd_47_128 : decode prog_14_method_138_code 128 = .ok (.goto 4, 3) := by decide +kernel
theorem zd_48_0 : decode prog_14_method_139_code 0 = .ok (.iconst 1, 1) := by decide +kernel
theorem zd_48_1 : decode prog_14_method_139_code 1 = .ok (.istore_n 1, 1) := by decide +kernel
theorem zd_48_2 : decode prog_14_method_139_code 2 = .ok (.iconst 0, 1) := by decide +kernel
theorem zd_48_3 : decode prog_14_method_139_code 3 = .ok (.istore_n 2, 1) := by decide +kernel
theorem zd_48_4 : decode prog_14_method_139_code 4 = .ok (.iload_n 2, 1) := by decide +kernel
theorem zd_48_5 : decode prog_14_method_139_code 5 = .ok (.aload_n 0, 1) := by decide +kernel
theorem zd_48_6 : decode prog_14_method_139_code 6 = .ok (.getfield 1260, 3) := by decide +kernel
theorem zd_48_9 : decode prog_14_method_139_code 9 = .ok (.if_icmp .ge 43, 3) := by decide +kernel
theorem zd_48_12 : decode prog_14_method_139_code 12 = .ok (.iload_n 1, 1) := by decide +kernel
theorem zd_48_13 : decode prog_14_method_139_code 13 = .ok (.ifCond .eq 31, 3) := by decide +kernel
theorem zd_48_16 : decode prog_14_method_139_code 16 = .ok (.aload_n 0, 1) := by decide +kernel
theorem zd_48_17 : decode prog_14_method_139_code 17 = .ok (.getfield 434, 3) := by decide +kernel
theorem zd_48_20 : decode prog_14_method_139_code 20 = .ok (.iload_n 2, 1) := by decide +kernel
theorem zd_48_21 : decode prog_14_method_139_code 21 = .ok (.iaload, 1) := by decide +kernel
theorem zd_48_22 : decode prog_14_method_139_code 22 = .ok (.iconst 2, 1) := by decide +kernel
theorem zd_48_23 : decode prog_14_method_139_code 23 = .ok (.if_icmp .ne 17, 3) := by decide +kernel
theorem zd_48_40 : decode prog_14_method_139_code 40 = .ok (.iconst 1, 1) := by decide +kernel
theorem zd_48_41 : decode prog_14_method_139_code 41 = .ok (.goto 4, 3) := by decide +kernel
theorem zd_48_45 : decode prog_14_method_139_code 45 = .ok (.istore_n 1, 1) := by decide +kernel
theorem zd_48_46 : decode prog_14_method_139_code 46 = .ok (.iinc 2 1, 3) := by decide +kernel
theorem zd_48_49 : decode prog_14_method_139_code 49 = .ok (.goto (-45), 3) := by decide +kernel
theorem zd_48_52 : decode prog_14_method_139_code 52 = .ok (.iload_n 1, 1) := by decide +kernel
theorem zd_49_0 : decode prog_14_method_146_code 0 = .ok (.iload_n 1, 1) := by decide +kernel
theorem zd_49_1 : decode prog_14_method_146_code 1 = .ok (.tableswitch 556 41 59 #[91, 91, 134, 134, 166, 166, 203, 203, 242, 242, 272, 283, 321, 359, 397, 404, 488, 512, 512], 91) := by decide +kernel
theorem zd_49_243 : decode prog_14_method_146_code 243 = .ok (.aload_n 0, 1) := by decide +kernel
theorem zd_49_244 : decode prog_14_method_146_code 244 = .ok (.aload_n 0, 1) := by decide +kernel
theorem zd_49_245 : decode prog_14_method_146_code 245 = .ok (.getfield 289, 3) := by decide +kernel
theorem zd_49_248 : decode prog_14_method_146_code 248 = .ok (.iload_n 1, 1) := by decide +kernel
theorem zd_49_249 : decode prog_14_method_146_code 249 = .ok (.iaload, 1) := by decide +kernel
theorem zd_49_250 : decode prog_14_method_146_code 250 = .ok (.bipush 26, 2) := by decide +kernel
theorem zd_49_252 : decode prog_14_method_146_code 252 = .ok (.ishl, 1) := by decide +kernel
theorem zd_49_253 : decode prog_14_method_146_code 253 = .ok (.iconst 0, 1) := by decide +kernel
theorem zd_49_254 : decode prog_14_method_146_code 254 = .ok (.iload_n 1, 1) := by decide +kernel
theorem zd_49_255 : decode prog_14_method_146_code 255 = .ok (.bipush 50, 2) := by decide +kernel
theorem zd_49_257 : decode prog_14_method_146_code 257 = .ok (.if_icmp .ne 7, 3) := by decide +kernel
theorem zd_49_260 : decode prog_14_method_146_code 260 = .ok (.iconst 1, 1) := by decide +kernel
theorem zd_49_261 : decode prog_14_method_146_code 261 = .ok (.goto 4, 3) := by decide +kernel
theorem zd_49_265 : decode prog_14_method_146_code 265 = .ok (.iconst 0, 1) := by decide +kernel
theorem zd_49_266 : decode prog_14_method_146_code 266 = .ok (.iconst 3, 1) := by decide +kernel
theorem zd_49_267 : decode prog_14_method_146_code 267 = .ok (.invokevirtual 1358, 3) := by decide +kernel
theorem zd_49_270 : decode prog_14_method_146_code 270 = .ok (.goto 393, 3) := by decide +kernel
theorem zd_49_284 : decode prog_14_method_146_code 284 = .ok (.aload_n 0, 1) := by decide +kernel
theorem zd_49_285 : decode prog_14_method_146_code 285 = .ok (.aload_n 0, 1) := by decide +kernel
theorem zd_49_286 : decode prog_14_method_146_code 286 = .ok (.getfield 1309, 3) := by decide +kernel
theorem zd_49_289 : decode prog_14_method_146_code 289 = .ok (.iconst 0, 1) := by decide +kernel
theorem zd_49_290 : decode prog_14_method_146_code 290 = .ok (.aload_n 0, 1) := by decide +kernel
theorem zd_49_291 : decode prog_14_method_146_code 291 = .ok (.getfield 1306, 3) := by decide +kernel
theorem zd_49_294 : decode prog_14_method_146_code 294 = .ok (.iconst 0, 1) := by decide +kernel
theorem zd_49_295 : decode prog_14_method_146_code 295 = .ok (.aload_n 0, 1) := by decide +kernel
theorem zd_49_296 : decode prog_14_method_146_code 296 = .ok (.getfield 289, 3) := by decide +kernel
theorem zd_49_299 : decode prog_14_method_146_code 299 = .ok (.iconst 0, 1) := by decide +kernel
theorem zd_49_300 : decode prog_14_method_146_code 300 = .ok (.iaload, 1) := by decide +kernel
theorem zd_49_301 : decode prog_14_method_146_code 301 = .ok (.invokestatic 1354, 3) := by decide +kernel
theorem zd_49_304 : decode prog_14_method_146_code 304 = .ok (.aload_n 0, 1) := by decide +kernel
theorem zd_49_305 : decode prog_14_method_146_code 305 = .ok (.getfield 1309, 3) := by decide +kernel
theorem zd_49_308 : decode prog_14_method_146_code 308 = .ok (.invokestatic 1293, 3) := by decide +kernel
theorem zd_49_311 : decode prog_14_method_146_code 311 = .ok (.aload_n 0, 1) := by decide +kernel
theorem zd_49_312 : decode prog_14_method_146_code 312 = .ok (.getfield 1306, 3) := by decide +kernel
theorem zd_49_315 : decode prog_14_method_146_code 315 = .ok (.iconst 1, 1) := by decide +kernel
theorem zd_49_316 : decode prog_14_method_146_code 316 = .ok (.invokevirtual 1362, 3) := by decide +kernel
theorem zd_49_319 : decode prog_14_method_146_code 319 = .ok (.goto 344, 3) := by decide +kernel
theorem zd_49_398 : decode prog_14_method_146_code 398 = .ok (.aload_n 0, 1) := by decide +kernel
theorem zd_49_399 : decode prog_14_method_146_code 399 = .ok (.invokevirtual 1373, 3) := by decide +kernel
theorem zd_49_402 : decode prog_14_method_146_code 402 = .ok (.goto 261, 3) := by decide +kernel
theorem zd_50_0 : decode prog_14_method_141_code 0 = .ok (.aload_n 0, 1) := by decide +kernel
theorem zd_50_1 : decode prog_14_method_141_code 1 = .ok (.getfield 289, 3) := by decide +kernel
theorem zd_50_4 : decode prog_14_method_141_code 4 = .ok (.iload_n 1, 1) := by decide +kernel
theorem zd_50_5 : decode prog_14_method_141_code 5 = .ok (.iaload, 1) := by decide +kernel
theorem zd_50_6 : decode prog_14_method_141_code 6 = .ok (.istore_n 2, 1) := by decide +kernel
theorem zd_50_7 : decode prog_14_method_141_code 7 = .ok (.iload_n 1, 1) := by decide +kernel
theorem zd_50_8 : decode prog_14_method_141_code 8 = .ok (.bipush 22, 2) := by decide +kernel
theorem zd_50_10 : decode prog_14_method_141_code 10 = .ok (.if_icmp .eq 9, 3) := by decide +kernel
theorem zd_50_13 : decode prog_14_method_141_code 13 = .ok (.iload_n 1, 1) := by decide +kernel
theorem zd_50_14 : decode prog_14_method_141_code 14 = .ok (.bipush 23, 2) := by decide +kernel
theorem zd_50_16 : decode prog_14_method_141_code 16 = .ok (.if_icmp .ne 52, 3) := by decide +kernel
theorem zd_50_68 : decode prog_14_method_141_code 68 = .ok (.iload_n 1, 1) := by decide +kernel
theorem zd_50_69 : decode prog_14_method_141_code 69 = .ok (.bipush 24, 2) := by decide +kernel
theorem zd_50_71 : decode prog_14_method_141_code 71 = .ok (.if_icmp .eq 9, 3) := by decide +kernel
theorem zd_50_74 : decode prog_14_method_141_code 74 = .ok (.iload_n 1, 1) := by decide +kernel
theorem zd_50_75 : decode prog_14_method_141_code 75 = .ok (.bipush 25, 2) := by decide +kernel
theorem zd_50_77 : decode prog_14_method_141_code 77 = .ok (.if_icmp .ne 34, 3) := by decide +kernel
theorem zd_50_80 : decode prog_14_method_141_code 80 = .ok (.aload_n 0, 1) := by decide +kernel
theorem zd_50_81 : decode prog_14_method_141_code 81 = .ok (.iload_n 1, 1) := by decide +kernel
theorem zd_50_82 : decode prog_14_method_141_code 82 = .ok (.bipush 25, 2) := by decide +kernel
theorem zd_50_84 : decode prog_14_method_141_code 84 = .ok (.if_icmp .ne 17, 3) := by decide +kernel
theorem zd_50_87 : decode prog_14_method_141_code 87 = .ok (.aload_n 0, 1) := by decide +kernel
theorem zd_50_88 : decode prog_14_method_141_code 88 = .ok (.getfield 431, 3) := by decide +kernel
theorem zd_50_91 : decode prog_14_method_141_code 91 = .ok (.iconst 0, 1) := by decide +kernel
theorem zd_50_92 : decode prog_14_method_141_code 92 = .ok (.iaload, 1) := by decide +kernel
theorem zd_50_93 : decode prog_14_method_141_code 93 = .ok (.bipush 16, 2) := by decide +kernel
theorem zd_50_95 : decode prog_14_method_141_code 95 = .ok (.ishl, 1) := by decide +kernel
theorem zd_50_96 : decode prog_14_method_141_code 96 = .ok (.iload_n 2, 1) := by decide +kernel
theorem zd_50_97 : decode prog_14_method_141_code 97 = .ok (.ior, 1) := by decide +kernel
theorem zd_50_98 : decode prog_14_method_141_code 98 = .ok (.goto 4, 3) := by decide +kernel
theorem zd_50_101 : decode prog_14_method_141_code 101 = .ok (.iload_n 2, 1) := by decide +kernel
theorem zd_50_102 : decode prog_14_method_141_code 102 = .ok (.iconst 0, 1) := by decide +kernel
theorem zd_50_103 : decode prog_14_method_141_code 103 = .ok (.iconst 0, 1) := by decide +kernel
theorem zd_50_104 : decode prog_14_method_141_code 104 = .ok (.iconst 0, 1) := by decide +kernel
theorem zd_50_105 : decode prog_14_method_141_code 105 = .ok (.invokevirtual 1362, 3) := by decide +kernel
theorem zd_50_108 : decode prog_14_method_141_code 108 = .ok (.goto 94, 3) := by decide +kernel
theorem zd_51_0 : decode prog_14_method_153_code 0 = .ok (.aload_n 0, 1) := by decide +kernel
theorem zd_51_1 : decode prog_14_method_153_code 1 = .ok (.iload_n 1, 1) := by decide +kernel
theorem zd_51_2 : decode prog_14_method_153_code 2 = .ok (.invokevirtual 1395, 3) := by decide +kernel
theorem zd_51_5 : decode prog_14_method_153_code 5 = .ok (.ifCond .ne 39, 3) := by decide +kernel
theorem zd_51_8 : decode prog_14_method_153_code 8 = .ok (.aload_n 0, 1) := by decide +kernel
theorem zd_51_9 : decode prog_14_method_153_code 9 = .ok (.iload_n 1, 1) := by decide +kernel
theorem zd_51_10 : decode prog_14_method_153_code 10 = .ok (.invokevirtual 1398, 3) := by decide +kernel
theorem zd_51_13 : decode prog_14_method_153_code 13 = .ok (.ifCond .ge 31, 3) := by decide +kernel
theorem zd_51_16 : decode prog_14_method_153_code 16 = .ok (.aload_n 0, 1) := by decide +kernel
theorem zd_51_17 : decode prog_14_method_153_code 17 = .ok (.getfield 1401, 3) := by decide +kernel
theorem zd_51_20 : decode prog_14_method_153_code 20 = .ok (.sipush 600, 3) := by decide +kernel
theorem zd_51_23 : decode prog_14_method_153_code 23 = .ok (.if_icmp .ne 11, 3) := by decide +kernel
theorem zd_51_34 : decode prog_14_method_153_code 34 = .ok (.aload_n 0, 1) := by decide +kernel
theorem zd_51_35 : decode prog_14_method_153_code 35 = .ok (.dup, 1) := by decide +kernel
theorem zd_51_36 : decode prog_14_method_153_code 36 = .ok (.getfield 1401, 3) := by decide +kernel
theorem zd_51_39 : decode prog_14_method_153_code 39 = .ok (.iconst 1, 1) := by decide +kernel
theorem zd_51_40 : decode prog_14_method_153_code 40 = .ok (.iadd, 1) := by decide +kernel
theorem zd_51_41 : decode prog_14_method_153_code 41 = .ok (.putfield 1401, 3) := by decide +kernel
theorem zd_51_44 : decode prog_14_method_153_code 44 = .ok (.iconst 1, 1) := by decide +kernel
theorem zd_52_0 : decode prog_14_method_111_code 0 = .ok (.aload_n 0, 1) := by decide +kernel
theorem zd_52_1 : decode prog_14_method_111_code 1 = .ok (.invokevirtual 1225, 3) := by decide +kernel
theorem zd_52_4 : decode prog_14_method_111_code 4 = .ok (.aload_n 0, 1) := by decide +kernel
theorem zd_52_5 : decode prog_14_method_111_code 5 = .ok (.aload_n 0, 1) := by decide +kernel
theorem zd_52_6 : decode prog_14_method_111_code 6 = .ok (.getfield 1228, 3) := by decide +kernel
theorem zd_52_9 : decode prog_14_method_111_code 9 = .ok (.ifCond .eq 15, 3) := by decide +kernel
theorem zd_52_12 : decode prog_14_method_111_code 12 = .ok (.aload_n 0, 1) := by decide +kernel
theorem zd_52_13 : decode prog_14_method_111_code 13 = .ok (.invokevirtual 1222, 3) := by decide +kernel
theorem zd_52_16 : decode prog_14_method_111_code 16 = .ok (.iload_n 1, 1) := by decide +kernel
theorem zd_52_17 : decode prog_14_method_111_code 17 = .ok (.if_icmp .ne 7, 3) := by decide +kernel
theorem zd_52_20 : decode prog_14_method_111_code 20 = .ok (.iconst 1, 1) := by decide +kernel
theorem zd_52_21 : decode prog_14_method_111_code 21 = .ok (.goto 4, 3) := by decide +kernel
theorem zd_52_25 : decode prog_14_method_111_code 25 = .ok (.putfield 1228, 3) := by decide +kernel
theorem zd_52_28 : decode prog_14_method_111_code 28 = .ok (.aload_n 0, 1) := by decide +kernel
theorem zd_52_29 : decode prog_14_method_111_code 29 = .ok (.dup, 1) := by decide +kernel
theorem zd_52_30 : decode prog_14_method_111_code 30 = .ok (.getfield 1219, 3) := by decide +kernel
theorem zd_52_33 : decode prog_14_method_111_code 33 = .ok (.iconst 1, 1) := by decide +kernel
theorem zd_52_34 : decode prog_14_method_111_code 34 = .ok (.iadd, 1) := by decide +kernel
theorem zd_52_35 : decode prog_14_method_111_code 35 = .ok (.putfield 1219, 3) := by decide +kernel
theorem zd_53_0 : decode prog_14_method_121_code 0 = .ok (.aload_n 0, 1) := by decide +kernel
theorem zd_53_1 : decode prog_14_method_121_code 1 = .ok (.invokevirtual 1263, 3) := by decide +kernel
theorem zd_53_4 : decode prog_14_method_121_code 4 = .ok (.aload_n 0, 1) := by decide +kernel
theorem zd_53_5 : decode prog_14_method_121_code 5 = .ok (.aload_n 0, 1) := by decide +kernel
theorem zd_53_6 : decode prog_14_method_121_code 6 = .ok (.getfield 1228, 3) := by decide +kernel
theorem zd_53_9 : decode prog_14_method_121_code 9 = .ok (.ifCond .eq 36, 3) := by decide +kernel
theorem zd_53_12 : decode prog_14_method_121_code 12 = .ok (.iload_n 1, 1) := by decide +kernel
theorem zd_53_13 : decode prog_14_method_121_code 13 = .ok (.ifCond .eq 28, 3) := by decide +kernel
theorem zd_53_16 : decode prog_14_method_121_code 16 = .ok (.iload_n 1, 1) := by decide +kernel
theorem zd_53_17 : decode prog_14_method_121_code 17 = .ok (.iconst 1, 1) := by decide +kernel
theorem zd_53_18 : decode prog_14_method_121_code 18 = .ok (.if_icmp .ne 7, 3) := by decide +kernel
theorem zd_53_21 : decode prog_14_method_121_code 21 = .ok (.iconst 1, 1) := by decide +kernel
theorem zd_53_22 : decode prog_14_method_121_code 22 = .ok (.goto 4, 3) := by decide +kernel
theorem zd_53_25 : decode prog_14_method_121_code 25 = .ok (.iconst 0, 1) := by decide +kernel
theorem zd_53_26 : decode prog_14_method_121_code 26 = .ok (.aload_n 0, 1) := by decide +kernel
theorem zd_53_27 : decode prog_14_method_121_code 27 = .ok (.getfield 1234, 3) := by decide +kernel
theorem zd_53_30 : decode prog_14_method_121_code 30 = .ok (.ifCond .ne 7, 3) := by decide +kernel
theorem zd_53_33 : decode prog_14_method_121_code 33 = .ok (.iconst 1, 1) := by decide +kernel
theorem zd_53_34 : decode prog_14_method_121_code 34 = .ok (.goto 4, 3) := by decide +kernel
theorem zd_53_37 : decode prog_14_method_121_code 37 = .ok (.iconst 0, 1) := by decide +kernel
theorem zd_53_38 : decode prog_14_method_121_code 38 = .ok (.if_icmp .ne 7, 3) := by decide +kernel
theorem zd_53_41 : decode prog_14_method_121_code 41 = .ok (.iconst 1, 1) := by decide +kernel
theorem zd_53_42 : decode prog_14_method_121_code 42 = .ok (.goto 4, 3) := by decide +kernel
theorem zd_53_46 : decode prog_14_method_121_code 46 = .ok (.putfield 1228, 3) := by decide +kernel
theorem zd_53_49 : decode prog_14_method_121_code 49 = .ok (.aload_n 0, 1) := by decide +kernel
theorem zd_53_50 : decode prog_14_method_121_code 50 = .ok (.iconst 0, 1) := by decide +kernel
theorem zd_53_51 : decode prog_14_method_121_code 51 = .ok (.invokevirtual 1266, 3) := by decide +kernel
theorem zd_54_0 : decode prog_14_method_137_code 0 = .ok (.iload_n 1, 1) := by decide +kernel
theorem zd_54_1 : decode prog_14_method_137_code 1 = .ok (.tableswitch 211 41 63 #[107, 107, 211, 211, 211, 211, 211, 211, 143, 143, 151, 154, 154, 154, 179, 179, 143, 211, 211, 107, 107, 107, 107], 107) := by decide +kernel
theorem zd_54_144 : decode prog_14_method_137_code 144 = .ok (.aload_n 0, 1) := by decide +kernel
theorem zd_54_145 : decode prog_14_method_137_code 145 = .ok (.iconst 2, 1) := by decide +kernel
theorem zd_54_146 : decode prog_14_method_137_code 146 = .ok (.invokevirtual 1315, 3) := by decide +kernel
theorem zd_54_149 : decode prog_14_method_137_code 149 = .ok (.goto 82, 3) := by decide +kernel
theorem zd_54_155 : decode prog_14_method_137_code 155 = .ok (.aload_n 0, 1) := by decide +kernel
theorem zd_54_156 : decode prog_14_method_137_code 156 = .ok (.aload_n 0, 1) := by decide +kernel
theorem zd_54_157 : decode prog_14_method_137_code 157 = .ok (.invokevirtual 1303, 3) := by decide +kernel
theorem zd_54_160 : decode prog_14_method_137_code 160 = .ok (.putfield 1306, 3) := by decide +kernel
theorem zd_54_163 : decode prog_14_method_137_code 163 = .ok (.aload_n 0, 1) := by decide +kernel
theorem zd_54_164 : decode prog_14_method_137_code 164 = .ok (.bipush 44, 2) := by decide +kernel
theorem zd_54_166 : decode prog_14_method_137_code 166 = .ok (.invokevirtual 1269, 3) := by decide +kernel
theorem zd_54_169 : decode prog_14_method_137_code 169 = .ok (.aload_n 0, 1) := by decide +kernel
theorem zd_54_170 : decode prog_14_method_137_code 170 = .ok (.aload_n 0, 1) := by decide +kernel
theorem zd_54_171 : decode prog_14_method_137_code 171 = .ok (.invokevirtual 1303, 3) := by decide +kernel
theorem zd_54_174 : decode prog_14_method_137_code 174 = .ok (.putfield 1309, 3) := by decide +kernel
theorem zd_54_177 : decode prog_14_method_137_code 177 = .ok (.goto 54, 3) := by decide +kernel
theorem zd_54_180 : decode prog_14_method_137_code 180 = .ok (.aload_n 0, 1) := by decide +kernel
theorem zd_54_181 : decode prog_14_method_137_code 181 = .ok (.aload_n 0, 1) := by decide +kernel
theorem zd_54_182 : decode prog_14_method_137_code 182 = .ok (.invokevirtual 1303, 3) := by decide +kernel
theorem zd_54_185 : decode prog_14_method_137_code 185 = .ok (.putfield 1312, 3) := by decide +kernel
theorem zd_54_188 : decode prog_14_method_137_code 188 = .ok (.aload_n 0, 1) := by decide +kernel
theorem zd_54_189 : decode prog_14_method_137_code 189 = .ok (.bipush 44, 2) := by decide +kernel
theorem zd_54_191 : decode prog_14_method_137_code 191 = .ok (.invokevirtual 1269, 3) := by decide +kernel
theorem zd_54_194 : decode prog_14_method_137_code 194 = .ok (.aload_n 0, 1) := by decide +kernel
theorem zd_54_195 : decode prog_14_method_137_code 195 = .ok (.iload_n 1, 1) := by decide +kernel
theorem zd_54_196 : decode prog_14_method_137_code 196 = .ok (.bipush 55, 2) := by decide +kernel
theorem zd_54_198 : decode prog_14_method_137_code 198 = .ok (.if_icmp .ne 7, 3) := by decide +kernel
theorem zd_54_201 : decode prog_14_method_137_code 201 = .ok (.iconst 1, 1) := by decide +kernel
theorem zd_54_202 : decode prog_14_method_137_code 202 = .ok (.goto 4, 3) := by decide +kernel
theorem zd_54_206 : decode prog_14_method_137_code 206 = .ok (.invokevirtual 1315, 3) := by decide +kernel
theorem zd_54_209 : decode prog_14_method_137_code 209 = .ok (.goto 22, 3) := by decide +kernel
theorem zd_55_0 : decode prog_14_method_129_code 0 = .ok (.aload_n 0, 1) := by decide +kernel
theorem zd_55_1 : decode prog_14_method_129_code 1 = .ok (.invokevirtual 1290, 3) := by decide +kernel
theorem zd_55_4 : decode prog_14_method_129_code 4 = .ok (.istore 6, 2) := by decide +kernel
theorem zd_55_6 : decode prog_14_method_129_code 6 = .ok (.aload_n 0, 1) := by decide +kernel
theorem zd_55_7 : decode prog_14_method_129_code 7 = .ok (.getfield 1287, 3) := by decide +kernel
theorem zd_55_10 : decode prog_14_method_129_code 10 = .ok (.ifCond .eq 33, 3) := by decide +kernel
theorem zd_55_13 : decode prog_14_method_129_code 13 = .ok (.aload_n 0, 1) := by decide +kernel
theorem zd_55_14 : decode prog_14_method_129_code 14 = .ok (.getfield 386, 3) := by decide +kernel
theorem zd_55_17 : decode prog_14_method_129_code 17 = .ok (.aload_n 0, 1) := by decide +kernel
theorem zd_55_18 : decode prog_14_method_129_code 18 = .ok (.getfield 1272, 3) := by decide +kernel
theorem zd_55_21 : decode prog_14_method_129_code 21 = .ok (.baload, 1) := by decide +kernel
theorem zd_55_22 : decode prog_14_method_129_code 22 = .ok (.ifCond .eq 21, 3) := by decide +kernel
theorem zd_55_43 : decode prog_14_method_129_code 43 = .ok (.iconst 0, 1) := by decide +kernel
theorem zd_55_44 : decode prog_14_method_129_code 44 = .ok (.istore 7, 2) := by decide +kernel
theorem zd_55_46 : decode prog_14_method_129_code 46 = .ok (.iload 7, 2) := by decide +kernel
theorem zd_55_48 : decode prog_14_method_129_code 48 = .ok (.ifCond .eq 24, 3) := by decide +kernel
theorem zd_55_72 : decode prog_14_method_129_code 72 = .ok (.iconst 0, 1) := by decide +kernel
theorem zd_55_73 : decode prog_14_method_129_code 73 = .ok (.istore 7, 2) := by decide +kernel
theorem zd_55_75 : decode prog_14_method_129_code 75 = .ok (.iload 7, 2) := by decide +kernel
theorem zd_55_77 : decode prog_14_method_129_code 77 = .ok (.ifCond .eq 43, 3) := by decide +kernel
theorem zd_55_120 : decode prog_14_method_129_code 120 = .ok (.iconst 0, 1) := by decide +kernel
theorem zd_55_121 : decode prog_14_method_129_code 121 = .ok (.istore 7, 2) := by decide +kernel
theorem zd_55_123 : decode prog_14_method_129_code 123 = .ok (.aload_n 0, 1) := by decide +kernel
theorem zd_55_124 : decode prog_14_method_129_code 124 = .ok (.getfield 386, 3) := by decide +kernel
theorem zd_55_127 : decode prog_14_method_129_code 127 = .ok (.aload_n 0, 1) := by decide +kernel
theorem zd_55_128 : decode prog_14_method_129_code 128 = .ok (.getfield 1272, 3) := by decide +kernel
theorem zd_55_131 : decode prog_14_method_129_code 131 = .ok (.iconst 0, 1) := by decide +kernel
theorem zd_55_132 : decode prog_14_method_129_code 132 = .ok (.bastore, 1) := by decide +kernel
theorem zd_55_133 : decode prog_14_method_129_code 133 = .ok (.iload 7, 2) := by decide +kernel
theorem zd_55_135 : decode prog_14_method_129_code 135 = .ok (.ifCond .eq 132, 3) := by decide +kernel
theorem zd_55_267 : decode prog_14_method_129_code 267 = .ok (.iload 4, 2) := by decide +kernel
theorem zd_55_269 : decode prog_14_method_129_code 269 = .ok (.ifCond .lt 13, 3) := by decide +kernel
theorem zd_55_272 : decode prog_14_method_129_code 272 = .ok (.aload_n 0, 1) := by decide +kernel
theorem zd_55_273 : decode prog_14_method_129_code 273 = .ok (.iload 4, 2) := by decide +kernel
theorem zd_55_275 : decode prog_14_method_129_code 275 = .ok (.iload 5, 2) := by decide +kernel
theorem zd_55_277 : decode prog_14_method_129_code 277 = .ok (.iload 6, 2) := by decide +kernel
theorem zd_55_279 : decode prog_14_method_129_code 279 = .ok (.invokevirtual 1296, 3) := by decide +kernel
theorem zd_55_282 : decode prog_14_method_129_code 282 = .ok (.aload_n 0, 1) := by decide +kernel
theorem zd_55_283 : decode prog_14_method_129_code 283 = .ok (.iload_n 1, 1) := by decide +kernel
theorem zd_55_284 : decode prog_14_method_129_code 284 = .ok (.invokevirtual 1284, 3) := by decide +kernel
theorem zd_55_287 : decode prog_14_method_129_code 287 = .ok (.aload_n 0, 1) := by decide +kernel
theorem zd_55_288 : decode prog_14_method_129_code 288 = .ok (.getfield 1287, 3) := by decide +kernel
theorem zd_55_291 : decode prog_14_method_129_code 291 = .ok (.ifCond .eq 8, 3) := by decide +kernel
theorem zd_55_294 : decode prog_14_method_129_code 294 = .ok (.aload_n 0, 1) := by decide +kernel
theorem zd_55_295 : decode prog_14_method_129_code 295 = .ok (.iconst 0, 1) := by decide +kernel
theorem zd_55_296 : decode prog_14_method_129_code 296 = .ok (.invokevirtual 1284, 3) := by decide +kernel
theorem zd_56_0 : decode prog_14_method_133_code 0 = .ok (.iload_n 0, 1) := by decide +kernel
theorem zd_56_1 : decode prog_14_method_133_code 1 = .ok (.bipush 21, 2) := by decide +kernel
theorem zd_56_3 : decode prog_14_method_133_code 3 = .ok (.ishl, 1) := by decide +kernel
theorem zd_56_4 : decode prog_14_method_133_code 4 = .ok (.iload_n 1, 1) := by decide +kernel
theorem zd_56_5 : decode prog_14_method_133_code 5 = .ok (.bipush 16, 2) := by decide +kernel
theorem zd_56_7 : decode prog_14_method_133_code 7 = .ok (.ishl, 1) := by decide +kernel
theorem zd_56_8 : decode prog_14_method_133_code 8 = .ok (.ior, 1) := by decide +kernel
theorem zd_56_9 : decode prog_14_method_133_code 9 = .ok (.iload_n 2, 1) := by decide +kernel
theorem zd_56_10 : decode prog_14_method_133_code 10 = .ok (.bipush 11, 2) := by decide +kernel
theorem zd_56_12 : decode prog_14_method_133_code 12 = .ok (.ishl, 1) := by decide +kernel
theorem zd_56_13 : decode prog_14_method_133_code 13 = .ok (.ior, 1) := by decide +kernel
theorem zd_56_14 : decode prog_14_method_133_code 14 = .ok (.iload_n 3, 1) := by decide +kernel
theorem zd_56_15 : decode prog_14_method_133_code 15 = .ok (.bipush 6, 2) := by decide +kernel
theorem zd_56_17 : decode prog_14_method_133_code 17 = .ok (.ishl, 1) := by decide +kernel
theorem zd_56_18 : decode prog_14_method_133_code 18 = .ok (.ior, 1) := by decide +kernel
theorem zd_56_19 : decode prog_14_method_133_code 19 = .ok (.iload 4, 2) := by decide +kernel
theorem zd_56_21 : decode prog_14_method_133_code 21 = .ok (.ior, 1) := by decide +kernel
theorem zd_57_0 : decode prog_14_method_128_code 0 = .ok (.iload_n 0, 1) := by decide +kernel
theorem zd_57_1 : decode prog_14_method_128_code 1 = .ok (.ifCond .ne 7, 3) := by decide +kernel
theorem zd_57_8 : decode prog_14_method_128_code 8 = .ok (.iconst 1, 1) := by decide +kernel
theorem zd_57_9 : decode prog_14_method_128_code 9 = .ok (.iload_n 0, 1) := by decide +kernel
theorem zd_57_10 : decode prog_14_method_128_code 10 = .ok (.ishl, 1) := by decide +kernel
theorem zd_58_0 : decode prog_14_method_127_code 0 = .ok (.aload_n 0, 1) := by decide +kernel
theorem zd_58_1 : decode prog_14_method_127_code 1 = .ok (.getfield 1275, 3) := by decide +kernel
theorem zd_58_4 : decode prog_14_method_127_code 4 = .ok (.istore 5, 2) := by decide +kernel
theorem zd_58_6 : decode prog_14_method_127_code 6 = .ok (.aload_n 0, 1) := by decide +kernel
theorem zd_58_7 : decode prog_14_method_127_code 7 = .ok (.iload_n 1, 1) := by decide +kernel
theorem zd_58_8 : decode prog_14_method_127_code 8 = .ok (.invokevirtual 1284, 3) := by decide +kernel
theorem zd_58_11 : decode prog_14_method_127_code 11 = .ok (.aload_n 0, 1) := by decide +kernel
theorem zd_58_12 : decode prog_14_method_127_code 12 = .ok (.getfield 386, 3) := by decide +kernel
theorem zd_58_15 : decode prog_14_method_127_code 15 = .ok (.aload_n 0, 1) := by decide +kernel
theorem zd_58_16 : decode prog_14_method_127_code 16 = .ok (.getfield 1272, 3) := by decide +kernel
theorem zd_58_19 : decode prog_14_method_127_code 19 = .ok (.aload_n 0, 1) := by decide +kernel
theorem zd_58_20 : decode prog_14_method_127_code 20 = .ok (.getfield 1287, 3) := by decide +kernel
theorem zd_58_23 : decode prog_14_method_127_code 23 = .ok (.ifCond .eq 12, 3) := by decide +kernel
theorem zd_58_26 : decode prog_14_method_127_code 26 = .ok (.iload 4, 2) := by decide +kernel
theorem zd_58_28 : decode prog_14_method_127_code 28 = .ok (.ifCond .eq 7, 3) := by decide +kernel
theorem zd_58_31 : decode prog_14_method_127_code 31 = .ok (.iconst 1, 1) := by decide +kernel
theorem zd_58_32 : decode prog_14_method_127_code 32 = .ok (.goto 4, 3) := by decide +kernel
theorem zd_58_35 : decode prog_14_method_127_code 35 = .ok (.iconst 0, 1) := by decide +kernel
theorem zd_58_36 : decode prog_14_method_127_code 36 = .ok (.bastore, 1) := by decide +kernel
theorem zd_58_37 : decode prog_14_method_127_code 37 = .ok (.aload_n 0, 1) := by decide +kernel
theorem zd_58_38 : decode prog_14_method_127_code 38 = .ok (.getfield 389, 3) := by decide +kernel
theorem zd_58_41 : decode prog_14_method_127_code 41 = .ok (.aload_n 0, 1) := by decide +kernel
theorem zd_58_42 : decode prog_14_method_127_code 42 = .ok (.getfield 1272, 3) := by decide +kernel
theorem zd_58_45 : decode prog_14_method_127_code 45 = .ok (.iload 5, 2) := by decide +kernel
theorem zd_58_47 : decode prog_14_method_127_code 47 = .ok (.iastore, 1) := by decide +kernel
theorem zd_58_48 : decode prog_14_method_127_code 48 = .ok (.aload_n 0, 1) := by decide +kernel
theorem zd_58_49 : decode prog_14_method_127_code 49 = .ok (.getfield 392, 3) := by decide +kernel
theorem zd_58_52 : decode prog_14_method_127_code 52 = .ok (.aload_n 0, 1) := by decide +kernel
theorem zd_58_53 : decode prog_14_method_127_code 53 = .ok (.getfield 1272, 3) := by decide +kernel
theorem zd_58_56 : decode prog_14_method_127_code 56 = .ok (.iload_n 2, 1) := by decide +kernel
theorem zd_58_57 : decode prog_14_method_127_code 57 = .ok (.iastore, 1) := by decide +kernel
theorem zd_58_58 : decode prog_14_method_127_code 58 = .ok (.aload_n 0, 1) := by decide +kernel
theorem zd_58_59 : decode prog_14_method_127_code 59 = .ok (.getfield 395, 3) := by decide +kernel
theorem zd_58_62 : decode prog_14_method_127_code 62 = .ok (.aload_n 0, 1) := by decide +kernel
theorem zd_58_63 : decode prog_14_method_127_code 63 = .ok (.getfield 1272, 3) := by decide +kernel
theorem zd_58_66 : decode prog_14_method_127_code 66 = .ok (.iload_n 3, 1) := by decide +kernel
theorem zd_58_67 : decode prog_14_method_127_code 67 = .ok (.iastore, 1) := by decide +kernel
theorem zd_58_68 : decode prog_14_method_127_code 68 = .ok (.aload_n 0, 1) := by decide +kernel
theorem zd_58_69 : decode prog_14_method_127_code 69 = .ok (.getfield 398, 3) := by decide +kernel
theorem zd_58_72 : decode prog_14_method_127_code 72 = .ok (.aload_n 0, 1) := by decide +kernel
theorem zd_58_73 : decode prog_14_method_127_code 73 = .ok (.getfield 1272, 3) := by decide +kernel
theorem zd_58_76 : decode prog_14_method_127_code 76 = .ok (.iload_n 1, 1) := by decide +kernel
theorem zd_58_77 : decode prog_14_method_127_code 77 = .ok (.iastore, 1) := by decide +kernel
theorem zd_59_0 : decode prog_14_method_144_code 0 = .ok (.aload_n 0, 1) := by decide +kernel
theorem zd_59_1 : decode prog_14_method_144_code 1 = .ok (.getfield 431, 3) := by decide +kernel
theorem zd_59_4 : decode prog_14_method_144_code 4 = .ok (.iconst 0, 1) := by decide +kernel
theorem zd_59_5 : decode prog_14_method_144_code 5 = .ok (.iaload, 1) := by decide +kernel
theorem zd_59_6 : decode prog_14_method_144_code 6 = .ok (.istore_n 1, 1) := by decide +kernel
theorem zd_59_7 : decode prog_14_method_144_code 7 = .ok (.iload_n 1, 1) := by decide +kernel
theorem zd_59_8 : decode prog_14_method_144_code 8 = .ok (.sipush (-32768), 3) := by decide +kernel
theorem zd_59_11 : decode prog_14_method_144_code 11 = .ok (.sipush 32767, 3) := by decide +kernel
theorem zd_59_14 : decode prog_14_method_144_code 14 = .ok (.invokestatic 504, 3) := by decide +kernel
theorem zd_59_17 : decode prog_14_method_144_code 17 = .ok (.ifCond .eq 32, 3) := by decide +kernel
theorem zd_59_20 : decode prog_14_method_144_code 20 = .ok (.aload_n 0, 1) := by decide +kernel
theorem zd_59_21 : decode prog_14_method_144_code 21 = .ok (.aload_n 0, 1) := by decide +kernel
theorem zd_59_22 : decode prog_14_method_144_code 22 = .ok (.getfield 289, 3) := by decide +kernel
theorem zd_59_25 : decode prog_14_method_144_code 25 = .ok (.bipush 26, 2) := by decide +kernel
theorem zd_59_27 : decode prog_14_method_144_code 27 = .ok (.iaload, 1) := by decide +kernel
theorem zd_59_28 : decode prog_14_method_144_code 28 = .ok (.iconst 0, 1) := by decide +kernel
theorem zd_59_29 : decode prog_14_method_144_code 29 = .ok (.aload_n 0, 1) := by decide +kernel
theorem zd_59_30 : decode prog_14_method_144_code 30 = .ok (.getfield 1312, 3) := by decide +kernel
theorem zd_59_33 : decode prog_14_method_144_code 33 = .ok (.iload_n 1, 1) := by decide +kernel
theorem zd_59_34 : decode prog_14_method_144_code 34 = .ok (.invokestatic 1366, 3) := by decide +kernel
theorem zd_59_37 : decode prog_14_method_144_code 37 = .ok (.iconst 0, 1) := by decide +kernel
theorem zd_59_38 : decode prog_14_method_144_code 38 = .ok (.aload_n 0, 1) := by decide +kernel
theorem zd_59_39 : decode prog_14_method_144_code 39 = .ok (.getfield 1312, 3) := by decide +kernel
theorem zd_59_42 : decode prog_14_method_144_code 42 = .ok (.iconst 1, 1) := by decide +kernel
theorem zd_59_43 : decode prog_14_method_144_code 43 = .ok (.invokevirtual 1362, 3) := by decide +kernel
theorem zd_59_46 : decode prog_14_method_144_code 46 = .ok (.goto 115, 3) := by decide +kernel
