/-! decode rows, by program -/
theorem zd_253_105 : decode prog_14_method_141_code 105 = .ok (.invokevirtual 1362, 3) := by decide +kernel
theorem zd_253_108 : decode prog_14_method_141_code 108 = .ok (.goto 94, 3) := by decide +kernel
theorem zd_254_0 : decode prog_36_method_27_code 0 = .ok (.iload_n 0, 1) := by decide +kernel
theorem zd_254_1 : decode prog_36_method_27_code 1 = .ok (.iload_n 1, 1) := by decide +kernel
theorem zd_254_2 : decode prog_36_method_27_code 2 = .ok (.iload_n 2, 1) := by decide +kernel
theorem zd_254_3 : decode prog_36_method_27_code 3 = .ok (.invokestatic 194, 3) := by decide +kernel
theorem zd_254_6 : decode prog_36_method_27_code 6 = .ok (.iadd, 1) := by decide +kernel
theorem zd_254_7 : decode prog_36_method_27_code 7 = .ok (.istore_n 3, 1) := by decide +kernel
theorem zd_254_8 : decode prog_36_method_27_code 8 = .ok (.iconst 0, 1) := by decide +kernel
theorem zd_254_9 : decode prog_36_method_27_code 9 = .ok (.iload_n 3, 1) := by decide +kernel
theorem zd_254_10 : decode prog_36_method_27_code 10 = .ok (.if_icmp .ge 11, 3) := by decide +kernel
theorem zd_254_13 : decode prog_36_method_27_code 13 = .ok (.iload_n 3, 1) := by decide +kernel
theorem zd_254_14 : decode prog_36_method_27_code 14 = .ok (.ldc 200, 2) := by decide +kernel
theorem zd_254_16 : decode prog_36_method_27_code 16 = .ok (.if_icmp .gt 5, 3) := by decide +kernel
theorem zd_254_19 : decode prog_36_method_27_code 19 = .ok (.iload_n 3, 1) := by decide +kernel
theorem zd_255_0 : decode prog_29_method_22_code 0 = .ok (.iload_n 1, 1) := by decide +kernel
theorem zd_255_1 : decode prog_29_method_22_code 1 = .ok (.invokestatic 88, 3) := by decide +kernel
theorem zd_255_4 : decode prog_29_method_22_code 4 = .ok (.ifCond .ne 5, 3) := by decide +kernel
theorem zd_255_9 : decode prog_29_method_22_code 9 = .ok (.iload_n 2, 1) := by decide +kernel
theorem zd_255_10 : decode prog_29_method_22_code 10 = .ok (.iconst 0, 1) := by decide +kernel
theorem zd_255_11 : decode prog_29_method_22_code 11 = .ok (.invokestatic 92, 3) := by decide +kernel
theorem zd_255_14 : decode prog_29_method_22_code 14 = .ok (.istore_n 2, 1) := by decide +kernel
theorem zd_255_15 : decode prog_29_method_22_code 15 = .ok (.iload_n 3, 1) := by decide +kernel
theorem zd_255_16 : decode prog_29_method_22_code 16 = .ok (.aload_n 0, 1) := by decide +kernel
theorem zd_255_17 : decode prog_29_method_22_code 17 = .ok (.arraylength, 1) := by decide +kernel
theorem zd_255_18 : decode prog_29_method_22_code 18 = .ok (.invokestatic 38, 3) := by decide +kernel
theorem zd_255_21 : decode prog_29_method_22_code 21 = .ok (.istore_n 3, 1) := by decide +kernel
theorem zd_255_22 : decode prog_29_method_22_code 22 = .ok (.iload_n 2, 1) := by decide +kernel
theorem zd_255_23 : decode prog_29_method_22_code 23 = .ok (.iload_n 3, 1) := by decide +kernel
theorem zd_255_24 : decode prog_29_method_22_code 24 = .ok (.if_icmp .lt 5, 3) := by decide +kernel
theorem zd_255_29 : decode prog_29_method_22_code 29 = .ok (.aload_n 0, 1) := by decide +kernel
theorem zd_255_30 : decode prog_29_method_22_code 30 = .ok (.iload_n 1, 1) := by decide +kernel
theorem zd_255_31 : decode prog_29_method_22_code 31 = .ok (.iload_n 2, 1) := by decide +kernel
theorem zd_255_32 : decode prog_29_method_22_code 32 = .ok (.iload_n 3, 1) := by decide +kernel
theorem zd_255_33 : decode prog_29_method_22_code 33 = .ok (.invokestatic 95, 3) := by decide +kernel
theorem zd_256_0 : decode prog_34_method_30_code 0 = .ok (.iload_n 1, 1) := by decide +kernel
theorem zd_256_1 : decode prog_34_method_30_code 1 = .ok (.iload_n 2, 1) := by decide +kernel
theorem zd_256_2 : decode prog_34_method_30_code 2 = .ok (.if_icmp .le 44, 3) := by decide +kernel
theorem zd_256_46 : decode prog_34_method_30_code 46 = .ok (.iload_n 1, 1) := by decide +kernel
theorem zd_256_47 : decode prog_34_method_30_code 47 = .ok (.ifCond .ge 12, 3) := by decide +kernel
theorem zd_256_59 : decode prog_34_method_30_code 59 = .ok (.iload_n 2, 1) := by decide +kernel
theorem zd_256_60 : decode prog_34_method_30_code 60 = .ok (.iload_n 0, 1) := by decide +kernel
theorem zd_256_61 : decode prog_34_method_30_code 61 = .ok (.if_icmp .le 12, 3) := by decide +kernel
theorem zd_257_0 : decode prog_14_method_153_code 0 = .ok (.aload_n 0, 1) := by decide +kernel
theorem zd_257_1 : decode prog_14_method_153_code 1 = .ok (.iload_n 1, 1) := by decide +kernel
theorem zd_257_2 : decode prog_14_method_153_code 2 = .ok (.invokevirtual 1395, 3) := by decide +kernel
theorem zd_257_5 : decode prog_14_method_153_code 5 = .ok (.ifCond .ne 39, 3) := by decide +kernel
theorem zd_257_8 : decode prog_14_method_153_code 8 = .ok (.aload_n 0, 1) := by decide +kernel
theorem zd_257_9 : decode prog_14_method_153_code 9 = .ok (.iload_n 1, 1) := by decide +kernel
theorem zd_257_10 : decode prog_14_method_153_code 10 = .ok (.invokevirtual 1398, 3) := by decide +kernel
theorem zd_257_13 : decode prog_14_method_153_code 13 = .ok (.ifCond .ge 31, 3) := by decide +kernel
theorem zd_257_16 : decode prog_14_method_153_code 16 = .ok (.aload_n 0, 1) := by decide +kernel
theorem zd_257_17 : decode prog_14_method_153_code 17 = .ok (.getfield 1401, 3) := by decide +kernel
theorem zd_257_20 : decode prog_14_method_153_code 20 = .ok (.sipush 600, 3) := by decide +kernel
theorem zd_257_23 : decode prog_14_method_153_code 23 = .ok (.if_icmp .ne 11, 3) := by decide +kernel
theorem zd_257_34 : decode prog_14_method_153_code 34 = .ok (.aload_n 0, 1) := by decide +kernel
theorem zd_257_35 : decode prog_14_method_153_code 35 = .ok (.dup, 1) := by decide +kernel
theorem zd_257_36 : decode prog_14_method_153_code 36 = .ok (.getfield 1401, 3) := by decide +kernel
theorem zd_257_39 : decode prog_14_method_153_code 39 = .ok (.iconst 1, 1) := by decide +kernel
theorem zd_257_40 : decode prog_14_method_153_code 40 = .ok (.iadd, 1) := by decide +kernel
theorem zd_257_41 : decode prog_14_method_153_code 41 = .ok (.putfield 1401, 3) := by decide +kernel
theorem zd_257_44 : decode prog_14_method_153_code 44 = .ok (.iconst 1, 1) := by decide +kernel
theorem zd_258_0 : decode prog_14_method_111_code 0 = .ok (.aload_n 0, 1) := by decide +kernel
theorem zd_258_1 : decode prog_14_method_111_code 1 = .ok (.invokevirtual 1225, 3) := by decide +kernel
theorem zd_258_4 : decode prog_14_method_111_code 4 = .ok (.aload_n 0, 1) := by decide +kernel
theorem zd_258_5 : decode prog_14_method_111_code 5 = .ok (.aload_n 0, 1) := by decide +kernel
theorem zd_258_6 : decode prog_14_method_111_code 6 = .ok (.getfield 1228, 3) := by decide +kernel
theorem zd_258_9 : decode prog_14_method_111_code 9 = .ok (.ifCond .eq 15, 3) := by decide +kernel
theorem zd_258_12 : decode prog_14_method_111_code 12 = .ok (.aload_n 0, 1) := by decide +kernel
theorem zd_258_13 : decode prog_14_method_111_code 13 = .ok (.invokevirtual 1222, 3) := by decide +kernel
theorem zd_258_16 : decode prog_14_method_111_code 16 = .ok (.iload_n 1, 1) := by decide +kernel
theorem zd_258_17 : decode prog_14_method_111_code 17 = .ok (.if_icmp .ne 7, 3) := by decide +kernel
theorem zd_258_20 : decode prog_14_method_111_code 20 = .ok (.iconst 1, 1) := by decide +kernel
theorem zd_258_21 : decode prog_14_method_111_code 21 = .ok (.goto 4, 3) := by decide +kernel
theorem zd_258_25 : decode prog_14_method_111_code 25 = .ok (.putfield 1228, 3) := by decide +kernel
theorem zd_258_28 : decode prog_14_method_111_code 28 = .ok (.aload_n 0, 1) := by decide +kernel
theorem zd_258_29 : decode prog_14_method_111_code 29 = .ok (.dup, 1) := by decide +kernel
theorem zd_258_30 : decode prog_14_method_111_code 30 = .ok (.getfield 1219, 3) := by decide +kernel
theorem zd_258_33 : decode prog_14_method_111_code 33 = .ok (.iconst 1, 1) := by decide +kernel
theorem zd_258_34 : decode prog_14_method_111_code 34 = .ok (.iadd, 1) := by decide +kernel
theorem zd_258_35 : decode prog_14_method_111_code 35 = .ok (.putfield 1219, 3) := by decide +kernel
theorem zd_259_0 : decode prog_14_method_121_code 0 = .ok (.aload_n 0, 1) := by decide +kernel
theorem zd_259_1 : decode prog_14_method_121_code 1 = .ok (.invokevirtual 1263, 3) := by decide +kernel
theorem zd_259_4 : decode prog_14_method_121_code 4 = .ok (.aload_n 0, 1) := by decide +kernel
theorem zd_259_5 : decode prog_14_method_121_code 5 = .ok (.aload_n 0, 1) := by decide +kernel
theorem zd_259_6 : decode prog_14_method_121_code 6 = .ok (.getfield 1228, 3) := by decide +kernel
theorem zd_259_9 : decode prog_14_method_121_code 9 = .ok (.ifCond .eq 36, 3) := by decide +kernel
theorem zd_259_12 : decode prog_14_method_121_code 12 = .ok (.iload_n 1, 1) := by decide +kernel
theorem zd_259_13 : decode prog_14_method_121_code 13 = .ok (.ifCond .eq 28, 3) := by decide +kernel
theorem zd_259_16 : decode prog_14_method_121_code 16 = .ok (.iload_n 1, 1) := by decide +kernel
theorem zd_259_17 : decode prog_14_method_121_code 17 = .ok (.iconst 1, 1) := by decide +kernel
theorem zd_259_18 : decode prog_14_method_121_code 18 = .ok (.if_icmp .ne 7, 3) := by decide +kernel
theorem zd_259_21 : decode prog_14_method_121_code 21 = .ok (.iconst 1, 1) := by decide +kernel
theorem zd_259_22 : decode prog_14_method_121_code 22 = .ok (.goto 4, 3) := by decide +kernel
theorem zd_259_25 : decode prog_14_method_121_code 25 = .ok (.iconst 0, 1) := by decide +kernel
theorem zd_259_26 : decode prog_14_method_121_code 26 = .ok (.aload_n 0, 1) := by decide +kernel
theorem zd_259_27 : decode prog_14_method_121_code 27 = .ok (.getfield 1234, 3) := by decide +kernel
theorem zd_259_30 : decode prog_14_method_121_code 30 = .ok (.ifCond .ne 7, 3) := by decide +kernel
theorem zd_259_33 : decode prog_14_method_121_code 33 = .ok (.iconst 1, 1) := by decide +kernel
theorem zd_259_34 : decode prog_14_method_121_code 34 = .ok (.goto 4, 3) := by decide +kernel
theorem zd_259_37 : decode prog_14_method_121_code 37 = .ok (.iconst 0, 1) := by decide +kernel
theorem zd_259_38 : decode prog_14_method_121_code 38 = .ok (.if_icmp .ne 7, 3) := by decide +kernel
theorem zd_259_41 : decode prog_14_method_121_code 41 = .ok (.iconst 1, 1) := by decide +kernel
theorem zd_259_42 : decode prog_14_method_121_code 42 = .ok (.goto 4, 3) := by decide +kernel
theorem zd_259_46 : decode prog_14_method_121_code 46 = .ok (.putfield 1228, 3) := by decide +kernel
theorem zd_259_49 : decode prog_14_method_121_code 49 = .ok (.aload_n 0, 1) := by decide +kernel
theorem zd_259_50 : decode prog_14_method_121_code 50 = .ok (.iconst 0, 1) := by decide +kernel
theorem zd_259_51 : decode prog_14_method_121_code 51 = .ok (.invokevirtual 1266, 3) := by decide +kernel
theorem zd_260_0 : decode prog_14_method_137_code 0 = .ok (.iload_n 1, 1) := by decide +kernel
theorem zd_260_1 : decode prog_14_method_137_code 1 = .ok (.tableswitch 211 41 63 #[107, 107, 211, 211, 211, 211, 211, 211, 143, 143, 151, 154, 154, 154, 179, 179, 143, 211, 211, 107, 107, 107, 107], 107) := by decide +kernel
theorem zd_260_144 : decode prog_14_method_137_code 144 = .ok (.aload_n 0, 1) := by decide +kernel
theorem zd_260_145 : decode prog_14_method_137_code 145 = .ok (.iconst 2, 1) := by decide +kernel
theorem zd_260_146 : decode prog_14_method_137_code 146 = .ok (.invokevirtual 1315, 3) := by decide +kernel
theorem zd_260_149 : decode prog_14_method_137_code 149 = .ok (.goto 82, 3) := by decide +kernel
theorem zd_260_155 : decode prog_14_method_137_code 155 = .ok (.aload_n 0, 1) := by decide +kernel
theorem zd_260_156 : decode prog_14_method_137_code 156 = .ok (.aload_n 0, 1) := by decide +kernel
theorem zd_260_157 : decode prog_14_method_137_code 157 = .ok (.invokevirtual 1303, 3) := by decide +kernel
theorem zd_260_160 : decode prog_14_method_137_code 160 = .ok (.putfield 1306, 3) := by decide +kernel
theorem zd_260_163 : decode prog_14_method_137_code 163 = .ok (.aload_n 0, 1) := by decide +kernel
theorem zd_260_164 : decode prog_14_method_137_code 164 = .ok (.bipush 44, 2) := by decide +kernel
theorem zd_260_166 : decode prog_14_method_137_code 166 = .ok (.invokevirtual 1269, 3) := by decide +kernel
theorem zd_260_169 : decode prog_14_method_137_code 169 = .ok (.aload_n 0, 1) := by decide +kernel
theorem zd_260_170 : decode prog_14_method_137_code 170 = .ok (.aload_n 0, 1) := by decide +kernel
theorem zd_260_171 : decode prog_14_method_137_code 171 = .ok (.invokevirtual 1303, 3) := by decide +kernel
theorem zd_260_174 : decode prog_14_method_137_code 174 = .ok (.putfield 1309, 3) := by decide +kernel
theorem zd_260_177 : decode prog_14_method_137_code 177 = .ok (.goto 54, 3) := by decide +kernel
theorem zd_260_180 : decode prog_14_method_137_code 180 = .ok (.aload_n 0, 1) := by decide +kernel
theorem zd_260_181 : decode prog_14_method_137_code 181 = .ok (.aload_n 0, 1) := by decide +kernel
theorem zd_260_182 : decode prog_14_method_137_code 182 = .ok (.invokevirtual 1303, 3) := by decide +kernel
theorem zd_260_185 : decode prog_14_method_137_code 185 = .ok (.putfield 1312, 3) := by decide +kernel
theorem zd_260_188 : decode prog_14_method_137_code 188 = .ok (.aload_n 0, 1) := by decide +kernel
theorem zd_260_189 : decode prog_14_method_137_code 189 = .ok (.bipush 44, 2) := by decide +kernel
theorem zd_260_191 : decode prog_14_method_137_code 191 = .ok (.invokevirtual 1269, 3) := by decide +kernel
theorem zd_260_194 : decode prog_14_method_137_code 194 = .ok (.aload_n 0, 1) := by decide +kernel
theorem zd_260_195 : decode prog_14_method_137_code 195 = .ok (.iload_n 1, 1) := by decide +kernel
theorem zd_260_196 : decode prog_14_method_137_code 196 = .ok (.bipush 55, 2) := by decide +kernel
theorem zd_260_198 : decode prog_14_method_137_code 198 = .ok (.if_icmp .ne 7, 3) := by decide +kernel
theorem zd_260_201 : decode prog_14_method_137_code 201 = .ok (.iconst 1, 1) := by decide +kernel
theorem zd_260_202 : decode prog_14_method_137_code 202 = .ok (.goto 4, 3) := by decide +kernel
theorem zd_260_206 : decode prog_14_method_137_code 206 = .ok (.invokevirtual 1315, 3) := by decide +kernel
theorem zd_260_209 : decode prog_14_method_137_code 209 = .ok (.goto 22, 3) := by decide +kernel
theorem zd_261_0 : decode prog_14_method_129_code 0 = .ok (.aload_n 0, 1) := by decide +kernel
theorem zd_261_1 : decode prog_14_method_129_code 1 = .ok (.invokevirtual 1290, 3) := by decide +kernel
theorem zd_261_4 : decode prog_14_method_129_code 4 = .ok (.istore 6, 2) := by decide +kernel
theorem zd_261_6 : decode prog_14_method_129_code 6 = .ok (.aload_n 0, 1) := by decide +kernel
theorem zd_261_7 : decode prog_14_method_129_code 7 = .ok (.getfield 1287, 3) := by decide +kernel
theorem zd_261_10 : decode prog_14_method_129_code 10 = .ok (.ifCond .eq 33, 3) := by decide +kernel
theorem zd_261_13 : decode prog_14_method_129_code 13 = .ok (.aload_n 0, 1) := by decide +kernel
theorem zd_261_14 : decode prog_14_method_129_code 14 = .ok (.getfield 386, 3) := by decide +kernel
theorem zd_261_17 : decode prog_14_method_129_code 17 = .ok (.aload_n 0, 1) := by decide +kernel
theorem zd_261_18 : decode prog_14_method_129_code 18 = .ok (.getfield 1272, 3) := by decide +kernel
theorem zd_261_21 : decode prog_14_method_129_code 21 = .ok (.baload, 1) := by decide +kernel
theorem zd_261_22 : decode prog_14_method_129_code 22 = .ok (.ifCond .eq 21, 3) := by decide +kernel
theorem zd_261_43 : decode prog_14_method_129_code 43 = .ok (.iconst 0, 1) := by decide +kernel
theorem zd_261_44 : decode prog_14_method_129_code 44 = .ok (.istore 7, 2) := by decide +kernel
theorem zd_261_46 : decode prog_14_method_129_code 46 = .ok (.iload 7, 2) := by decide +kernel
theorem zd_261_48 : decode prog_14_method_129_code 48 = .ok (.ifCond .eq 24, 3) := by decide +kernel
theorem zd_261_72 : decode prog_14_method_129_code 72 = .ok (.iconst 0, 1) := by decide +kernel
theorem zd_261_73 : decode prog_14_method_129_code 73 = .ok (.istore 7, 2) := by decide +kernel
theorem zd_261_75 : decode prog_14_method_129_code 75 = .ok (.iload 7, 2) := by decide +kernel
theorem zd_261_77 : decode prog_14_method_129_code 77 = .ok (.ifCond .eq 43, 3) := by decide +kernel
theorem zd_261_120 : decode prog_14_method_129_code 120 = .ok (.iconst 0, 1) := by decide +kernel
theorem zd_261_121 : decode prog_14_method_129_code 121 = .ok (.istore 7, 2) := by decide +kernel
theorem zd_261_123 : decode prog_14_method_129_code 123 = .ok (.aload_n 0, 1) := by decide +kernel
theorem zd_261_124 : decode prog_14_method_129_code 124 = .ok (.getfield 386, 3) := by decide +kernel
theorem zd_261_127 : decode prog_14_method_129_code 127 = .ok (.aload_n 0, 1) := by decide +kernel
theorem zd_261_128 : decode prog_14_method_129_code 128 = .ok (.getfield 1272, 3) := by decide +kernel
theorem zd_261_131 : decode prog_14_method_129_code 131 = .ok (.iconst 0, 1) := by decide +kernel
theorem zd_261_132 : decode prog_14_method_129_code 132 = .ok (.bastore, 1) := by decide +kernel
theorem zd_261_133 : decode prog_14_method_129_code 133 = .ok (.iload 7, 2) := by decide +kernel
theorem zd_261_135 : decode prog_14_method_129_code 135 = .ok (.ifCond .eq 132, 3) := by decide +kernel
theorem zd_261_267 : decode prog_14_method_129_code 267 = .ok (.iload 4, 2) := by decide +kernel
theorem zd_261_269 : decode prog_14_method_129_code 269 = .ok (.ifCond .lt 13, 3) := by decide +kernel
theorem zd_261_272 : decode prog_14_method_129_code 272 = .ok (.aload_n 0, 1) := by decide +kernel
theorem zd_261_273 : decode prog_14_method_129_code 273 = .ok (.iload 4, 2) := by decide +kernel
theorem zd_261_275 : decode prog_14_method_129_code 275 = .ok (.iload 5, 2) := by decide +kernel
theorem zd_261_277 : decode prog_14_method_129_code 277 = .ok (.iload 6, 2) := by decide +kernel
theorem zd_261_279 : decode prog_14_method_129_code 279 = .ok (.invokevirtual 1296, 3) := by decide +kernel
theorem zd_261_282 : decode prog_14_method_129_code 282 = .ok (.aload_n 0, 1) := by decide +kernel
theorem zd_261_283 : decode prog_14_method_129_code 283 = .ok (.iload_n 1, 1) := by decide +kernel
theorem zd_261_284 : decode prog_14_method_129_code 284 = .ok (.invokevirtual 1284, 3) := by decide +kernel
theorem zd_261_287 : decode prog_14_method_129_code 287 = .ok (.aload_n 0, 1) := by decide +kernel
theorem zd_261_288 : decode prog_14_method_129_code 288 = .ok (.getfield 1287, 3) := by decide +kernel
theorem zd_261_291 : decode prog_14_method_129_code 291 = .ok (.ifCond .eq 8, 3) := by decide +kernel
theorem zd_261_294 : decode prog_14_method_129_code 294 = .ok (.aload_n 0, 1) := by decide +kernel
theorem zd_261_295 : decode prog_14_method_129_code 295 = .ok (.iconst 0, 1) := by decide +kernel
theorem zd_261_296 : decode prog_14_method_129_code 296 = .ok (.invokevirtual 1284, 3) := by decide +kernel
theorem zd_262_0 : decode prog_14_method_133_code 0 = .ok (.iload_n 0, 1) := by decide +kernel
theorem zd_262_1 : decode prog_14_method_133_code 1 = .ok (.bipush 21, 2) := by decide +kernel
theorem zd_262_3 : decode prog_14_method_133_code 3 = .ok (.ishl, 1) := by decide +kernel
theorem zd_262_4 : decode prog_14_method_133_code 4 = .ok (.iload_n 1, 1) := by decide +kernel
theorem zd_262_5 : decode prog_14_method_133_code 5 = .ok (.bipush 16, 2) := by decide +kernel
theorem zd_262_7 : decode prog_14_method_133_code 7 = .ok (.ishl, 1) := by decide +kernel
theorem zd_262_8 : decode prog_14_method_133_code 8 = .ok (.ior, 1) := by decide +kernel
theorem zd_262_9 : decode prog_14_method_133_code 9 = .ok (.iload_n 2, 1) := by decide +kernel
theorem zd_262_10 : decode prog_14_method_133_code 10 = .ok (.bipush 11, 2) := by decide +kernel
theorem zd_262_12 : decode prog_14_method_133_code 12 = .ok (.ishl, 1) := by decide +kernel
theorem zd_262_13 : decode prog_14_method_133_code 13 = .ok (.ior, 1) := by decide +kernel
theorem zd_262_14 : decode prog_14_method_133_code 14 = .ok (.iload_n 3, 1) := by decide +kernel
theorem zd_262_15 : decode prog_14_method_133_code 15 = .ok (.bipush 6, 2) := by decide +kernel
theorem zd_262_17 : decode prog_14_method_133_code 17 = .ok (.ishl, 1) := by decide +kernel
theorem zd_262_18 : decode prog_14_method_133_code 18 = .ok (.ior, 1) := by decide +kernel
theorem zd_262_19 : decode prog_14_method_133_code 19 = .ok (.iload 4, 2) := by decide +kernel
theorem zd_262_21 : decode prog_14_method_133_code 21 = .ok (.ior, 1) := by decide +kernel
theorem zd_263_0 : decode prog_14_method_128_code 0 = .ok (.iload_n 0, 1) := by decide +kernel
theorem zd_263_1 : decode prog_14_method_128_code 1 = .ok (.ifCond .ne 7, 3) := by decide +kernel
theorem zd_263_8 : decode prog_14_method_128_code 8 = .ok (.iconst 1, 1) := by decide +kernel
theorem zd_263_9 : decode prog_14_method_128_code 9 = .ok (.iload_n 0, 1) := by decide +kernel
theorem zd_263_10 : decode prog_14_method_128_code 10 = .ok (.ishl, 1) := by decide +kernel
theorem zd_264_0 : decode prog_14_method_127_code 0 = .ok (.aload_n 0, 1) := by decide +kernel
theorem zd_264_1 : decode prog_14_method_127_code 1 = .ok (.getfield 1275, 3) := by decide +kernel
theorem zd_264_4 : decode prog_14_method_127_code 4 = .ok (.istore 5, 2) := by decide +kernel
theorem zd_264_6 : decode prog_14_method_127_code 6 = .ok (.aload_n 0, 1) := by decide +kernel
theorem zd_264_7 : decode prog_14_method_127_code 7 = .ok (.iload_n 1, 1) := by decide +kernel
theorem zd_264_8 : decode prog_14_method_127_code 8 = .ok (.invokevirtual 1284, 3) := by decide +kernel
theorem zd_264_11 : decode prog_14_method_127_code 11 = .ok (.aload_n 0, 1) := by decide +kernel
theorem zd_264_12 : decode prog_14_method_127_code 12 = .ok (.getfield 386, 3) := by decide +kernel
theorem zd_264_15 : decode prog_14_method_127_code 15 = .ok (.aload_n 0, 1) := by decide +kernel
theorem zd_264_16 : decode prog_14_method_127_code 16 = .ok (.getfield 1272, 3) := by decide +kernel
theorem zd_264_19 : decode prog_14_method_127_code 19 = .ok (.aload_n 0, 1) := by decide +kernel
theorem zd_264_20 : decode prog_14_method_127_code 20 = .ok (.getfield 1287, 3) := by decide +kernel
theorem zd_264_23 : decode prog_14_method_127_code 23 = .ok (.ifCond .eq 12, 3) := by decide +kernel
theorem zd_264_26 : decode prog_14_method_127_code 26 = .ok (.iload 4, 2) := by decide +kernel
theorem zd_264_28 : decode prog_14_method_127_code 28 = .ok (.ifCond .eq 7, 3) := by decide +kernel
theorem zd_264_31 : decode prog_14_method_127_code 31 = .ok (.iconst 1, 1) := by decide +kernel
theorem zd_264_32 : decode prog_14_method_127_code 32 = .ok (.goto 4, 3) := by decide +kernel
theorem zd_264_35 : decode prog_14_method_127_code 35 = .ok (.iconst 0, 1) := by decide +kernel
theorem zd_264_36 : decode prog_14_method_127_code 36 = .ok (.bastore, 1) := by decide +kernel
theorem zd_264_37 : decode prog_14_method_127_code 37 = .ok (.aload_n 0, 1) := by decide +kernel
theorem zd_264_38 : decode prog_14_method_127_code 38 = .ok (.getfield 389, 3) := by decide +kernel
theorem zd_264_41 : decode prog_14_method_127_code 41 = .ok (.aload_n 0, 1) := by decide +kernel
theorem zd_264_42 : decode prog_14_method_127_code 42 = .ok (.getfield 1272, 3) := by decide +kernel
theorem zd_264_45 : decode prog_14_method_127_code 45 = .ok (.iload 5, 2) := by decide +kernel
theorem zd_264_47 : decode prog_14_method_127_code 47 = .ok (.iastore, 1) := by decide +kernel
theorem zd_264_48 : decode prog_14_method_127_code 48 = .ok (.aload_n 0, 1) := by decide +kernel
theorem zd_264_49 : decode prog_14_method_127_code 49 = .ok (.getfield 392, 3) := by decide +kernel
theorem zd_264_52 : decode prog_14_method_127_code 52 = .ok (.aload_n 0, 1) := by decide +kernel
theorem zd_264_53 : decode prog_14_method_127_code 53 = .ok (.getfield 1272, 3) := by decide +kernel
theorem zd_264_56 : decode prog_14_method_127_code 56 = .ok (.iload_n 2, 1) := by decide +kernel
theorem zd_264_57 : decode prog_14_method_127_code 57 = .ok (.iastore, 1) := by decide +kernel
theorem zd_264_58 : decode prog_14_method_127_code 58 = .ok (.aload_n 0, 1) := by decide +kernel
theorem zd_264_59 : decode prog_14_method_127_code 59 = .ok (.getfield 395, 3) := by decide +kernel
theorem zd_264_62 : decode prog_14_method_127_code 62 = .ok (.aload_n 0, 1) := by decide +kernel
theorem zd_264_63 : decode prog_14_method_127_code 63 = .ok (.getfield 1272, 3) := by decide +kernel
theorem zd_264_66 : decode prog_14_method_127_code 66 = .ok (.iload_n 3, 1) := by decide +kernel
theorem zd_264_67 : decode prog_14_method_127_code 67 = .ok (.iastore, 1) := by decide +kernel
theorem zd_264_68 : decode prog_14_method_127_code 68 = .ok (.aload_n 0, 1) := by decide +kernel
theorem zd_264_69 : decode prog_14_method_127_code 69 = .ok (.getfield 398, 3) := by decide +kernel
theorem zd_264_72 : decode prog_14_method_127_code 72 = .ok (.aload_n 0, 1) := by decide +kernel
theorem zd_264_73 : decode prog_14_method_127_code 73 = .ok (.getfield 1272, 3) := by decide +kernel
theorem zd_264_76 : decode prog_14_method_127_code 76 = .ok (.iload_n 1, 1) := by decide +kernel
theorem zd_264_77 : decode prog_14_method_127_code 77 = .ok (.iastore, 1) := by decide +kernel
theorem zd_265_0 : decode prog_14_method_144_code 0 = .ok (.aload_n 0, 1) := by decide +kernel
theorem zd_265_1 : decode prog_14_method_144_code 1 = .ok (.getfield 431, 3) := by decide +kernel
theorem zd_265_4 : decode prog_14_method_144_code 4 = .ok (.iconst 0, 1) := by decide +kernel
theorem zd_265_5 : decode prog_14_method_144_code 5 = .ok (.iaload, 1) := by decide +kernel
theorem zd_265_6 : decode prog_14_method_144_code 6 = .ok (.istore_n 1, 1) := by decide +kernel
theorem zd_265_7 : decode prog_14_method_144_code 7 = .ok (.iload_n 1, 1) := by decide +kernel
theorem zd_265_8 : decode prog_14_method_144_code 8 = .ok (.sipush (-32768), 3) := by decide +kernel
theorem zd_265_11 : decode prog_14_method_144_code 11 = .ok (.sipush 32767, 3) := by decide +kernel
theorem zd_265_14 : decode prog_14_method_144_code 14 = .ok (.invokestatic 504, 3) := by decide +kernel
theorem zd_265_17 : decode prog_14_method_144_code 17 = .ok (.ifCond .eq 32, 3) := by decide +kernel
theorem zd_265_20 : decode prog_14_method_144_code 20 = .ok (.aload_n 0, 1) := by decide +kernel
theorem zd_265_21 : decode prog_14_method_144_code 21 = .ok (.aload_n 0, 1) := by decide +kernel
theorem zd_265_22 : decode prog_14_method_144_code 22 = .ok (.getfield 289, 3) := by decide +kernel
theorem zd_265_25 : decode prog_14_method_144_code 25 = .ok (.bipush 26, 2) := by decide +kernel
theorem zd_265_27 : decode prog_14_method_144_code 27 = .ok (.iaload, 1) := by decide +kernel
theorem zd_265_28 : decode prog_14_method_144_code 28 = .ok (.iconst 0, 1) := by decide +kernel
theorem zd_265_29 : decode prog_14_method_144_code 29 = .ok (.aload_n 0, 1) := by decide +kernel
theorem zd_265_30 : decode prog_14_method_144_code 30 = .ok (.getfield 1312, 3) := by decide +kernel
theorem zd_265_33 : decode prog_14_method_144_code 33 = .ok (.iload_n 1, 1) := by decide +kernel
theorem zd_265_34 : decode prog_14_method_144_code 34 = .ok (.invokestatic 1366, 3) := by decide +kernel
theorem zd_265_37 : decode prog_14_method_144_code 37 = .ok (.iconst 0, 1) := by decide +kernel
theorem zd_265_38 : decode prog_14_method_144_code 38 = .ok (.aload_n 0, 1) := by decide +kernel
theorem zd_265_39 : decode prog_14_method_144_code 39 = .ok (.getfield 1312, 3) := by decide +kernel
theorem zd_265_42 : decode prog_14_method_144_code 42 = .ok (.iconst 1, 1) := by decide +kernel
theorem zd_265_43 : decode prog_14_method_144_code 43 = .ok (.invokevirtual 1362, 3) := by decide +kernel
theorem zd_265_46 : decode prog_14_method_144_code 46 = .ok (.goto 115, 3) := by decide +kernel
theorem zd_266_0 : decode prog_24_method_65_code 0 = .ok (.iload_n 0, 1) := by decide +kernel
theorem zd_266_1 : decode prog_24_method_65_code 1 = .ok (.iload_n 1, 1) := by decide +kernel
theorem zd_266_2 : decode prog_24_method_65_code 2 = .ok (.if_icmp .lt 7, 3) := by decide +kernel
theorem zd_266_5 : decode prog_24_method_65_code 5 = .ok (.iload_n 0, 1) := by decide +kernel
theorem zd_266_6 : decode prog_24_method_65_code 6 = .ok (.goto 4, 3) := by decide +kernel
theorem zd_266_9 : decode prog_24_method_65_code 9 = .ok (.iload_n 1, 1) := by decide +kernel
theorem zd_267_0 : decode prog_29_method_4_code 0 = .ok (.iload_n 0, 1) := by decide +kernel
theorem zd_267_1 : decode prog_29_method_4_code 1 = .ok (.ifCond .lt 14, 3) := by decide +kernel
theorem zd_267_4 : decode prog_29_method_4_code 4 = .ok (.iload_n 0, 1) := by decide +kernel
theorem zd_267_5 : decode prog_29_method_4_code 5 = .ok (.sipush 255, 3) := by decide +kernel
theorem zd_267_8 : decode prog_29_method_4_code 8 = .ok (.if_icmp .gt 7, 3) := by decide +kernel
theorem zd_267_11 : decode prog_29_method_4_code 11 = .ok (.iconst 1, 1) := by decide +kernel
theorem zd_267_12 : decode prog_29_method_4_code 12 = .ok (.goto 4, 3) := by decide +kernel
theorem zd_268_0 : decode prog_29_method_23_code 0 = .ok (.iload_n 1, 1) := by decide +kernel
theorem zd_268_1 : decode prog_29_method_23_code 1 = .ok (.i2b, 1) := by decide +kernel
theorem zd_268_2 : decode prog_29_method_23_code 2 = .ok (.istore 4, 2) := by decide +kernel
theorem zd_268_4 : decode prog_29_method_23_code 4 = .ok (.iload_n 2, 1) := by decide +kernel
theorem zd_268_5 : decode prog_29_method_23_code 5 = .ok (.istore 5, 2) := by decide +kernel
theorem zd_268_7 : decode prog_29_method_23_code 7 = .ok (.iload 5, 2) := by decide +kernel
theorem zd_268_9 : decode prog_29_method_23_code 9 = .ok (.iload_n 3, 1) := by decide +kernel
theorem zd_268_10 : decode prog_29_method_23_code 10 = .ok (.if_icmp .ge 21, 3) := by decide +kernel
theorem zd_268_13 : decode prog_29_method_23_code 13 = .ok (.aload_n 0, 1) := by decide +kernel
theorem zd_268_14 : decode prog_29_method_23_code 14 = .ok (.iload 5, 2) := by decide +kernel
theorem zd_268_16 : decode prog_29_method_23_code 16 = .ok (.baload, 1) := by decide +kernel
theorem zd_268_17 : decode prog_29_method_23_code 17 = .ok (.iload 4, 2) := by decide +kernel
theorem zd_268_19 : decode prog_29_method_23_code 19 = .ok (.if_icmp .ne 6, 3) := by decide +kernel
theorem zd_268_22 : decode prog_29_method_23_code 22 = .ok (.iload 5, 2) := by decide +kernel
theorem zd_268_25 : decode prog_29_method_23_code 25 = .ok (.iinc 5 1, 3) := by decide +kernel
theorem zd_268_28 : decode prog_29_method_23_code 28 = .ok (.goto (-21), 3) := by decide +kernel
theorem zd_269_0 : decode prog_14_method_119_code 0 = .ok (.aload_n 0, 1) := by decide +kernel
theorem zd_269_1 : decode prog_14_method_119_code 1 = .ok (.iconst 0, 1) := by decide +kernel
theorem zd_269_2 : decode prog_14_method_119_code 2 = .ok (.putfield 1247, 3) := by decide +kernel
theorem zd_269_5 : decode prog_14_method_119_code 5 = .ok (.aload_n 0, 1) := by decide +kernel
theorem zd_269_6 : decode prog_14_method_119_code 6 = .ok (.iconst 0, 1) := by decide +kernel
theorem zd_269_7 : decode prog_14_method_119_code 7 = .ok (.putfield 1234, 3) := by decide +kernel
theorem zd_269_10 : decode prog_14_method_119_code 10 = .ok (.aload_n 0, 1) := by decide +kernel
theorem zd_269_11 : decode prog_14_method_119_code 11 = .ok (.iconst (-1), 1) := by decide +kernel
theorem zd_269_12 : decode prog_14_method_119_code 12 = .ok (.putfield 1237, 3) := by decide +kernel
theorem zd_269_15 : decode prog_14_method_119_code 15 = .ok (.aload_n 0, 1) := by decide +kernel
theorem zd_269_16 : decode prog_14_method_119_code 16 = .ok (.invokevirtual 1225, 3) := by decide +kernel
theorem zd_269_19 : decode prog_14_method_119_code 19 = .ok (.aload_n 0, 1) := by decide +kernel
theorem zd_269_20 : decode prog_14_method_119_code 20 = .ok (.invokevirtual 1222, 3) := by decide +kernel
theorem zd_269_23 : decode prog_14_method_119_code 23 = .ok (.bipush 45, 2) := by decide +kernel
theorem zd_269_25 : decode prog_14_method_119_code 25 = .ok (.if_icmp .ne 7, 3) := by decide +kernel
theorem zd_269_32 : decode prog_14_method_119_code 32 = .ok (.iconst 0, 1) := by decide +kernel
theorem zd_269_33 : decode prog_14_method_119_code 33 = .ok (.istore_n 1, 1) := by decide +kernel
theorem zd_269_34 : decode prog_14_method_119_code 34 = .ok (.iload_n 1, 1) := by decide +kernel
theorem zd_269_35 : decode prog_14_method_119_code 35 = .ok (.ifCond .eq 13, 3) := by decide +kernel
theorem zd_269_48 : decode prog_14_method_119_code 48 = .ok (.iconst 1, 1) := by decide +kernel
theorem zd_269_49 : decode prog_14_method_119_code 49 = .ok (.istore_n 2, 1) := by decide +kernel
theorem zd_269_50 : decode prog_14_method_119_code 50 = .ok (.iload_n 2, 1) := by decide +kernel
theorem zd_269_51 : decode prog_14_method_119_code 51 = .ok (.ifCond .eq 168, 3) := by decide +kernel
theorem zd_269_54 : decode prog_14_method_119_code 54 = .ok (.aload_n 0, 1) := by decide +kernel
theorem zd_269_55 : decode prog_14_method_119_code 55 = .ok (.getfield 1228, 3) := by decide +kernel
theorem zd_269_58 : decode prog_14_method_119_code 58 = .ok (.ifCond .eq 161, 3) := by decide +kernel
theorem zd_269_61 : decode prog_14_method_119_code 61 = .ok (.aload_n 0, 1) := by decide +kernel
theorem zd_269_62 : decode prog_14_method_119_code 62 = .ok (.invokevirtual 1225, 3) := by decide +kernel
theorem zd_269_65 : decode prog_14_method_119_code 65 = .ok (.aload_n 0, 1) := by decide +kernel
theorem zd_269_66 : decode prog_14_method_119_code 66 = .ok (.invokevirtual 1222, 3) := by decide +kernel
theorem zd_269_69 : decode prog_14_method_119_code 69 = .ok (.invokestatic 553, 3) := by decide +kernel
theorem zd_269_72 : decode prog_14_method_119_code 72 = .ok (.ifCond .eq 11, 3) := by decide +kernel
theorem zd_269_75 : decode prog_14_method_119_code 75 = .ok (.aload_n 0, 1) := by decide +kernel
theorem zd_269_76 : decode prog_14_method_119_code 76 = .ok (.iload_n 1, 1) := by decide +kernel
theorem zd_269_77 : decode prog_14_method_119_code 77 = .ok (.invokevirtual 1250, 3) := by decide +kernel
theorem zd_269_80 : decode prog_14_method_119_code 80 = .ok (.goto 72, 3) := by decide +kernel
theorem zd_269_83 : decode prog_14_method_119_code 83 = .ok (.aload_n 0, 1) := by decide +kernel
theorem zd_269_84 : decode prog_14_method_119_code 84 = .ok (.invokevirtual 1254, 3) := by decide +kernel
theorem zd_269_87 : decode prog_14_method_119_code 87 = .ok (.istore_n 3, 1) := by decide +kernel
theorem zd_269_88 : decode prog_14_method_119_code 88 = .ok (.aload_n 0, 1) := by decide +kernel
theorem zd_269_89 : decode prog_14_method_119_code 89 = .ok (.iload_n 3, 1) := by decide +kernel
theorem zd_269_90 : decode prog_14_method_119_code 90 = .ok (.invokevirtual 1257, 3) := by decide +kernel
theorem zd_269_93 : decode prog_14_method_119_code 93 = .ok (.istore 4, 2) := by decide +kernel
theorem zd_269_95 : decode prog_14_method_119_code 95 = .ok (.aload_n 0, 1) := by decide +kernel
theorem zd_269_96 : decode prog_14_method_119_code 96 = .ok (.getfield 1228, 3) := by decide +kernel
theorem zd_269_99 : decode prog_14_method_119_code 99 = .ok (.ifCond .eq 46, 3) := by decide +kernel
theorem zd_269_102 : decode prog_14_method_119_code 102 = .ok (.iload 4, 2) := by decide +kernel
theorem zd_269_104 : decode prog_14_method_119_code 104 = .ok (.ifCond .lt 41, 3) := by decide +kernel
theorem zd_269_145 : decode prog_14_method_119_code 145 = .ok (.aload_n 0, 1) := by decide +kernel
theorem zd_269_146 : decode prog_14_method_119_code 146 = .ok (.iconst 1, 1) := by decide +kernel
theorem zd_269_147 : decode prog_14_method_119_code 147 = .ok (.iload_n 3, 1) := by decide +kernel
theorem zd_269_148 : decode prog_14_method_119_code 148 = .ok (.iload_n 1, 1) := by decide +kernel
theorem zd_269_149 : decode prog_14_method_119_code 149 = .ok (.invokevirtual 1242, 3) := by decide +kernel
theorem zd_269_152 : decode prog_14_method_119_code 152 = .ok (.aload_n 0, 1) := by decide +kernel
theorem zd_269_153 : decode prog_14_method_119_code 153 = .ok (.invokevirtual 1225, 3) := by decide +kernel
theorem zd_269_156 : decode prog_14_method_119_code 156 = .ok (.aload_n 0, 1) := by decide +kernel
theorem zd_269_157 : decode prog_14_method_119_code 157 = .ok (.invokevirtual 1222, 3) := by decide +kernel
theorem zd_269_160 : decode prog_14_method_119_code 160 = .ok (.bipush 43, 2) := by decide +kernel
theorem zd_269_162 : decode prog_14_method_119_code 162 = .ok (.if_icmp .eq 12, 3) := by decide +kernel
theorem zd_269_165 : decode prog_14_method_119_code 165 = .ok (.aload_n 0, 1) := by decide +kernel
theorem zd_269_166 : decode prog_14_method_119_code 166 = .ok (.invokevirtual 1222, 3) := by decide +kernel
theorem zd_269_169 : decode prog_14_method_119_code 169 = .ok (.bipush 45, 2) := by decide +kernel
theorem zd_269_171 : decode prog_14_method_119_code 171 = .ok (.if_icmp .ne 7, 3) := by decide +kernel
theorem zd_269_178 : decode prog_14_method_119_code 178 = .ok (.iconst 0, 1) := by decide +kernel
theorem zd_269_179 : decode prog_14_method_119_code 179 = .ok (.istore_n 2, 1) := by decide +kernel
theorem zd_269_180 : decode prog_14_method_119_code 180 = .ok (.aload_n 0, 1) := by decide +kernel
theorem zd_269_181 : decode prog_14_method_119_code 181 = .ok (.invokevirtual 1222, 3) := by decide +kernel
theorem zd_269_184 : decode prog_14_method_119_code 184 = .ok (.bipush 45, 2) := by decide +kernel
theorem zd_269_186 : decode prog_14_method_119_code 186 = .ok (.if_icmp .ne 7, 3) := by decide +kernel
theorem zd_269_193 : decode prog_14_method_119_code 193 = .ok (.iconst 0, 1) := by decide +kernel
theorem zd_269_194 : decode prog_14_method_119_code 194 = .ok (.istore_n 1, 1) := by decide +kernel
theorem zd_269_195 : decode prog_14_method_119_code 195 = .ok (.aload_n 0, 1) := by decide +kernel
theorem zd_269_196 : decode prog_14_method_119_code 196 = .ok (.iload_n 2, 1) := by decide +kernel
theorem zd_269_197 : decode prog_14_method_119_code 197 = .ok (.ifCond .eq 12, 3) := by decide +kernel
theorem zd_269_209 : decode prog_14_method_119_code 209 = .ok (.aload_n 0, 1) := by decide +kernel
theorem zd_269_210 : decode prog_14_method_119_code 210 = .ok (.getfield 1219, 3) := by decide +kernel
theorem zd_269_213 : decode prog_14_method_119_code 213 = .ok (.putfield 1219, 3) := by decide +kernel
theorem zd_269_216 : decode prog_14_method_119_code 216 = .ok (.goto (-166), 3) := by decide +kernel
theorem zd_270_0 : decode prog_14_method_120_code 0 = .ok (.aload_n 0, 1) := by decide +kernel
theorem zd_270_1 : decode prog_14_method_120_code 1 = .ok (.getfield 431, 3) := by decide +kernel
theorem zd_270_4 : decode prog_14_method_120_code 4 = .ok (.aload_n 0, 1) := by decide +kernel
theorem zd_270_5 : decode prog_14_method_120_code 5 = .ok (.getfield 1260, 3) := by decide +kernel
theorem zd_270_8 : decode prog_14_method_120_code 8 = .ok (.aload_n 0, 1) := by decide +kernel
theorem zd_270_9 : decode prog_14_method_120_code 9 = .ok (.getfield 1247, 3) := by decide +kernel
theorem zd_270_12 : decode prog_14_method_120_code 12 = .ok (.iastore, 1) := by decide +kernel
theorem zd_270_13 : decode prog_14_method_120_code 13 = .ok (.aload_n 0, 1) := by decide +kernel
theorem zd_270_14 : decode prog_14_method_120_code 14 = .ok (.getfield 434, 3) := by decide +kernel
theorem zd_270_17 : decode prog_14_method_120_code 17 = .ok (.aload_n 0, 1) := by decide +kernel
theorem zd_270_18 : decode prog_14_method_120_code 18 = .ok (.getfield 1260, 3) := by decide +kernel
theorem zd_270_21 : decode prog_14_method_120_code 21 = .ok (.aload_n 0, 1) := by decide +kernel
theorem zd_270_22 : decode prog_14_method_120_code 22 = .ok (.getfield 1234, 3) := by decide +kernel
theorem zd_270_25 : decode prog_14_method_120_code 25 = .ok (.iastore, 1) := by decide +kernel
theorem zd_270_26 : decode prog_14_method_120_code 26 = .ok (.aload_n 0, 1) := by decide +kernel
theorem zd_270_27 : decode prog_14_method_120_code 27 = .ok (.getfield 437, 3) := by decide +kernel
theorem zd_270_30 : decode prog_14_method_120_code 30 = .ok (.aload_n 0, 1) := by decide +kernel
theorem zd_270_31 : decode prog_14_method_120_code 31 = .ok (.getfield 1260, 3) := by decide +kernel
theorem zd_270_34 : decode prog_14_method_120_code 34 = .ok (.aload_n 0, 1) := by decide +kernel
theorem zd_270_35 : decode prog_14_method_120_code 35 = .ok (.getfield 1237, 3) := by decide +kernel
theorem zd_270_38 : decode prog_14_method_120_code 38 = .ok (.iastore, 1) := by decide +kernel
theorem zd_270_39 : decode prog_14_method_120_code 39 = .ok (.aload_n 0, 1) := by decide +kernel
theorem zd_270_40 : decode prog_14_method_120_code 40 = .ok (.getfield 440, 3) := by decide +kernel
theorem zd_270_43 : decode prog_14_method_120_code 43 = .ok (.aload_n 0, 1) := by decide +kernel
theorem zd_270_44 : decode prog_14_method_120_code 44 = .ok (.getfield 1260, 3) := by decide +kernel
theorem zd_270_47 : decode prog_14_method_120_code 47 = .ok (.iload_n 1, 1) := by decide +kernel
theorem zd_270_48 : decode prog_14_method_120_code 48 = .ok (.iastore, 1) := by decide +kernel
theorem zd_270_49 : decode prog_14_method_120_code 49 = .ok (.aload_n 0, 1) := by decide +kernel
theorem zd_270_50 : decode prog_14_method_120_code 50 = .ok (.dup, 1) := by decide +kernel
theorem zd_270_51 : decode prog_14_method_120_code 51 = .ok (.getfield 1260, 3) := by decide +kernel
theorem zd_270_54 : decode prog_14_method_120_code 54 = .ok (.iconst 1, 1) := by decide +kernel
theorem zd_270_55 : decode prog_14_method_120_code 55 = .ok (.iadd, 1) := by decide +kernel
theorem zd_270_56 : decode prog_14_method_120_code 56 = .ok (.putfield 1260, 3) := by decide +kernel
theorem zd_271_0 : decode prog_14_method_115_code 0 = .ok (.aload_n 0, 1) := by decide +kernel
theorem zd_271_1 : decode prog_14_method_115_code 1 = .ok (.invokevirtual 1225, 3) := by decide +kernel
theorem zd_271_4 : decode prog_14_method_115_code 4 = .ok (.aload_n 0, 1) := by decide +kernel
theorem zd_271_5 : decode prog_14_method_115_code 5 = .ok (.invokevirtual 1222, 3) := by decide +kernel
theorem zd_271_8 : decode prog_14_method_115_code 8 = .ok (.bipush 36, 2) := by decide +kernel
theorem zd_271_10 : decode prog_14_method_115_code 10 = .ok (.if_icmp .eq 10, 3) := by decide +kernel
theorem zd_271_20 : decode prog_14_method_115_code 20 = .ok (.aload_n 0, 1) := by decide +kernel
theorem zd_271_21 : decode prog_14_method_115_code 21 = .ok (.dup, 1) := by decide +kernel
theorem zd_271_22 : decode prog_14_method_115_code 22 = .ok (.getfield 1219, 3) := by decide +kernel
theorem zd_271_25 : decode prog_14_method_115_code 25 = .ok (.iconst 1, 1) := by decide +kernel
theorem zd_271_26 : decode prog_14_method_115_code 26 = .ok (.iadd, 1) := by decide +kernel
theorem zd_271_27 : decode prog_14_method_115_code 27 = .ok (.putfield 1219, 3) := by decide +kernel
theorem zd_271_30 : decode prog_14_method_115_code 30 = .ok (.aload_n 0, 1) := by decide +kernel
theorem zd_271_31 : decode prog_14_method_115_code 31 = .ok (.getfield 1219, 3) := by decide +kernel
theorem zd_271_34 : decode prog_14_method_115_code 34 = .ok (.istore_n 1, 1) := by decide +kernel
theorem zd_271_35 : decode prog_14_method_115_code 35 = .ok (.lconst 0, 1) := by decide +kernel
theorem zd_271_36 : decode prog_14_method_115_code 36 = .ok (.lstore_n 2, 1) := by decide +kernel
theorem zd_271_37 : decode prog_14_method_115_code 37 = .ok (.iconst 0, 1) := by decide +kernel
theorem zd_271_38 : decode prog_14_method_115_code 38 = .ok (.istore 4, 2) := by decide +kernel
theorem zd_271_40 : decode prog_14_method_115_code 40 = .ok (.iconst 1, 1) := by decide +kernel
theorem zd_271_41 : decode prog_14_method_115_code 41 = .ok (.istore 5, 2) := by decide +kernel
theorem zd_271_43 : decode prog_14_method_115_code 43 = .ok (.aload_n 0, 1) := by decide +kernel
theorem zd_271_44 : decode prog_14_method_115_code 44 = .ok (.invokevirtual 1222, 3) := by decide +kernel
theorem zd_271_47 : decode prog_14_method_115_code 47 = .ok (.invokestatic 550, 3) := by decide +kernel
theorem zd_271_50 : decode prog_14_method_115_code 50 = .ok (.ifCond .ne 13, 3) := by decide +kernel
theorem zd_271_53 : decode prog_14_method_115_code 53 = .ok (.aload_n 0, 1) := by decide +kernel
theorem zd_271_54 : decode prog_14_method_115_code 54 = .ok (.invokevirtual 1222, 3) := by decide +kernel
theorem zd_271_57 : decode prog_14_method_115_code 57 = .ok (.invokestatic 553, 3) := by decide +kernel
theorem zd_271_60 : decode prog_14_method_115_code 60 = .ok (.ifCond .eq 109, 3) := by decide +kernel
theorem zd_271_63 : decode prog_14_method_115_code 63 = .ok (.aload_n 0, 1) := by decide +kernel
theorem zd_271_64 : decode prog_14_method_115_code 64 = .ok (.getfield 1219, 3) := by decide +kernel
theorem zd_271_67 : decode prog_14_method_115_code 67 = .ok (.iload_n 1, 1) := by decide +kernel
theorem zd_271_68 : decode prog_14_method_115_code 68 = .ok (.isub, 1) := by decide +kernel
theorem zd_271_69 : decode prog_14_method_115_code 69 = .ok (.bipush 8, 2) := by decide +kernel
theorem zd_271_71 : decode prog_14_method_115_code 71 = .ok (.if_icmp .ge 23, 3) := by decide +kernel
theorem zd_271_74 : decode prog_14_method_115_code 74 = .ok (.lload_n 2, 1) := by decide +kernel
theorem zd_271_75 : decode prog_14_method_115_code 75 = .ok (.aload_n 0, 1) := by decide +kernel
theorem zd_271_76 : decode prog_14_method_115_code 76 = .ok (.invokevirtual 1222, 3) := by decide +kernel
theorem zd_271_79 : decode prog_14_method_115_code 79 = .ok (.i2l, 1) := by decide +kernel
theorem zd_271_80 : decode prog_14_method_115_code 80 = .ok (.bipush 8, 2) := by decide +kernel
theorem zd_271_82 : decode prog_14_method_115_code 82 = .ok (.aload_n 0, 1) := by decide +kernel
theorem zd_271_83 : decode prog_14_method_115_code 83 = .ok (.getfield 1219, 3) := by decide +kernel
theorem zd_271_86 : decode prog_14_method_115_code 86 = .ok (.iload_n 1, 1) := by decide +kernel
theorem zd_271_87 : decode prog_14_method_115_code 87 = .ok (.isub, 1) := by decide +kernel
theorem zd_271_88 : decode prog_14_method_115_code 88 = .ok (.imul, 1) := by decide +kernel
theorem zd_271_89 : decode prog_14_method_115_code 89 = .ok (.lshl, 1) := by decide +kernel
theorem zd_271_90 : decode prog_14_method_115_code 90 = .ok (.lor, 1) := by decide +kernel
theorem zd_271_91 : decode prog_14_method_115_code 91 = .ok (.goto 4, 3) := by decide +kernel
theorem zd_271_95 : decode prog_14_method_115_code 95 = .ok (.lstore_n 2, 1) := by decide +kernel
theorem zd_271_96 : decode prog_14_method_115_code 96 = .ok (.aload_n 0, 1) := by decide +kernel
theorem zd_271_97 : decode prog_14_method_115_code 97 = .ok (.invokevirtual 1222, 3) := by decide +kernel
theorem zd_271_100 : decode prog_14_method_115_code 100 = .ok (.invokestatic 553, 3) := by decide +kernel
theorem zd_271_103 : decode prog_14_method_115_code 103 = .ok (.ifCond .eq 27, 3) := by decide +kernel
theorem zd_271_106 : decode prog_14_method_115_code 106 = .ok (.iload 4, 2) := by decide +kernel
theorem zd_271_108 : decode prog_14_method_115_code 108 = .ok (.sipush 1000, 3) := by decide +kernel
theorem zd_271_111 : decode prog_14_method_115_code 111 = .ok (.if_icmp .ge 19, 3) := by decide +kernel
theorem zd_271_114 : decode prog_14_method_115_code 114 = .ok (.bipush 10, 2) := by decide +kernel
theorem zd_271_116 : decode prog_14_method_115_code 116 = .ok (.iload 4, 2) := by decide +kernel
theorem zd_271_118 : decode prog_14_method_115_code 118 = .ok (.imul, 1) := by decide +kernel
theorem zd_271_119 : decode prog_14_method_115_code 119 = .ok (.aload_n 0, 1) := by decide +kernel
theorem zd_271_120 : decode prog_14_method_115_code 120 = .ok (.invokevirtual 1222, 3) := by decide +kernel
theorem zd_271_123 : decode prog_14_method_115_code 123 = .ok (.iadd, 1) := by decide +kernel
theorem zd_271_124 : decode prog_14_method_115_code 124 = .ok (.bipush 48, 2) := by decide +kernel
theorem zd_271_126 : decode prog_14_method_115_code 126 = .ok (.isub, 1) := by decide +kernel
theorem zd_271_127 : decode prog_14_method_115_code 127 = .ok (.goto 5, 3) := by decide +kernel
theorem zd_271_130 : decode prog_14_method_115_code 130 = .ok (.iload 4, 2) := by decide +kernel
theorem zd_271_132 : decode prog_14_method_115_code 132 = .ok (.istore 4, 2) := by decide +kernel
theorem zd_271_134 : decode prog_14_method_115_code 134 = .ok (.iload 5, 2) := by decide +kernel
theorem zd_271_136 : decode prog_14_method_115_code 136 = .ok (.ifCond .eq 17, 3) := by decide +kernel
theorem zd_271_139 : decode prog_14_method_115_code 139 = .ok (.aload_n 0, 1) := by decide +kernel
theorem zd_271_140 : decode prog_14_method_115_code 140 = .ok (.invokevirtual 1222, 3) := by decide +kernel
theorem zd_271_143 : decode prog_14_method_115_code 143 = .ok (.invokestatic 553, 3) := by decide +kernel
theorem zd_271_146 : decode prog_14_method_115_code 146 = .ok (.ifCond .eq 7, 3) := by decide +kernel
theorem zd_271_153 : decode prog_14_method_115_code 153 = .ok (.iconst 0, 1) := by decide +kernel
theorem zd_271_154 : decode prog_14_method_115_code 154 = .ok (.istore 5, 2) := by decide +kernel
theorem zd_271_156 : decode prog_14_method_115_code 156 = .ok (.aload_n 0, 1) := by decide +kernel
theorem zd_271_157 : decode prog_14_method_115_code 157 = .ok (.dup, 1) := by decide +kernel
theorem zd_271_158 : decode prog_14_method_115_code 158 = .ok (.getfield 1219, 3) := by decide +kernel
theorem zd_271_161 : decode prog_14_method_115_code 161 = .ok (.iconst 1, 1) := by decide +kernel
theorem zd_271_162 : decode prog_14_method_115_code 162 = .ok (.iadd, 1) := by decide +kernel
theorem zd_271_163 : decode prog_14_method_115_code 163 = .ok (.putfield 1219, 3) := by decide +kernel
theorem zd_271_166 : decode prog_14_method_115_code 166 = .ok (.goto (-123), 3) := by decide +kernel
theorem zd_271_169 : decode prog_14_method_115_code 169 = .ok (.aload_n 0, 1) := by decide +kernel
theorem zd_271_170 : decode prog_14_method_115_code 170 = .ok (.getfield 1219, 3) := by decide +kernel
theorem zd_271_173 : decode prog_14_method_115_code 173 = .ok (.iload_n 1, 1) := by decide +kernel
theorem zd_271_174 : decode prog_14_method_115_code 174 = .ok (.isub, 1) := by decide +kernel
theorem zd_271_175 : decode prog_14_method_115_code 175 = .ok (.istore 6, 2) := by decide +kernel
theorem zd_271_177 : decode prog_14_method_115_code 177 = .ok (.iload 6, 2) := by decide +kernel
theorem zd_271_179 : decode prog_14_method_115_code 179 = .ok (.ifCond .le 54, 3) := by decide +kernel
theorem zd_271_182 : decode prog_14_method_115_code 182 = .ok (.iload 5, 2) := by decide +kernel
theorem zd_271_184 : decode prog_14_method_115_code 184 = .ok (.ifCond .eq 49, 3) := by decide +kernel
theorem zd_271_233 : decode prog_14_method_115_code 233 = .ok (.iload 6, 2) := by decide +kernel
theorem zd_271_235 : decode prog_14_method_115_code 235 = .ok (.ifCond .eq 10, 3) := by decide +kernel
theorem zd_271_238 : decode prog_14_method_115_code 238 = .ok (.iload 6, 2) := by decide +kernel
theorem zd_271_240 : decode prog_14_method_115_code 240 = .ok (.bipush 8, 2) := by decide +kernel
theorem zd_271_242 : decode prog_14_method_115_code 242 = .ok (.if_icmp .le 7, 3) := by decide +kernel
theorem zd_271_249 : decode prog_14_method_115_code 249 = .ok (.aload_n 0, 1) := by decide +kernel
theorem zd_271_250 : decode prog_14_method_115_code 250 = .ok (.lload_n 2, 1) := by decide +kernel
theorem zd_271_251 : decode prog_14_method_115_code 251 = .ok (.lconst 0, 1) := by decide +kernel
theorem zd_271_252 : decode prog_14_method_115_code 252 = .ok (.invokevirtual 536, 3) := by decide +kernel
theorem zd_271_255 : decode prog_14_method_115_code 255 = .ok (.bipush 93, 2) := by decide +kernel
theorem zd_271_257 : decode prog_14_method_115_code 257 = .ok (.isub, 1) := by decide +kernel
theorem zd_271_258 : decode prog_14_method_115_code 258 = .ok (.istore 7, 2) := by decide +kernel
theorem zd_271_260 : decode prog_14_method_115_code 260 = .ok (.aload_n 0, 1) := by decide +kernel
theorem zd_271_261 : decode prog_14_method_115_code 261 = .ok (.aload_n 0, 1) := by decide +kernel
theorem zd_271_262 : decode prog_14_method_115_code 262 = .ok (.getfield 1228, 3) := by decide +kernel
theorem zd_271_265 : decode prog_14_method_115_code 265 = .ok (.ifCond .eq 18, 3) := by decide +kernel
theorem zd_271_268 : decode prog_14_method_115_code 268 = .ok (.iload 7, 2) := by decide +kernel
theorem zd_271_270 : decode prog_14_method_115_code 270 = .ok (.iconst 0, 1) := by decide +kernel
theorem zd_271_271 : decode prog_14_method_115_code 271 = .ok (.bipush 31, 2) := by decide +kernel
theorem zd_271_273 : decode prog_14_method_115_code 273 = .ok (.invokestatic 504, 3) := by decide +kernel
theorem zd_271_276 : decode prog_14_method_115_code 276 = .ok (.ifCond .eq 7, 3) := by decide +kernel
theorem zd_271_279 : decode prog_14_method_115_code 279 = .ok (.iconst 1, 1) := by decide +kernel
theorem zd_271_280 : decode prog_14_method_115_code 280 = .ok (.goto 4, 3) := by decide +kernel
theorem zd_271_284 : decode prog_14_method_115_code 284 = .ok (.putfield 1228, 3) := by decide +kernel
theorem zd_271_287 : decode prog_14_method_115_code 287 = .ok (.iload 7, 2) := by decide +kernel
theorem zd_271_289 : decode prog_14_method_115_code 289 = .ok (.bipush 31, 2) := by decide +kernel
theorem zd_271_291 : decode prog_14_method_115_code 291 = .ok (.iand, 1) := by decide +kernel
theorem zd_272_0 : decode prog_14_method_126_code 0 = .ok (.aload_n 0, 1) := by decide +kernel
theorem zd_272_1 : decode prog_14_method_126_code 1 = .ok (.getfield 434, 3) := by decide +kernel
theorem zd_272_4 : decode prog_14_method_126_code 4 = .ok (.iload_n 1, 1) := by decide +kernel
theorem zd_272_5 : decode prog_14_method_126_code 5 = .ok (.iaload, 1) := by decide +kernel
theorem zd_272_6 : decode prog_14_method_126_code 6 = .ok (.ifCond .eq 10, 3) := by decide +kernel
theorem zd_272_9 : decode prog_14_method_126_code 9 = .ok (.aload_n 0, 1) := by decide +kernel
theorem zd_272_10 : decode prog_14_method_126_code 10 = .ok (.getfield 1183, 3) := by decide +kernel
theorem zd_272_13 : decode prog_14_method_126_code 13 = .ok (.ifCond .le 4, 3) := by decide +kernel
theorem zd_272_17 : decode prog_14_method_126_code 17 = .ok (.aload_n 0, 1) := by decide +kernel
theorem zd_272_18 : decode prog_14_method_126_code 18 = .ok (.getfield 1281, 3) := by decide +kernel
theorem zd_272_21 : decode prog_14_method_126_code 21 = .ok (.sipush 3000, 3) := by decide +kernel
theorem zd_272_24 : decode prog_14_method_126_code 24 = .ok (.if_icmp .ne 10, 3) := by decide +kernel
theorem zd_272_34 : decode prog_14_method_126_code 34 = .ok (.aload_n 0, 1) := by decide +kernel
theorem zd_272_35 : decode prog_14_method_126_code 35 = .ok (.getfield 407, 3) := by decide +kernel
theorem zd_272_38 : decode prog_14_method_126_code 38 = .ok (.aload_n 0, 1) := by decide +kernel
theorem zd_272_39 : decode prog_14_method_126_code 39 = .ok (.getfield 1281, 3) := by decide +kernel
theorem zd_272_42 : decode prog_14_method_126_code 42 = .ok (.aload_n 0, 1) := by decide +kernel
theorem zd_272_43 : decode prog_14_method_126_code 43 = .ok (.getfield 1272, 3) := by decide +kernel
theorem zd_272_46 : decode prog_14_method_126_code 46 = .ok (.iastore, 1) := by decide +kernel
theorem zd_272_47 : decode prog_14_method_126_code 47 = .ok (.aload_n 0, 1) := by decide +kernel
theorem zd_272_48 : decode prog_14_method_126_code 48 = .ok (.getfield 410, 3) := by decide +kernel
theorem zd_272_51 : decode prog_14_method_126_code 51 = .ok (.aload_n 0, 1) := by decide +kernel
theorem zd_272_52 : decode prog_14_method_126_code 52 = .ok (.getfield 1281, 3) := by decide +kernel
theorem zd_272_55 : decode prog_14_method_126_code 55 = .ok (.iload_n 3, 1) := by decide +kernel
theorem zd_272_56 : decode prog_14_method_126_code 56 = .ok (.iastore, 1) := by decide +kernel
theorem zd_272_57 : decode prog_14_method_126_code 57 = .ok (.aload_n 0, 1) := by decide +kernel
theorem zd_272_58 : decode prog_14_method_126_code 58 = .ok (.getfield 413, 3) := by decide +kernel
theorem zd_272_61 : decode prog_14_method_126_code 61 = .ok (.aload_n 0, 1) := by decide +kernel
theorem zd_272_62 : decode prog_14_method_126_code 62 = .ok (.getfield 1281, 3) := by decide +kernel
theorem zd_272_65 : decode prog_14_method_126_code 65 = .ok (.iload_n 2, 1) := by decide +kernel
theorem zd_272_66 : decode prog_14_method_126_code 66 = .ok (.iastore, 1) := by decide +kernel
theorem zd_272_67 : decode prog_14_method_126_code 67 = .ok (.aload_n 0, 1) := by decide +kernel
theorem zd_272_68 : decode prog_14_method_126_code 68 = .ok (.getfield 425, 3) := by decide +kernel
theorem zd_272_71 : decode prog_14_method_126_code 71 = .ok (.aload_n 0, 1) := by decide +kernel
theorem zd_272_72 : decode prog_14_method_126_code 72 = .ok (.getfield 1281, 3) := by decide +kernel
theorem zd_272_75 : decode prog_14_method_126_code 75 = .ok (.aload_n 0, 1) := by decide +kernel
theorem zd_272_76 : decode prog_14_method_126_code 76 = .ok (.getfield 431, 3) := by decide +kernel
theorem zd_272_79 : decode prog_14_method_126_code 79 = .ok (.iload_n 1, 1) := by decide +kernel
theorem zd_272_80 : decode prog_14_method_126_code 80 = .ok (.iaload, 1) := by decide +kernel
theorem zd_272_81 : decode prog_14_method_126_code 81 = .ok (.iastore, 1) := by decide +kernel
theorem zd_272_82 : decode prog_14_method_126_code 82 = .ok (.aload_n 0, 1) := by decide +kernel
theorem zd_272_83 : decode prog_14_method_126_code 83 = .ok (.getfield 428, 3) := by decide +kernel
theorem zd_272_86 : decode prog_14_method_126_code 86 = .ok (.aload_n 0, 1) := by decide +kernel
theorem zd_272_87 : decode prog_14_method_126_code 87 = .ok (.getfield 1281, 3) := by decide +kernel
theorem zd_272_90 : decode prog_14_method_126_code 90 = .ok (.aload_n 0, 1) := by decide +kernel
theorem zd_272_91 : decode prog_14_method_126_code 91 = .ok (.getfield 1177, 3) := by decide +kernel
theorem zd_272_94 : decode prog_14_method_126_code 94 = .ok (.iastore, 1) := by decide +kernel
theorem zd_272_95 : decode prog_14_method_126_code 95 = .ok (.aload_n 0, 1) := by decide +kernel
theorem zd_272_96 : decode prog_14_method_126_code 96 = .ok (.getfield 416, 3) := by decide +kernel
theorem zd_272_99 : decode prog_14_method_126_code 99 = .ok (.aload_n 0, 1) := by decide +kernel
theorem zd_272_100 : decode prog_14_method_126_code 100 = .ok (.getfield 1281, 3) := by decide +kernel
theorem zd_272_103 : decode prog_14_method_126_code 103 = .ok (.aload_n 0, 1) := by decide +kernel
theorem zd_272_104 : decode prog_14_method_126_code 104 = .ok (.getfield 434, 3) := by decide +kernel
theorem zd_272_107 : decode prog_14_method_126_code 107 = .ok (.iload_n 1, 1) := by decide +kernel
theorem zd_272_108 : decode prog_14_method_126_code 108 = .ok (.iaload, 1) := by decide +kernel
theorem zd_272_109 : decode prog_14_method_126_code 109 = .ok (.iastore, 1) := by decide +kernel
theorem zd_272_110 : decode prog_14_method_126_code 110 = .ok (.aload_n 0, 1) := by decide +kernel
theorem zd_272_111 : decode prog_14_method_126_code 111 = .ok (.getfield 419, 3) := by decide +kernel
theorem zd_272_114 : decode prog_14_method_126_code 114 = .ok (.aload_n 0, 1) := by decide +kernel
theorem zd_272_115 : decode prog_14_method_126_code 115 = .ok (.getfield 1281, 3) := by decide +kernel
theorem zd_272_118 : decode prog_14_method_126_code 118 = .ok (.aload_n 0, 1) := by decide +kernel
theorem zd_272_119 : decode prog_14_method_126_code 119 = .ok (.getfield 437, 3) := by decide +kernel
theorem zd_272_122 : decode prog_14_method_126_code 122 = .ok (.iload_n 1, 1) := by decide +kernel
theorem zd_272_123 : decode prog_14_method_126_code 123 = .ok (.iaload, 1) := by decide +kernel
theorem zd_272_124 : decode prog_14_method_126_code 124 = .ok (.iastore, 1) := by decide +kernel
theorem zd_272_125 : decode prog_14_method_126_code 125 = .ok (.aload_n 0, 1) := by decide +kernel
theorem zd_272_126 : decode prog_14_method_126_code 126 = .ok (.getfield 422, 3) := by decide +kernel
theorem zd_272_129 : decode prog_14_method_126_code 129 = .ok (.aload_n 0, 1) := by decide +kernel
theorem zd_272_130 : decode prog_14_method_126_code 130 = .ok (.getfield 1281, 3) := by decide +kernel
theorem zd_272_133 : decode prog_14_method_126_code 133 = .ok (.iconst (-1), 1) := by decide +kernel
theorem zd_272_134 : decode prog_14_method_126_code 134 = .ok (.iastore, 1) := by decide +kernel
theorem zd_272_135 : decode prog_14_method_126_code 135 = .ok (.aload_n 0, 1) := by decide +kernel
theorem zd_272_136 : decode prog_14_method_126_code 136 = .ok (.getfield 434, 3) := by decide +kernel
theorem zd_272_139 : decode prog_14_method_126_code 139 = .ok (.iload_n 1, 1) := by decide +kernel
theorem zd_272_140 : decode prog_14_method_126_code 140 = .ok (.iaload, 1) := by decide +kernel
theorem zd_272_141 : decode prog_14_method_126_code 141 = .ok (.iconst 2, 1) := by decide +kernel
theorem zd_272_142 : decode prog_14_method_126_code 142 = .ok (.if_icmp .ne 50, 3) := by decide +kernel
theorem zd_272_192 : decode prog_14_method_126_code 192 = .ok (.aload_n 0, 1) := by decide +kernel
theorem zd_272_193 : decode prog_14_method_126_code 193 = .ok (.dup, 1) := by decide +kernel
theorem zd_272_194 : decode prog_14_method_126_code 194 = .ok (.getfield 1281, 3) := by decide +kernel
theorem zd_272_197 : decode prog_14_method_126_code 197 = .ok (.iconst 1, 1) := by decide +kernel
theorem zd_272_198 : decode prog_14_method_126_code 198 = .ok (.iadd, 1) := by decide +kernel
theorem zd_272_199 : decode prog_14_method_126_code 199 = .ok (.putfield 1281, 3) := by decide +kernel
theorem zd_273_0 : decode prog_14_method_125_code 0 = .ok (.iconst 0, 1) := by decide +kernel
theorem zd_273_1 : decode prog_14_method_125_code 1 = .ok (.istore_n 2, 1) := by decide +kernel
theorem zd_273_2 : decode prog_14_method_125_code 2 = .ok (.iload_n 2, 1) := by decide +kernel
theorem zd_273_3 : decode prog_14_method_125_code 3 = .ok (.bipush 32, 2) := by decide +kernel
theorem zd_273_5 : decode prog_14_method_125_code 5 = .ok (.if_icmp .ge 16, 3) := by decide +kernel
theorem zd_273_8 : decode prog_14_method_125_code 8 = .ok (.aload_n 0, 1) := by decide +kernel
theorem zd_273_9 : decode prog_14_method_125_code 9 = .ok (.iload_n 1, 1) := by decide +kernel
theorem zd_273_10 : decode prog_14_method_125_code 10 = .ok (.iload_n 2, 1) := by decide +kernel
theorem zd_273_11 : decode prog_14_method_125_code 11 = .ok (.ishr, 1) := by decide +kernel
theorem zd_273_12 : decode prog_14_method_125_code 12 = .ok (.invokevirtual 1278, 3) := by decide +kernel
theorem zd_273_15 : decode prog_14_method_125_code 15 = .ok (.iinc 2 8, 3) := by decide +kernel
theorem zd_273_18 : decode prog_14_method_125_code 18 = .ok (.goto (-16), 3) := by decide +kernel
theorem zd_274_0 : decode prog_14_method_134_code 0 = .ok (.iload_n 0, 1) := by decide +kernel
theorem zd_274_1 : decode prog_14_method_134_code 1 = .ok (.bipush 26, 2) := by decide +kernel
theorem zd_274_3 : decode prog_14_method_134_code 3 = .ok (.ishl, 1) := by decide +kernel
theorem zd_274_4 : decode prog_14_method_134_code 4 = .ok (.iload_n 1, 1) := by decide +kernel
theorem zd_274_5 : decode prog_14_method_134_code 5 = .ok (.bipush 21, 2) := by decide +kernel
theorem zd_274_7 : decode prog_14_method_134_code 7 = .ok (.ishl, 1) := by decide +kernel
theorem zd_274_8 : decode prog_14_method_134_code 8 = .ok (.ior, 1) := by decide +kernel
theorem zd_274_9 : decode prog_14_method_134_code 9 = .ok (.iload_n 2, 1) := by decide +kernel
theorem zd_274_10 : decode prog_14_method_134_code 10 = .ok (.bipush 16, 2) := by decide +kernel
theorem zd_274_12 : decode prog_14_method_134_code 12 = .ok (.ishl, 1) := by decide +kernel
theorem zd_274_13 : decode prog_14_method_134_code 13 = .ok (.ior, 1) := by decide +kernel
theorem zd_274_14 : decode prog_14_method_134_code 14 = .ok (.iload_n 3, 1) := by decide +kernel
theorem zd_274_15 : decode prog_14_method_134_code 15 = .ok (.ldc_w 1302, 3) := by decide +kernel
theorem zd_274_18 : decode prog_14_method_134_code 18 = .ok (.iand, 1) := by decide +kernel
theorem zd_274_19 : decode prog_14_method_134_code 19 = .ok (.ior, 1) := by decide +kernel
theorem zd_275_0 : decode prog_14_method_117_code 0 = .ok (.aload_n 0, 1) := by decide +kernel
theorem zd_275_1 : decode prog_14_method_117_code 1 = .ok (.aload_n 0, 1) := by decide +kernel
theorem zd_275_2 : decode prog_14_method_117_code 2 = .ok (.getfield 1228, 3) := by decide +kernel
theorem zd_275_5 : decode prog_14_method_117_code 5 = .ok (.ifCond .eq 18, 3) := by decide +kernel
theorem zd_275_8 : decode prog_14_method_117_code 8 = .ok (.aload_n 0, 1) := by decide +kernel
theorem zd_275_9 : decode prog_14_method_117_code 9 = .ok (.getfield 1234, 3) := by decide +kernel
theorem zd_275_12 : decode prog_14_method_117_code 12 = .ok (.ifCond .ne 11, 3) := by decide +kernel
theorem zd_275_15 : decode prog_14_method_117_code 15 = .ok (.iload_n 3, 1) := by decide +kernel
theorem zd_275_16 : decode prog_14_method_117_code 16 = .ok (.ifCond .ne 7, 3) := by decide +kernel
theorem zd_275_19 : decode prog_14_method_117_code 19 = .ok (.iconst 1, 1) := by decide +kernel
theorem zd_275_20 : decode prog_14_method_117_code 20 = .ok (.goto 4, 3) := by decide +kernel
theorem zd_275_24 : decode prog_14_method_117_code 24 = .ok (.putfield 1228, 3) := by decide +kernel
theorem zd_275_27 : decode prog_14_method_117_code 27 = .ok (.aload_n 0, 1) := by decide +kernel
theorem zd_275_28 : decode prog_14_method_117_code 28 = .ok (.iload_n 1, 1) := by decide +kernel
theorem zd_275_29 : decode prog_14_method_117_code 29 = .ok (.putfield 1234, 3) := by decide +kernel
theorem zd_275_32 : decode prog_14_method_117_code 32 = .ok (.aload_n 0, 1) := by decide +kernel
theorem zd_275_33 : decode prog_14_method_117_code 33 = .ok (.iload_n 2, 1) := by decide +kernel
theorem zd_275_34 : decode prog_14_method_117_code 34 = .ok (.putfield 1237, 3) := by decide +kernel
theorem zd_276_0 : decode prog_14_method_118_code 0 = .ok (.aload_n 0, 1) := by decide +kernel
theorem zd_276_1 : decode prog_14_method_118_code 1 = .ok (.getfield 1219, 3) := by decide +kernel
theorem zd_276_4 : decode prog_14_method_118_code 4 = .ok (.istore_n 2, 1) := by decide +kernel
theorem zd_276_5 : decode prog_14_method_118_code 5 = .ok (.lconst 0, 1) := by decide +kernel
theorem zd_276_6 : decode prog_14_method_118_code 6 = .ok (.lstore_n 3, 1) := by decide +kernel
theorem zd_276_7 : decode prog_14_method_118_code 7 = .ok (.aload_n 0, 1) := by decide +kernel
theorem zd_276_8 : decode prog_14_method_118_code 8 = .ok (.invokevirtual 1222, 3) := by decide +kernel
theorem zd_276_11 : decode prog_14_method_118_code 11 = .ok (.bipush 48, 2) := by decide +kernel
theorem zd_276_13 : decode prog_14_method_118_code 13 = .ok (.if_icmp .ne 185, 3) := by decide +kernel
theorem zd_276_198 : decode prog_14_method_118_code 198 = .ok (.aload_n 0, 1) := by decide +kernel
theorem zd_276_199 : decode prog_14_method_118_code 199 = .ok (.invokevirtual 1222, 3) := by decide +kernel
theorem zd_276_202 : decode prog_14_method_118_code 202 = .ok (.invokestatic 553, 3) := by decide +kernel
theorem zd_276_205 : decode prog_14_method_118_code 205 = .ok (.ifCond .eq 47, 3) := by decide +kernel
theorem zd_276_208 : decode prog_14_method_118_code 208 = .ok (.aload_n 0, 1) := by decide +kernel
theorem zd_276_209 : decode prog_14_method_118_code 209 = .ok (.getfield 1219, 3) := by decide +kernel
theorem zd_276_212 : decode prog_14_method_118_code 212 = .ok (.iload_n 2, 1) := by decide +kernel
theorem zd_276_213 : decode prog_14_method_118_code 213 = .ok (.isub, 1) := by decide +kernel
theorem zd_276_214 : decode prog_14_method_118_code 214 = .ok (.bipush 10, 2) := by decide +kernel
theorem zd_276_216 : decode prog_14_method_118_code 216 = .ok (.if_icmp .ge 21, 3) := by decide +kernel
theorem zd_276_219 : decode prog_14_method_118_code 219 = .ok (.ldc2_w 560, 3) := by decide +kernel
theorem zd_276_222 : decode prog_14_method_118_code 222 = .ok (.lload_n 3, 1) := by decide +kernel
theorem zd_276_223 : decode prog_14_method_118_code 223 = .ok (.lmul, 1) := by decide +kernel
theorem zd_276_224 : decode prog_14_method_118_code 224 = .ok (.aload_n 0, 1) := by decide +kernel
theorem zd_276_225 : decode prog_14_method_118_code 225 = .ok (.invokevirtual 1222, 3) := by decide +kernel
theorem zd_276_228 : decode prog_14_method_118_code 228 = .ok (.i2l, 1) := by decide +kernel
theorem zd_276_229 : decode prog_14_method_118_code 229 = .ok (.ladd, 1) := by decide +kernel
theorem zd_276_230 : decode prog_14_method_118_code 230 = .ok (.ldc2_w 562, 3) := by decide +kernel
theorem zd_276_233 : decode prog_14_method_118_code 233 = .ok (.lsub, 1) := by decide +kernel
theorem zd_276_234 : decode prog_14_method_118_code 234 = .ok (.goto 4, 3) := by decide +kernel
theorem zd_276_238 : decode prog_14_method_118_code 238 = .ok (.lstore_n 3, 1) := by decide +kernel
theorem zd_276_239 : decode prog_14_method_118_code 239 = .ok (.aload_n 0, 1) := by decide +kernel
theorem zd_276_240 : decode prog_14_method_118_code 240 = .ok (.dup, 1) := by decide +kernel
theorem zd_276_241 : decode prog_14_method_118_code 241 = .ok (.getfield 1219, 3) := by decide +kernel
theorem zd_276_244 : decode prog_14_method_118_code 244 = .ok (.iconst 1, 1) := by decide +kernel
theorem zd_276_245 : decode prog_14_method_118_code 245 = .ok (.iadd, 1) := by decide +kernel
theorem zd_276_246 : decode prog_14_method_118_code 246 = .ok (.putfield 1219, 3) := by decide +kernel
theorem zd_276_249 : decode prog_14_method_118_code 249 = .ok (.goto (-51), 3) := by decide +kernel
theorem zd_276_252 : decode prog_14_method_118_code 252 = .ok (.aload_n 0, 1) := by decide +kernel
theorem zd_276_253 : decode prog_14_method_118_code 253 = .ok (.invokevirtual 1222, 3) := by decide +kernel
theorem zd_276_256 : decode prog_14_method_118_code 256 = .ok (.bipush 98, 2) := by decide +kernel
theorem zd_276_258 : decode prog_14_method_118_code 258 = .ok (.if_icmp .ne 7, 3) := by decide +kernel
theorem zd_276_265 : decode prog_14_method_118_code 265 = .ok (.iconst 0, 1) := by decide +kernel
theorem zd_276_266 : decode prog_14_method_118_code 266 = .ok (.istore 5, 2) := by decide +kernel
theorem zd_276_268 : decode prog_14_method_118_code 268 = .ok (.aload_n 0, 1) := by decide +kernel
theorem zd_276_269 : decode prog_14_method_118_code 269 = .ok (.getfield 1219, 3) := by decide +kernel
theorem zd_276_272 : decode prog_14_method_118_code 272 = .ok (.iload_n 2, 1) := by decide +kernel
theorem zd_276_273 : decode prog_14_method_118_code 273 = .ok (.isub, 1) := by decide +kernel
theorem zd_276_274 : decode prog_14_method_118_code 274 = .ok (.iconst 1, 1) := by decide +kernel
theorem zd_276_275 : decode prog_14_method_118_code 275 = .ok (.if_icmp .ne 71, 3) := by decide +kernel
theorem zd_276_278 : decode prog_14_method_118_code 278 = .ok (.iload 5, 2) := by decide +kernel
theorem zd_276_280 : decode prog_14_method_118_code 280 = .ok (.ifCond .ne 12, 3) := by decide +kernel
theorem zd_276_283 : decode prog_14_method_118_code 283 = .ok (.aload_n 0, 1) := by decide +kernel
theorem zd_276_284 : decode prog_14_method_118_code 284 = .ok (.invokevirtual 1222, 3) := by decide +kernel
theorem zd_276_287 : decode prog_14_method_118_code 287 = .ok (.bipush 102, 2) := by decide +kernel
theorem zd_276_289 : decode prog_14_method_118_code 289 = .ok (.if_icmp .ne 57, 3) := by decide +kernel
theorem zd_276_346 : decode prog_14_method_118_code 346 = .ok (.aload_n 0, 1) := by decide +kernel
theorem zd_276_347 : decode prog_14_method_118_code 347 = .ok (.aload_n 0, 1) := by decide +kernel
theorem zd_276_348 : decode prog_14_method_118_code 348 = .ok (.getfield 1228, 3) := by decide +kernel
theorem zd_276_351 : decode prog_14_method_118_code 351 = .ok (.ifCond .eq 36, 3) := by decide +kernel
theorem zd_276_354 : decode prog_14_method_118_code 354 = .ok (.aload_n 0, 1) := by decide +kernel
theorem zd_276_355 : decode prog_14_method_118_code 355 = .ok (.getfield 1219, 3) := by decide +kernel
theorem zd_276_358 : decode prog_14_method_118_code 358 = .ok (.iload_n 2, 1) := by decide +kernel
theorem zd_276_359 : decode prog_14_method_118_code 359 = .ok (.isub, 1) := by decide +kernel
theorem zd_276_360 : decode prog_14_method_118_code 360 = .ok (.bipush 10, 2) := by decide +kernel
theorem zd_276_362 : decode prog_14_method_118_code 362 = .ok (.if_icmp .gt 25, 3) := by decide +kernel
theorem zd_276_365 : decode prog_14_method_118_code 365 = .ok (.lload_n 3, 1) := by decide +kernel
theorem zd_276_366 : decode prog_14_method_118_code 366 = .ok (.ldc2_w 1245, 3) := by decide +kernel
theorem zd_276_369 : decode prog_14_method_118_code 369 = .ok (.lcmp, 1) := by decide +kernel
theorem zd_276_370 : decode prog_14_method_118_code 370 = .ok (.ifCond .gt 17, 3) := by decide +kernel
theorem zd_276_373 : decode prog_14_method_118_code 373 = .ok (.aload_n 0, 1) := by decide +kernel
theorem zd_276_374 : decode prog_14_method_118_code 374 = .ok (.invokevirtual 1222, 3) := by decide +kernel
theorem zd_276_377 : decode prog_14_method_118_code 377 = .ok (.invokestatic 1201, 3) := by decide +kernel
theorem zd_276_380 : decode prog_14_method_118_code 380 = .ok (.ifCond .ne 7, 3) := by decide +kernel
theorem zd_276_383 : decode prog_14_method_118_code 383 = .ok (.iconst 1, 1) := by decide +kernel
theorem zd_276_384 : decode prog_14_method_118_code 384 = .ok (.goto 4, 3) := by decide +kernel
theorem zd_276_388 : decode prog_14_method_118_code 388 = .ok (.putfield 1228, 3) := by decide +kernel
theorem zd_276_391 : decode prog_14_method_118_code 391 = .ok (.aload_n 0, 1) := by decide +kernel
theorem zd_276_392 : decode prog_14_method_118_code 392 = .ok (.iload_n 1, 1) := by decide +kernel
theorem zd_276_393 : decode prog_14_method_118_code 393 = .ok (.ifCond .eq 13, 3) := by decide +kernel
theorem zd_276_406 : decode prog_14_method_118_code 406 = .ok (.aload_n 0, 1) := by decide +kernel
theorem zd_276_407 : decode prog_14_method_118_code 407 = .ok (.getfield 1247, 3) := by decide +kernel
theorem zd_276_410 : decode prog_14_method_118_code 410 = .ok (.lload_n 3, 1) := by decide +kernel
theorem zd_276_411 : decode prog_14_method_118_code 411 = .ok (.l2i, 1) := by decide +kernel
theorem zd_276_412 : decode prog_14_method_118_code 412 = .ok (.iadd, 1) := by decide +kernel
theorem zd_276_413 : decode prog_14_method_118_code 413 = .ok (.putfield 1247, 3) := by decide +kernel
theorem zd_277_0 : decode prog_14_method_124_code 0 = .ok (.aload_n 0, 1) := by decide +kernel
theorem zd_277_1 : decode prog_14_method_124_code 1 = .ok (.getfield 1275, 3) := by decide +kernel
theorem zd_277_4 : decode prog_14_method_124_code 4 = .ok (.sipush 16384, 3) := by decide +kernel
theorem zd_277_7 : decode prog_14_method_124_code 7 = .ok (.if_icmp .ne 10, 3) := by decide +kernel
theorem zd_277_17 : decode prog_14_method_124_code 17 = .ok (.aload_n 0, 1) := by decide +kernel
theorem zd_277_18 : decode prog_14_method_124_code 18 = .ok (.getfield 377, 3) := by decide +kernel
theorem zd_277_21 : decode prog_14_method_124_code 21 = .ok (.aload_n 0, 1) := by decide +kernel
theorem zd_277_22 : decode prog_14_method_124_code 22 = .ok (.getfield 1275, 3) := by decide +kernel
theorem zd_277_25 : decode prog_14_method_124_code 25 = .ok (.iload_n 1, 1) := by decide +kernel
theorem zd_277_26 : decode prog_14_method_124_code 26 = .ok (.sipush 255, 3) := by decide +kernel
theorem zd_277_29 : decode prog_14_method_124_code 29 = .ok (.iand, 1) := by decide +kernel
theorem zd_277_30 : decode prog_14_method_124_code 30 = .ok (.iastore, 1) := by decide +kernel
theorem zd_277_31 : decode prog_14_method_124_code 31 = .ok (.aload_n 0, 1) := by decide +kernel
theorem zd_277_32 : decode prog_14_method_124_code 32 = .ok (.getfield 380, 3) := by decide +kernel
theorem zd_277_35 : decode prog_14_method_124_code 35 = .ok (.aload_n 0, 1) := by decide +kernel
theorem zd_277_36 : decode prog_14_method_124_code 36 = .ok (.getfield 1275, 3) := by decide +kernel
theorem zd_277_39 : decode prog_14_method_124_code 39 = .ok (.aload_n 0, 1) := by decide +kernel
theorem zd_277_40 : decode prog_14_method_124_code 40 = .ok (.getfield 1272, 3) := by decide +kernel
theorem zd_277_43 : decode prog_14_method_124_code 43 = .ok (.iastore, 1) := by decide +kernel
theorem zd_277_44 : decode prog_14_method_124_code 44 = .ok (.aload_n 0, 1) := by decide +kernel
theorem zd_277_45 : decode prog_14_method_124_code 45 = .ok (.dup, 1) := by decide +kernel
theorem zd_277_46 : decode prog_14_method_124_code 46 = .ok (.getfield 1275, 3) := by decide +kernel
theorem zd_277_49 : decode prog_14_method_124_code 49 = .ok (.iconst 1, 1) := by decide +kernel
theorem zd_277_50 : decode prog_14_method_124_code 50 = .ok (.iadd, 1) := by decide +kernel
theorem zd_277_51 : decode prog_14_method_124_code 51 = .ok (.putfield 1275, 3) := by decide +kernel
theorem zd_277_54 : decode prog_14_method_124_code 54 = .ok (.aload_n 0, 1) := by decide +kernel
theorem zd_277_55 : decode prog_14_method_124_code 55 = .ok (.getfield 53, 3) := by decide +kernel
theorem zd_277_58 : decode prog_14_method_124_code 58 = .ok (.bipush 64, 2) := by decide +kernel
theorem zd_277_60 : decode prog_14_method_124_code 60 = .ok (.aload_n 0, 1) := by decide +kernel
theorem zd_277_61 : decode prog_14_method_124_code 61 = .ok (.getfield 1174, 3) := by decide +kernel
theorem zd_277_64 : decode prog_14_method_124_code 64 = .ok (.imul, 1) := by decide +kernel
theorem zd_277_65 : decode prog_14_method_124_code 65 = .ok (.aload_n 0, 1) := by decide +kernel
theorem zd_277_66 : decode prog_14_method_124_code 66 = .ok (.getfield 1272, 3) := by decide +kernel
theorem zd_277_69 : decode prog_14_method_124_code 69 = .ok (.iadd, 1) := by decide +kernel
theorem zd_277_70 : decode prog_14_method_124_code 70 = .ok (.dup2, 1) := by decide +kernel
theorem zd_277_71 : decode prog_14_method_124_code 71 = .ok (.iaload, 1) := by decide +kernel
theorem zd_277_72 : decode prog_14_method_124_code 72 = .ok (.iconst 1, 1) := by decide +kernel
theorem zd_277_73 : decode prog_14_method_124_code 73 = .ok (.iadd, 1) := by decide +kernel
theorem zd_277_74 : decode prog_14_method_124_code 74 = .ok (.iastore, 1) := by decide +kernel
