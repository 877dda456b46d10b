/-! decode rows, by program -/
def zdl_276 : List (List (Nat × Instr × Nat)) := [[(0, (.iload_n 1), 1), (1, (.bipush 7), 2), (3, (.if_icmp .ne 13), 3)], [(2, (.aload_n 0), 1), (3, (.ldc 172), 2)], [(1, (.iconst 0), 1), (2, (.invokevirtual 85), 3)], [(1, (.goto 58), 3)], [(0, (.iload_n 1), 1), (1, (.bipush 29), 2), (3, (.if_icmp .ne 13), 3)], [(2, (.aload_n 0), 1), (3, (.ldc 174), 2)], [(1, (.iconst 0), 1), (2, (.invokevirtual 85), 3)], [(1, (.goto 42), 3)], [(0, (.iload_n 1), 1), (1, (.bipush 8), 2), (3, (.if_icmp .ne 13), 3)], [(2, (.aload_n 0), 1), (3, (.ldc 176), 2)], [(1, (.iconst 0), 1), (2, (.invokevirtual 85), 3)], [(1, (.goto 26), 3)], [(0, (.iload_n 1), 1), (1, (.bipush 9), 2), (3, (.if_icmp .ne 13), 3)], [(2, (.aload_n 0), 1), (3, (.ldc 178), 2)], [(1, (.iconst 0), 1), (2, (.invokevirtual 85), 3)], [(1, (.goto 10), 3)], [(0, (.aload_n 0), 1), (1, (.ldc 180), 2), (3, (.iconst 0), 1)], [(0, (.invokevirtual 85), 3)]]
theorem zdk_276 : zsh_all 8 zdl_276 prog_4_method_13_code.data.toList = true := by decide +kernel
theorem zd_276_0 : decode prog_4_method_13_code 0 = .ok (.iload_n 1, 1) := zsh_g zdk_276 (r := 0) (k := 0) rfl rfl rfl
theorem zd_276_1 : decode prog_4_method_13_code 1 = .ok (.bipush 7, 2) := zsh_g zdk_276 (r := 0) (k := 1) rfl rfl rfl
theorem zd_276_3 : decode prog_4_method_13_code 3 = .ok (.if_icmp .ne 13, 3) := zsh_g zdk_276 (r := 0) (k := 2) rfl rfl rfl
theorem zd_276_6 : decode prog_4_method_13_code 6 = .ok (.aload_n 0, 1) := zsh_g zdk_276 (r := 1) (k := 0) rfl rfl rfl
theorem zd_276_7 : decode prog_4_method_13_code 7 = .ok (.ldc 172, 2) := zsh_g zdk_276 (r := 1) (k := 1) rfl rfl rfl
theorem zd_276_9 : decode prog_4_method_13_code 9 = .ok (.iconst 0, 1) := zsh_g zdk_276 (r := 2) (k := 0) rfl rfl rfl
theorem zd_276_10 : decode prog_4_method_13_code 10 = .ok (.invokevirtual 85, 3) := zsh_g zdk_276 (r := 2) (k := 1) rfl rfl rfl
theorem zd_276_13 : decode prog_4_method_13_code 13 = .ok (.goto 58, 3) := zsh_g zdk_276 (r := 3) (k := 0) rfl rfl rfl
theorem zd_276_16 : decode prog_4_method_13_code 16 = .ok (.iload_n 1, 1) := zsh_g zdk_276 (r := 4) (k := 0) rfl rfl rfl
theorem zd_276_17 : decode prog_4_method_13_code 17 = .ok (.bipush 29, 2) := zsh_g zdk_276 (r := 4) (k := 1) rfl rfl rfl
theorem zd_276_19 : decode prog_4_method_13_code 19 = .ok (.if_icmp .ne 13, 3) := zsh_g zdk_276 (r := 4) (k := 2) rfl rfl rfl
theorem zd_276_22 : decode prog_4_method_13_code 22 = .ok (.aload_n 0, 1) := zsh_g zdk_276 (r := 5) (k := 0) rfl rfl rfl
theorem zd_276_23 : decode prog_4_method_13_code 23 = .ok (.ldc 174, 2) := zsh_g zdk_276 (r := 5) (k := 1) rfl rfl rfl
theorem zd_276_25 : decode prog_4_method_13_code 25 = .ok (.iconst 0, 1) := zsh_g zdk_276 (r := 6) (k := 0) rfl rfl rfl
theorem zd_276_26 : decode prog_4_method_13_code 26 = .ok (.invokevirtual 85, 3) := zsh_g zdk_276 (r := 6) (k := 1) rfl rfl rfl
theorem zd_276_29 : decode prog_4_method_13_code 29 = .ok (.goto 42, 3) := zsh_g zdk_276 (r := 7) (k := 0) rfl rfl rfl
theorem zd_276_32 : decode prog_4_method_13_code 32 = .ok (.iload_n 1, 1) := zsh_g zdk_276 (r := 8) (k := 0) rfl rfl rfl
theorem zd_276_33 : decode prog_4_method_13_code 33 = .ok (.bipush 8, 2) := zsh_g zdk_276 (r := 8) (k := 1) rfl rfl rfl
theorem zd_276_35 : decode prog_4_method_13_code 35 = .ok (.if_icmp .ne 13, 3) := zsh_g zdk_276 (r := 8) (k := 2) rfl rfl rfl
theorem zd_276_38 : decode prog_4_method_13_code 38 = .ok (.aload_n 0, 1) := zsh_g zdk_276 (r := 9) (k := 0) rfl rfl rfl
theorem zd_276_39 : decode prog_4_method_13_code 39 = .ok (.ldc 176, 2) := zsh_g zdk_276 (r := 9) (k := 1) rfl rfl rfl
theorem zd_276_41 : decode prog_4_method_13_code 41 = .ok (.iconst 0, 1) := zsh_g zdk_276 (r := 10) (k := 0) rfl rfl rfl
theorem zd_276_42 : decode prog_4_method_13_code 42 = .ok (.invokevirtual 85, 3) := zsh_g zdk_276 (r := 10) (k := 1) rfl rfl rfl
theorem zd_276_45 : decode prog_4_method_13_code 45 = .ok (.goto 26, 3) := zsh_g zdk_276 (r := 11) (k := 0) rfl rfl rfl
theorem zd_276_48 : decode prog_4_method_13_code 48 = .ok (.iload_n 1, 1) := zsh_g zdk_276 (r := 12) (k := 0) rfl rfl rfl
theorem zd_276_49 : decode prog_4_method_13_code 49 = .ok (.bipush 9, 2) := zsh_g zdk_276 (r := 12) (k := 1) rfl rfl rfl
theorem zd_276_51 : decode prog_4_method_13_code 51 = .ok (.if_icmp .ne 13, 3) := zsh_g zdk_276 (r := 12) (k := 2) rfl rfl rfl
theorem zd_276_54 : decode prog_4_method_13_code 54 = .ok (.aload_n 0, 1) := zsh_g zdk_276 (r := 13) (k := 0) rfl rfl rfl
theorem zd_276_55 : decode prog_4_method_13_code 55 = .ok (.ldc 178, 2) := zsh_g zdk_276 (r := 13) (k := 1) rfl rfl rfl
theorem zd_276_57 : decode prog_4_method_13_code 57 = .ok (.iconst 0, 1) := zsh_g zdk_276 (r := 14) (k := 0) rfl rfl rfl
theorem zd_276_58 : decode prog_4_method_13_code 58 = .ok (.invokevirtual 85, 3) := zsh_g zdk_276 (r := 14) (k := 1) rfl rfl rfl
theorem zd_276_61 : decode prog_4_method_13_code 61 = .ok (.goto 10, 3) := zsh_g zdk_276 (r := 15) (k := 0) rfl rfl rfl
theorem zd_276_64 : decode prog_4_method_13_code 64 = .ok (.aload_n 0, 1) := zsh_g zdk_276 (r := 16) (k := 0) rfl rfl rfl
theorem zd_276_65 : decode prog_4_method_13_code 65 = .ok (.ldc 180, 2) := zsh_g zdk_276 (r := 16) (k := 1) rfl rfl rfl
theorem zd_276_67 : decode prog_4_method_13_code 67 = .ok (.iconst 0, 1) := zsh_g zdk_276 (r := 16) (k := 2) rfl rfl rfl
theorem zd_276_68 : decode prog_4_method_13_code 68 = .ok (.invokevirtual 85, 3) := zsh_g zdk_276 (r := 17) (k := 0) rfl rfl rfl
def zdl_277 : List (List (Nat × Instr × Nat)) := [[(0, (.aload_n 0), 1), (1, (.getfield 33), 3)], [(0, (.aload_n 0), 1), (1, (.getfield 10), 3)], [(0, .arraylength, 1), (1, (.if_icmp .ge 14), 3)], [(0, (.aload_n 0), 1), (1, (.getfield 10), 3)], [(0, (.aload_n 0), 1), (1, (.getfield 33), 3)], [(0, (.iload_n 1), 1), (1, .i2b, 1), (2, .bastore, 1), (3, (.aload_n 0), 1)], [(0, .dup, 1), (1, (.getfield 33), 3)], [(0, (.iconst 1), 1), (1, .iadd, 1), (2, (.putfield 33), 3)]]
theorem zdk_277 : zsh_all 8 zdl_277 prog_4_method_7_code.data.toList = true := by decide +kernel
theorem zd_277_0 : decode prog_4_method_7_code 0 = .ok (.aload_n 0, 1) := zsh_g zdk_277 (r := 0) (k := 0) rfl rfl rfl
theorem zd_277_1 : decode prog_4_method_7_code 1 = .ok (.getfield 33, 3) := zsh_g zdk_277 (r := 0) (k := 1) rfl rfl rfl
theorem zd_277_4 : decode prog_4_method_7_code 4 = .ok (.aload_n 0, 1) := zsh_g zdk_277 (r := 1) (k := 0) rfl rfl rfl
theorem zd_277_5 : decode prog_4_method_7_code 5 = .ok (.getfield 10, 3) := zsh_g zdk_277 (r := 1) (k := 1) rfl rfl rfl
theorem zd_277_8 : decode prog_4_method_7_code 8 = .ok (.arraylength, 1) := zsh_g zdk_277 (r := 2) (k := 0) rfl rfl rfl
theorem zd_277_9 : decode prog_4_method_7_code 9 = .ok (.if_icmp .ge 14, 3) := zsh_g zdk_277 (r := 2) (k := 1) rfl rfl rfl
theorem zd_277_12 : decode prog_4_method_7_code 12 = .ok (.aload_n 0, 1) := zsh_g zdk_277 (r := 3) (k := 0) rfl rfl rfl
theorem zd_277_13 : decode prog_4_method_7_code 13 = .ok (.getfield 10, 3) := zsh_g zdk_277 (r := 3) (k := 1) rfl rfl rfl
theorem zd_277_16 : decode prog_4_method_7_code 16 = .ok (.aload_n 0, 1) := zsh_g zdk_277 (r := 4) (k := 0) rfl rfl rfl
theorem zd_277_17 : decode prog_4_method_7_code 17 = .ok (.getfield 33, 3) := zsh_g zdk_277 (r := 4) (k := 1) rfl rfl rfl
theorem zd_277_20 : decode prog_4_method_7_code 20 = .ok (.iload_n 1, 1) := zsh_g zdk_277 (r := 5) (k := 0) rfl rfl rfl
theorem zd_277_21 : decode prog_4_method_7_code 21 = .ok (.i2b, 1) := zsh_g zdk_277 (r := 5) (k := 1) rfl rfl rfl
theorem zd_277_22 : decode prog_4_method_7_code 22 = .ok (.bastore, 1) := zsh_g zdk_277 (r := 5) (k := 2) rfl rfl rfl
theorem zd_277_23 : decode prog_4_method_7_code 23 = .ok (.aload_n 0, 1) := zsh_g zdk_277 (r := 5) (k := 3) rfl rfl rfl
theorem zd_277_24 : decode prog_4_method_7_code 24 = .ok (.dup, 1) := zsh_g zdk_277 (r := 6) (k := 0) rfl rfl rfl
theorem zd_277_25 : decode prog_4_method_7_code 25 = .ok (.getfield 33, 3) := zsh_g zdk_277 (r := 6) (k := 1) rfl rfl rfl
theorem zd_277_28 : decode prog_4_method_7_code 28 = .ok (.iconst 1, 1) := zsh_g zdk_277 (r := 7) (k := 0) rfl rfl rfl
theorem zd_277_29 : decode prog_4_method_7_code 29 = .ok (.iadd, 1) := zsh_g zdk_277 (r := 7) (k := 1) rfl rfl rfl
theorem zd_277_30 : decode prog_4_method_7_code 30 = .ok (.putfield 33, 3) := zsh_g zdk_277 (r := 7) (k := 2) rfl rfl rfl
def zdl_278 : List (List (Nat × Instr × Nat)) := [[(0, (.iconst 1), 1), (1, (.istore_n 2), 1), (2, (.iload_n 2), 1), (3, (.ldc 107), 2)], [(1, (.if_icmp .gt 19), 3)], [(0, (.iload_n 1), 1), (1, (.iload_n 2), 1), (2, .idiv, 1), (3, (.bipush 10), 2)], [(1, (.if_icmp .lt 11), 3)], [(0, (.iload_n 2), 1), (1, (.bipush 10), 2), (3, .imul, 1)], [(0, (.istore_n 2), 1), (1, (.goto (-19)), 3)], [(0, (.iload_n 2), 1), (1, (.ifCond .le 24), 3)], [(0, (.aload_n 0), 1), (1, (.bipush 48), 2), (3, (.iload_n 1), 1)], [(0, (.iload_n 2), 1), (1, .idiv, 1), (2, (.bipush 10), 2)], [(0, .irem, 1), (1, .iadd, 1), (2, (.invokevirtual 99), 3)], [(1, (.iload_n 2), 1), (2, (.bipush 10), 2)], [(0, .idiv, 1), (1, (.istore_n 2), 1), (2, (.goto (-22)), 3)]]
theorem zdk_278 : zsh_all 8 zdl_278 prog_4_method_6_code.data.toList = true := by decide +kernel
theorem zd_278_0 : decode prog_4_method_6_code 0 = .ok (.iconst 1, 1) := zsh_g zdk_278 (r := 0) (k := 0) rfl rfl rfl
theorem zd_278_1 : decode prog_4_method_6_code 1 = .ok (.istore_n 2, 1) := zsh_g zdk_278 (r := 0) (k := 1) rfl rfl rfl
theorem zd_278_2 : decode prog_4_method_6_code 2 = .ok (.iload_n 2, 1) := zsh_g zdk_278 (r := 0) (k := 2) rfl rfl rfl
theorem zd_278_3 : decode prog_4_method_6_code 3 = .ok (.ldc 107, 2) := zsh_g zdk_278 (r := 0) (k := 3) rfl rfl rfl
theorem zd_278_5 : decode prog_4_method_6_code 5 = .ok (.if_icmp .gt 19, 3) := zsh_g zdk_278 (r := 1) (k := 0) rfl rfl rfl
theorem zd_278_8 : decode prog_4_method_6_code 8 = .ok (.iload_n 1, 1) := zsh_g zdk_278 (r := 2) (k := 0) rfl rfl rfl
theorem zd_278_9 : decode prog_4_method_6_code 9 = .ok (.iload_n 2, 1) := zsh_g zdk_278 (r := 2) (k := 1) rfl rfl rfl
theorem zd_278_10 : decode prog_4_method_6_code 10 = .ok (.idiv, 1) := zsh_g zdk_278 (r := 2) (k := 2) rfl rfl rfl
theorem zd_278_11 : decode prog_4_method_6_code 11 = .ok (.bipush 10, 2) := zsh_g zdk_278 (r := 2) (k := 3) rfl rfl rfl
theorem zd_278_13 : decode prog_4_method_6_code 13 = .ok (.if_icmp .lt 11, 3) := zsh_g zdk_278 (r := 3) (k := 0) rfl rfl rfl
theorem zd_278_16 : decode prog_4_method_6_code 16 = .ok (.iload_n 2, 1) := zsh_g zdk_278 (r := 4) (k := 0) rfl rfl rfl
theorem zd_278_17 : decode prog_4_method_6_code 17 = .ok (.bipush 10, 2) := zsh_g zdk_278 (r := 4) (k := 1) rfl rfl rfl
theorem zd_278_19 : decode prog_4_method_6_code 19 = .ok (.imul, 1) := zsh_g zdk_278 (r := 4) (k := 2) rfl rfl rfl
theorem zd_278_20 : decode prog_4_method_6_code 20 = .ok (.istore_n 2, 1) := zsh_g zdk_278 (r := 5) (k := 0) rfl rfl rfl
theorem zd_278_21 : decode prog_4_method_6_code 21 = .ok (.goto (-19), 3) := zsh_g zdk_278 (r := 5) (k := 1) rfl rfl rfl
theorem zd_278_24 : decode prog_4_method_6_code 24 = .ok (.iload_n 2, 1) := zsh_g zdk_278 (r := 6) (k := 0) rfl rfl rfl
theorem zd_278_25 : decode prog_4_method_6_code 25 = .ok (.ifCond .le 24, 3) := zsh_g zdk_278 (r := 6) (k := 1) rfl rfl rfl
theorem zd_278_28 : decode prog_4_method_6_code 28 = .ok (.aload_n 0, 1) := zsh_g zdk_278 (r := 7) (k := 0) rfl rfl rfl
theorem zd_278_29 : decode prog_4_method_6_code 29 = .ok (.bipush 48, 2) := zsh_g zdk_278 (r := 7) (k := 1) rfl rfl rfl
theorem zd_278_31 : decode prog_4_method_6_code 31 = .ok (.iload_n 1, 1) := zsh_g zdk_278 (r := 7) (k := 2) rfl rfl rfl
theorem zd_278_32 : decode prog_4_method_6_code 32 = .ok (.iload_n 2, 1) := zsh_g zdk_278 (r := 8) (k := 0) rfl rfl rfl
theorem zd_278_33 : decode prog_4_method_6_code 33 = .ok (.idiv, 1) := zsh_g zdk_278 (r := 8) (k := 1) rfl rfl rfl
theorem zd_278_34 : decode prog_4_method_6_code 34 = .ok (.bipush 10, 2) := zsh_g zdk_278 (r := 8) (k := 2) rfl rfl rfl
theorem zd_278_36 : decode prog_4_method_6_code 36 = .ok (.irem, 1) := zsh_g zdk_278 (r := 9) (k := 0) rfl rfl rfl
theorem zd_278_37 : decode prog_4_method_6_code 37 = .ok (.iadd, 1) := zsh_g zdk_278 (r := 9) (k := 1) rfl rfl rfl
theorem zd_278_38 : decode prog_4_method_6_code 38 = .ok (.invokevirtual 99, 3) := zsh_g zdk_278 (r := 9) (k := 2) rfl rfl rfl
theorem zd_278_41 : decode prog_4_method_6_code 41 = .ok (.iload_n 2, 1) := zsh_g zdk_278 (r := 10) (k := 0) rfl rfl rfl
theorem zd_278_42 : decode prog_4_method_6_code 42 = .ok (.bipush 10, 2) := zsh_g zdk_278 (r := 10) (k := 1) rfl rfl rfl
theorem zd_278_44 : decode prog_4_method_6_code 44 = .ok (.idiv, 1) := zsh_g zdk_278 (r := 11) (k := 0) rfl rfl rfl
theorem zd_278_45 : decode prog_4_method_6_code 45 = .ok (.istore_n 2, 1) := zsh_g zdk_278 (r := 11) (k := 1) rfl rfl rfl
theorem zd_278_46 : decode prog_4_method_6_code 46 = .ok (.goto (-22), 3) := zsh_g zdk_278 (r := 11) (k := 2) rfl rfl rfl
def zdl_279 : List (List (Nat × Instr × Nat)) := [[(0, (.iload_n 1), 1), (1, (.aload_n 0), 1), (2, (.getfield 27), 3)], [(1, (.if_icmp .lt 9), 3)], [(0, (.iload_n 1), 1), (1, (.bipush 6), 2), (3, (.if_icmp .ne 16), 3)], [(2, (.aload_n 0), 1), (3, (.getfield 23), 3)], [(2, (.iload_n 1), 1), (3, .aaload, 1)], [(0, (.ifnull 7), 3), (3, (.iconst 1), 1)], [(0, (.goto 4), 3), (3, (.iconst 0), 1)]]
theorem zdk_279 : zsh_all 8 zdl_279 prog_6_method_3_code.data.toList = true := by decide +kernel
theorem zd_279_0 : decode prog_6_method_3_code 0 = .ok (.iload_n 1, 1) := zsh_g zdk_279 (r := 0) (k := 0) rfl rfl rfl
theorem zd_279_1 : decode prog_6_method_3_code 1 = .ok (.aload_n 0, 1) := zsh_g zdk_279 (r := 0) (k := 1) rfl rfl rfl
theorem zd_279_2 : decode prog_6_method_3_code 2 = .ok (.getfield 27, 3) := zsh_g zdk_279 (r := 0) (k := 2) rfl rfl rfl
theorem zd_279_5 : decode prog_6_method_3_code 5 = .ok (.if_icmp .lt 9, 3) := zsh_g zdk_279 (r := 1) (k := 0) rfl rfl rfl
theorem zd_279_8 : decode prog_6_method_3_code 8 = .ok (.iload_n 1, 1) := zsh_g zdk_279 (r := 2) (k := 0) rfl rfl rfl
theorem zd_279_9 : decode prog_6_method_3_code 9 = .ok (.bipush 6, 2) := zsh_g zdk_279 (r := 2) (k := 1) rfl rfl rfl
theorem zd_279_11 : decode prog_6_method_3_code 11 = .ok (.if_icmp .ne 16, 3) := zsh_g zdk_279 (r := 2) (k := 2) rfl rfl rfl
theorem zd_279_14 : decode prog_6_method_3_code 14 = .ok (.aload_n 0, 1) := zsh_g zdk_279 (r := 3) (k := 0) rfl rfl rfl
theorem zd_279_15 : decode prog_6_method_3_code 15 = .ok (.getfield 23, 3) := zsh_g zdk_279 (r := 3) (k := 1) rfl rfl rfl
theorem zd_279_18 : decode prog_6_method_3_code 18 = .ok (.iload_n 1, 1) := zsh_g zdk_279 (r := 4) (k := 0) rfl rfl rfl
theorem zd_279_19 : decode prog_6_method_3_code 19 = .ok (.aaload, 1) := zsh_g zdk_279 (r := 4) (k := 1) rfl rfl rfl
theorem zd_279_20 : decode prog_6_method_3_code 20 = .ok (.ifnull 7, 3) := zsh_g zdk_279 (r := 5) (k := 0) rfl rfl rfl
theorem zd_279_23 : decode prog_6_method_3_code 23 = .ok (.iconst 1, 1) := zsh_g zdk_279 (r := 5) (k := 1) rfl rfl rfl
theorem zd_279_24 : decode prog_6_method_3_code 24 = .ok (.goto 4, 3) := zsh_g zdk_279 (r := 6) (k := 0) rfl rfl rfl
theorem zd_279_27 : decode prog_6_method_3_code 27 = .ok (.iconst 0, 1) := zsh_g zdk_279 (r := 6) (k := 1) rfl rfl rfl
def zdl_280 : List (List (Nat × Instr × Nat)) := [[(0, (.iload_n 2), 1), (1, (.bipush 6), 2), (3, .imul, 1)], [(0, (.iconst 4), 1), (1, .iadd, 1), (2, (.istore_n 3), 1), (3, (.aload_n 0), 1)], [(0, (.getfield 23), 3), (3, (.iload_n 1), 1)], [(0, .aaload, 1), (1, (.getfield 116), 3)], [(0, (.iload_n 3), 1), (1, .iaload, 1), (2, (.ifCond .ne 52), 3)], [(1, (.aload_n 0), 1), (2, (.getfield 122), 3)], [(1, (.aload_n 0), 1), (2, (.getfield 9), 3)], [(1, .arraylength, 1), (2, (.if_icmp .ge 40), 3)], [(1, (.aload_n 0), 1), (2, (.getfield 23), 3)], [(1, (.iload_n 1), 1), (2, .aaload, 1), (3, (.getfield 116), 3)], [(2, (.iload_n 3), 1), (3, (.iconst 1), 1)], [(0, .iastore, 1), (1, (.aload_n 0), 1), (2, (.getfield 9), 3)], [(1, (.aload_n 0), 1), (2, (.getfield 122), 3)], [(1, (.iload_n 1), 1), (2, (.bipush 64), 2)], [(0, .imul, 1), (1, (.iload_n 2), 1), (2, .iadd, 1), (3, .iastore, 1)], [(0, (.aload_n 0), 1), (1, .dup, 1), (2, (.getfield 122), 3)], [(1, (.iconst 1), 1), (2, .iadd, 1), (3, (.putfield 122), 3)]]
theorem zdk_280 : zsh_all 8 zdl_280 prog_6_method_9_code.data.toList = true := by decide +kernel
theorem zd_280_0 : decode prog_6_method_9_code 0 = .ok (.iload_n 2, 1) := zsh_g zdk_280 (r := 0) (k := 0) rfl rfl rfl
theorem zd_280_1 : decode prog_6_method_9_code 1 = .ok (.bipush 6, 2) := zsh_g zdk_280 (r := 0) (k := 1) rfl rfl rfl
theorem zd_280_3 : decode prog_6_method_9_code 3 = .ok (.imul, 1) := zsh_g zdk_280 (r := 0) (k := 2) rfl rfl rfl
theorem zd_280_4 : decode prog_6_method_9_code 4 = .ok (.iconst 4, 1) := zsh_g zdk_280 (r := 1) (k := 0) rfl rfl rfl
theorem zd_280_5 : decode prog_6_method_9_code 5 = .ok (.iadd, 1) := zsh_g zdk_280 (r := 1) (k := 1) rfl rfl rfl
theorem zd_280_6 : decode prog_6_method_9_code 6 = .ok (.istore_n 3, 1) := zsh_g zdk_280 (r := 1) (k := 2) rfl rfl rfl
theorem zd_280_7 : decode prog_6_method_9_code 7 = .ok (.aload_n 0, 1) := zsh_g zdk_280 (r := 1) (k := 3) rfl rfl rfl
theorem zd_280_8 : decode prog_6_method_9_code 8 = .ok (.getfield 23, 3) := zsh_g zdk_280 (r := 2) (k := 0) rfl rfl rfl
theorem zd_280_11 : decode prog_6_method_9_code 11 = .ok (.iload_n 1, 1) := zsh_g zdk_280 (r := 2) (k := 1) rfl rfl rfl
theorem zd_280_12 : decode prog_6_method_9_code 12 = .ok (.aaload, 1) := zsh_g zdk_280 (r := 3) (k := 0) rfl rfl rfl
theorem zd_280_13 : decode prog_6_method_9_code 13 = .ok (.getfield 116, 3) := zsh_g zdk_280 (r := 3) (k := 1) rfl rfl rfl
theorem zd_280_16 : decode prog_6_method_9_code 16 = .ok (.iload_n 3, 1) := zsh_g zdk_280 (r := 4) (k := 0) rfl rfl rfl
theorem zd_280_17 : decode prog_6_method_9_code 17 = .ok (.iaload, 1) := zsh_g zdk_280 (r := 4) (k := 1) rfl rfl rfl
theorem zd_280_18 : decode prog_6_method_9_code 18 = .ok (.ifCond .ne 52, 3) := zsh_g zdk_280 (r := 4) (k := 2) rfl rfl rfl
theorem zd_280_21 : decode prog_6_method_9_code 21 = .ok (.aload_n 0, 1) := zsh_g zdk_280 (r := 5) (k := 0) rfl rfl rfl
theorem zd_280_22 : decode prog_6_method_9_code 22 = .ok (.getfield 122, 3) := zsh_g zdk_280 (r := 5) (k := 1) rfl rfl rfl
theorem zd_280_25 : decode prog_6_method_9_code 25 = .ok (.aload_n 0, 1) := zsh_g zdk_280 (r := 6) (k := 0) rfl rfl rfl
theorem zd_280_26 : decode prog_6_method_9_code 26 = .ok (.getfield 9, 3) := zsh_g zdk_280 (r := 6) (k := 1) rfl rfl rfl
theorem zd_280_29 : decode prog_6_method_9_code 29 = .ok (.arraylength, 1) := zsh_g zdk_280 (r := 7) (k := 0) rfl rfl rfl
theorem zd_280_30 : decode prog_6_method_9_code 30 = .ok (.if_icmp .ge 40, 3) := zsh_g zdk_280 (r := 7) (k := 1) rfl rfl rfl
theorem zd_280_33 : decode prog_6_method_9_code 33 = .ok (.aload_n 0, 1) := zsh_g zdk_280 (r := 8) (k := 0) rfl rfl rfl
theorem zd_280_34 : decode prog_6_method_9_code 34 = .ok (.getfield 23, 3) := zsh_g zdk_280 (r := 8) (k := 1) rfl rfl rfl
theorem zd_280_37 : decode prog_6_method_9_code 37 = .ok (.iload_n 1, 1) := zsh_g zdk_280 (r := 9) (k := 0) rfl rfl rfl
theorem zd_280_38 : decode prog_6_method_9_code 38 = .ok (.aaload, 1) := zsh_g zdk_280 (r := 9) (k := 1) rfl rfl rfl
theorem zd_280_39 : decode prog_6_method_9_code 39 = .ok (.getfield 116, 3) := zsh_g zdk_280 (r := 9) (k := 2) rfl rfl rfl
theorem zd_280_42 : decode prog_6_method_9_code 42 = .ok (.iload_n 3, 1) := zsh_g zdk_280 (r := 10) (k := 0) rfl rfl rfl
theorem zd_280_43 : decode prog_6_method_9_code 43 = .ok (.iconst 1, 1) := zsh_g zdk_280 (r := 10) (k := 1) rfl rfl rfl
theorem zd_280_44 : decode prog_6_method_9_code 44 = .ok (.iastore, 1) := zsh_g zdk_280 (r := 11) (k := 0) rfl rfl rfl
theorem zd_280_45 : decode prog_6_method_9_code 45 = .ok (.aload_n 0, 1) := zsh_g zdk_280 (r := 11) (k := 1) rfl rfl rfl
theorem zd_280_46 : decode prog_6_method_9_code 46 = .ok (.getfield 9, 3) := zsh_g zdk_280 (r := 11) (k := 2) rfl rfl rfl
theorem zd_280_49 : decode prog_6_method_9_code 49 = .ok (.aload_n 0, 1) := zsh_g zdk_280 (r := 12) (k := 0) rfl rfl rfl
theorem zd_280_50 : decode prog_6_method_9_code 50 = .ok (.getfield 122, 3) := zsh_g zdk_280 (r := 12) (k := 1) rfl rfl rfl
theorem zd_280_53 : decode prog_6_method_9_code 53 = .ok (.iload_n 1, 1) := zsh_g zdk_280 (r := 13) (k := 0) rfl rfl rfl
theorem zd_280_54 : decode prog_6_method_9_code 54 = .ok (.bipush 64, 2) := zsh_g zdk_280 (r := 13) (k := 1) rfl rfl rfl
theorem zd_280_56 : decode prog_6_method_9_code 56 = .ok (.imul, 1) := zsh_g zdk_280 (r := 14) (k := 0) rfl rfl rfl
theorem zd_280_57 : decode prog_6_method_9_code 57 = .ok (.iload_n 2, 1) := zsh_g zdk_280 (r := 14) (k := 1) rfl rfl rfl
theorem zd_280_58 : decode prog_6_method_9_code 58 = .ok (.iadd, 1) := zsh_g zdk_280 (r := 14) (k := 2) rfl rfl rfl
theorem zd_280_59 : decode prog_6_method_9_code 59 = .ok (.iastore, 1) := zsh_g zdk_280 (r := 14) (k := 3) rfl rfl rfl
theorem zd_280_60 : decode prog_6_method_9_code 60 = .ok (.aload_n 0, 1) := zsh_g zdk_280 (r := 15) (k := 0) rfl rfl rfl
theorem zd_280_61 : decode prog_6_method_9_code 61 = .ok (.dup, 1) := zsh_g zdk_280 (r := 15) (k := 1) rfl rfl rfl
theorem zd_280_62 : decode prog_6_method_9_code 62 = .ok (.getfield 122, 3) := zsh_g zdk_280 (r := 15) (k := 2) rfl rfl rfl
theorem zd_280_65 : decode prog_6_method_9_code 65 = .ok (.iconst 1, 1) := zsh_g zdk_280 (r := 16) (k := 0) rfl rfl rfl
theorem zd_280_66 : decode prog_6_method_9_code 66 = .ok (.iadd, 1) := zsh_g zdk_280 (r := 16) (k := 1) rfl rfl rfl
theorem zd_280_67 : decode prog_6_method_9_code 67 = .ok (.putfield 122, 3) := zsh_g zdk_280 (r := 16) (k := 2) rfl rfl rfl
def zdl_281 : List (List (Nat × Instr × Nat)) := [[(0, (.aload_n 0), 1), (1, (.getfield 23), 3)], [(0, (.iload_n 1), 1), (1, .aaload, 1), (2, (.astore_n 3), 1), (3, (.iload_n 2), 1)], [(0, (.bipush 6), 2), (2, .imul, 1), (3, (.istore 4), 2)], [(1, (.aload_n 0), 1), (2, (.iload_n 1), 1), (3, (.putfield 98), 3)], [(2, (.aload_n 0), 1), (3, (.aload_n 3), 1)], [(0, (.getfield 101), 3), (3, (.iload 4), 2)], [(1, (.iconst 3), 1), (2, .iadd, 1), (3, .iaload, 1)], [(0, (.putfield 104), 3), (3, (.aload_n 0), 1)], [(0, (.aload_n 3), 1), (1, (.getfield 101), 3)], [(0, (.iload 4), 2), (2, (.iconst 4), 1), (3, .iadd, 1)], [(0, .iaload, 1), (1, (.putfield 107), 3)], [(0, (.aload_n 0), 1), (1, (.getfield 104), 3)], [(0, (.ifCond .lt 5), 3), (3, (.iconst 1), 1)], [(1, (.aload_n 0), 1), (2, (.getfield 15), 3)], [(1, (.aload_n 3), 1), (2, (.getfield 110), 3)], [(1, (.iconst 2), 1), (2, (.iload_n 2), 1), (3, .imul, 1)], [(0, .laload, 1), (1, (.aload_n 3), 1), (2, (.getfield 110), 3)], [(1, (.iconst 2), 1), (2, (.iload_n 2), 1), (3, .imul, 1)], [(0, (.iconst 1), 1), (1, .iadd, 1), (2, .laload, 1), (3, (.invokevirtual 113), 3)], [(2, (.istore 5), 2)], [(0, (.iload 5), 2), (2, (.ifCond .ge 7), 3)], [(1, (.iconst (-1)), 1), (2, (.goto 13), 3)], [(1, (.aload_n 0), 1), (2, (.getfield 15), 3)], [(1, (.getfield 95), 3)], [(0, (.iload 5), 2), (2, .iaload, 1), (3, (.istore 6), 2)], [(1, (.iload 6), 2), (3, (.ifCond .ge 5), 3)], [(2, (.iconst 0), 1)], [(0, (.aload_n 0), 1), (1, (.iload 6), 2), (3, (.bipush 10), 2)], [(1, .ishr, 1), (2, (.putfield 98), 3)], [(1, (.iload 6), 2), (3, (.sipush 1023), 3)], [(2, .iand, 1), (3, (.iconst 5), 1)], [(0, .imul, 1), (1, (.istore 7), 2), (3, (.aload_n 0), 1)], [(0, (.aload_n 0), 1), (1, (.getfield 23), 3)], [(0, (.aload_n 0), 1), (1, (.getfield 98), 3)], [(0, .aaload, 1), (1, (.getfield 84), 3)], [(0, (.iload 7), 2), (2, (.iconst 0), 1), (3, .iadd, 1)], [(0, .iaload, 1), (1, (.putfield 104), 3)], [(0, (.aload_n 0), 1), (1, .dup, 1), (2, (.getfield 107), 3)], [(1, (.aload_n 0), 1), (2, (.getfield 23), 3)], [(1, (.aload_n 0), 1), (2, (.getfield 98), 3)], [(1, .aaload, 1), (2, (.getfield 84), 3)], [(1, (.iload 7), 2), (3, (.iconst 1), 1)], [(0, .iadd, 1), (1, .iaload, 1), (2, .iadd, 1), (3, (.putfield 107), 3)], [(2, (.iconst 1), 1)]]
theorem zdk_281 : zsh_all 8 zdl_281 prog_6_method_6_code.data.toList = true := by decide +kernel
theorem zd_281_0 : decode prog_6_method_6_code 0 = .ok (.aload_n 0, 1) := zsh_g zdk_281 (r := 0) (k := 0) rfl rfl rfl
theorem zd_281_1 : decode prog_6_method_6_code 1 = .ok (.getfield 23, 3) := zsh_g zdk_281 (r := 0) (k := 1) rfl rfl rfl
theorem zd_281_4 : decode prog_6_method_6_code 4 = .ok (.iload_n 1, 1) := zsh_g zdk_281 (r := 1) (k := 0) rfl rfl rfl
theorem zd_281_5 : decode prog_6_method_6_code 5 = .ok (.aaload, 1) := zsh_g zdk_281 (r := 1) (k := 1) rfl rfl rfl
theorem zd_281_6 : decode prog_6_method_6_code 6 = .ok (.astore_n 3, 1) := zsh_g zdk_281 (r := 1) (k := 2) rfl rfl rfl
theorem zd_281_7 : decode prog_6_method_6_code 7 = .ok (.iload_n 2, 1) := zsh_g zdk_281 (r := 1) (k := 3) rfl rfl rfl
theorem zd_281_8 : decode prog_6_method_6_code 8 = .ok (.bipush 6, 2) := zsh_g zdk_281 (r := 2) (k := 0) rfl rfl rfl
theorem zd_281_10 : decode prog_6_method_6_code 10 = .ok (.imul, 1) := zsh_g zdk_281 (r := 2) (k := 1) rfl rfl rfl
theorem zd_281_11 : decode prog_6_method_6_code 11 = .ok (.istore 4, 2) := zsh_g zdk_281 (r := 2) (k := 2) rfl rfl rfl
theorem zd_281_13 : decode prog_6_method_6_code 13 = .ok (.aload_n 0, 1) := zsh_g zdk_281 (r := 3) (k := 0) rfl rfl rfl
theorem zd_281_14 : decode prog_6_method_6_code 14 = .ok (.iload_n 1, 1) := zsh_g zdk_281 (r := 3) (k := 1) rfl rfl rfl
theorem zd_281_15 : decode prog_6_method_6_code 15 = .ok (.putfield 98, 3) := zsh_g zdk_281 (r := 3) (k := 2) rfl rfl rfl
theorem zd_281_18 : decode prog_6_method_6_code 18 = .ok (.aload_n 0, 1) := zsh_g zdk_281 (r := 4) (k := 0) rfl rfl rfl
theorem zd_281_19 : decode prog_6_method_6_code 19 = .ok (.aload_n 3, 1) := zsh_g zdk_281 (r := 4) (k := 1) rfl rfl rfl
theorem zd_281_20 : decode prog_6_method_6_code 20 = .ok (.getfield 101, 3) := zsh_g zdk_281 (r := 5) (k := 0) rfl rfl rfl
theorem zd_281_23 : decode prog_6_method_6_code 23 = .ok (.iload 4, 2) := zsh_g zdk_281 (r := 5) (k := 1) rfl rfl rfl
theorem zd_281_25 : decode prog_6_method_6_code 25 = .ok (.iconst 3, 1) := zsh_g zdk_281 (r := 6) (k := 0) rfl rfl rfl
theorem zd_281_26 : decode prog_6_method_6_code 26 = .ok (.iadd, 1) := zsh_g zdk_281 (r := 6) (k := 1) rfl rfl rfl
theorem zd_281_27 : decode prog_6_method_6_code 27 = .ok (.iaload, 1) := zsh_g zdk_281 (r := 6) (k := 2) rfl rfl rfl
theorem zd_281_28 : decode prog_6_method_6_code 28 = .ok (.putfield 104, 3) := zsh_g zdk_281 (r := 7) (k := 0) rfl rfl rfl
theorem zd_281_31 : decode prog_6_method_6_code 31 = .ok (.aload_n 0, 1) := zsh_g zdk_281 (r := 7) (k := 1) rfl rfl rfl
theorem zd_281_32 : decode prog_6_method_6_code 32 = .ok (.aload_n 3, 1) := zsh_g zdk_281 (r := 8) (k := 0) rfl rfl rfl
theorem zd_281_33 : decode prog_6_method_6_code 33 = .ok (.getfield 101, 3) := zsh_g zdk_281 (r := 8) (k := 1) rfl rfl rfl
theorem zd_281_36 : decode prog_6_method_6_code 36 = .ok (.iload 4, 2) := zsh_g zdk_281 (r := 9) (k := 0) rfl rfl rfl
theorem zd_281_38 : decode prog_6_method_6_code 38 = .ok (.iconst 4, 1) := zsh_g zdk_281 (r := 9) (k := 1) rfl rfl rfl
theorem zd_281_39 : decode prog_6_method_6_code 39 = .ok (.iadd, 1) := zsh_g zdk_281 (r := 9) (k := 2) rfl rfl rfl
theorem zd_281_40 : decode prog_6_method_6_code 40 = .ok (.iaload, 1) := zsh_g zdk_281 (r := 10) (k := 0) rfl rfl rfl
theorem zd_281_41 : decode prog_6_method_6_code 41 = .ok (.putfield 107, 3) := zsh_g zdk_281 (r := 10) (k := 1) rfl rfl rfl
theorem zd_281_44 : decode prog_6_method_6_code 44 = .ok (.aload_n 0, 1) := zsh_g zdk_281 (r := 11) (k := 0) rfl rfl rfl
theorem zd_281_45 : decode prog_6_method_6_code 45 = .ok (.getfield 104, 3) := zsh_g zdk_281 (r := 11) (k := 1) rfl rfl rfl
theorem zd_281_48 : decode prog_6_method_6_code 48 = .ok (.ifCond .lt 5, 3) := zsh_g zdk_281 (r := 12) (k := 0) rfl rfl rfl
theorem zd_281_51 : decode prog_6_method_6_code 51 = .ok (.iconst 1, 1) := zsh_g zdk_281 (r := 12) (k := 1) rfl rfl rfl
theorem zd_281_53 : decode prog_6_method_6_code 53 = .ok (.aload_n 0, 1) := zsh_g zdk_281 (r := 13) (k := 0) rfl rfl rfl
theorem zd_281_54 : decode prog_6_method_6_code 54 = .ok (.getfield 15, 3) := zsh_g zdk_281 (r := 13) (k := 1) rfl rfl rfl
theorem zd_281_57 : decode prog_6_method_6_code 57 = .ok (.aload_n 3, 1) := zsh_g zdk_281 (r := 14) (k := 0) rfl rfl rfl
theorem zd_281_58 : decode prog_6_method_6_code 58 = .ok (.getfield 110, 3) := zsh_g zdk_281 (r := 14) (k := 1) rfl rfl rfl
theorem zd_281_61 : decode prog_6_method_6_code 61 = .ok (.iconst 2, 1) := zsh_g zdk_281 (r := 15) (k := 0) rfl rfl rfl
theorem zd_281_62 : decode prog_6_method_6_code 62 = .ok (.iload_n 2, 1) := zsh_g zdk_281 (r := 15) (k := 1) rfl rfl rfl
theorem zd_281_63 : decode prog_6_method_6_code 63 = .ok (.imul, 1) := zsh_g zdk_281 (r := 15) (k := 2) rfl rfl rfl
theorem zd_281_64 : decode prog_6_method_6_code 64 = .ok (.laload, 1) := zsh_g zdk_281 (r := 16) (k := 0) rfl rfl rfl
theorem zd_281_65 : decode prog_6_method_6_code 65 = .ok (.aload_n 3, 1) := zsh_g zdk_281 (r := 16) (k := 1) rfl rfl rfl
theorem zd_281_66 : decode prog_6_method_6_code 66 = .ok (.getfield 110, 3) := zsh_g zdk_281 (r := 16) (k := 2) rfl rfl rfl
theorem zd_281_69 : decode prog_6_method_6_code 69 = .ok (.iconst 2, 1) := zsh_g zdk_281 (r := 17) (k := 0) rfl rfl rfl
theorem zd_281_70 : decode prog_6_method_6_code 70 = .ok (.iload_n 2, 1) := zsh_g zdk_281 (r := 17) (k := 1) rfl rfl rfl
theorem zd_281_71 : decode prog_6_method_6_code 71 = .ok (.imul, 1) := zsh_g zdk_281 (r := 17) (k := 2) rfl rfl rfl
theorem zd_281_72 : decode prog_6_method_6_code 72 = .ok (.iconst 1, 1) := zsh_g zdk_281 (r := 18) (k := 0) rfl rfl rfl
theorem zd_281_73 : decode prog_6_method_6_code 73 = .ok (.iadd, 1) := zsh_g zdk_281 (r := 18) (k := 1) rfl rfl rfl
theorem zd_281_74 : decode prog_6_method_6_code 74 = .ok (.laload, 1) := zsh_g zdk_281 (r := 18) (k := 2) rfl rfl rfl
theorem zd_281_75 : decode prog_6_method_6_code 75 = .ok (.invokevirtual 113, 3) := zsh_g zdk_281 (r := 18) (k := 3) rfl rfl rfl
theorem zd_281_78 : decode prog_6_method_6_code 78 = .ok (.istore 5, 2) := zsh_g zdk_281 (r := 19) (k := 0) rfl rfl rfl
theorem zd_281_80 : decode prog_6_method_6_code 80 = .ok (.iload 5, 2) := zsh_g zdk_281 (r := 20) (k := 0) rfl rfl rfl
theorem zd_281_82 : decode prog_6_method_6_code 82 = .ok (.ifCond .ge 7, 3) := zsh_g zdk_281 (r := 20) (k := 1) rfl rfl rfl
theorem zd_281_85 : decode prog_6_method_6_code 85 = .ok (.iconst (-1), 1) := zsh_g zdk_281 (r := 21) (k := 0) rfl rfl rfl
theorem zd_281_86 : decode prog_6_method_6_code 86 = .ok (.goto 13, 3) := zsh_g zdk_281 (r := 21) (k := 1) rfl rfl rfl
theorem zd_281_89 : decode prog_6_method_6_code 89 = .ok (.aload_n 0, 1) := zsh_g zdk_281 (r := 22) (k := 0) rfl rfl rfl
theorem zd_281_90 : decode prog_6_method_6_code 90 = .ok (.getfield 15, 3) := zsh_g zdk_281 (r := 22) (k := 1) rfl rfl rfl
theorem zd_281_93 : decode prog_6_method_6_code 93 = .ok (.getfield 95, 3) := zsh_g zdk_281 (r := 23) (k := 0) rfl rfl rfl
theorem zd_281_96 : decode prog_6_method_6_code 96 = .ok (.iload 5, 2) := zsh_g zdk_281 (r := 24) (k := 0) rfl rfl rfl
theorem zd_281_98 : decode prog_6_method_6_code 98 = .ok (.iaload, 1) := zsh_g zdk_281 (r := 24) (k := 1) rfl rfl rfl
theorem zd_281_99 : decode prog_6_method_6_code 99 = .ok (.istore 6, 2) := zsh_g zdk_281 (r := 24) (k := 2) rfl rfl rfl
theorem zd_281_101 : decode prog_6_method_6_code 101 = .ok (.iload 6, 2) := zsh_g zdk_281 (r := 25) (k := 0) rfl rfl rfl
theorem zd_281_103 : decode prog_6_method_6_code 103 = .ok (.ifCond .ge 5, 3) := zsh_g zdk_281 (r := 25) (k := 1) rfl rfl rfl
theorem zd_281_106 : decode prog_6_method_6_code 106 = .ok (.iconst 0, 1) := zsh_g zdk_281 (r := 26) (k := 0) rfl rfl rfl
theorem zd_281_108 : decode prog_6_method_6_code 108 = .ok (.aload_n 0, 1) := zsh_g zdk_281 (r := 27) (k := 0) rfl rfl rfl
theorem zd_281_109 : decode prog_6_method_6_code 109 = .ok (.iload 6, 2) := zsh_g zdk_281 (r := 27) (k := 1) rfl rfl rfl
theorem zd_281_111 : decode prog_6_method_6_code 111 = .ok (.bipush 10, 2) := zsh_g zdk_281 (r := 27) (k := 2) rfl rfl rfl
theorem zd_281_113 : decode prog_6_method_6_code 113 = .ok (.ishr, 1) := zsh_g zdk_281 (r := 28) (k := 0) rfl rfl rfl
theorem zd_281_114 : decode prog_6_method_6_code 114 = .ok (.putfield 98, 3) := zsh_g zdk_281 (r := 28) (k := 1) rfl rfl rfl
theorem zd_281_117 : decode prog_6_method_6_code 117 = .ok (.iload 6, 2) := zsh_g zdk_281 (r := 29) (k := 0) rfl rfl rfl
theorem zd_281_119 : decode prog_6_method_6_code 119 = .ok (.sipush 1023, 3) := zsh_g zdk_281 (r := 29) (k := 1) rfl rfl rfl
theorem zd_281_122 : decode prog_6_method_6_code 122 = .ok (.iand, 1) := zsh_g zdk_281 (r := 30) (k := 0) rfl rfl rfl
theorem zd_281_123 : decode prog_6_method_6_code 123 = .ok (.iconst 5, 1) := zsh_g zdk_281 (r := 30) (k := 1) rfl rfl rfl
theorem zd_281_124 : decode prog_6_method_6_code 124 = .ok (.imul, 1) := zsh_g zdk_281 (r := 31) (k := 0) rfl rfl rfl
theorem zd_281_125 : decode prog_6_method_6_code 125 = .ok (.istore 7, 2) := zsh_g zdk_281 (r := 31) (k := 1) rfl rfl rfl
theorem zd_281_127 : decode prog_6_method_6_code 127 = .ok (.aload_n 0, 1) := zsh_g zdk_281 (r := 31) (k := 2) rfl rfl rfl
theorem zd_281_128 : decode prog_6_method_6_code 128 = .ok (.aload_n 0, 1) := zsh_g zdk_281 (r := 32) (k := 0) rfl rfl rfl
theorem zd_281_129 : decode prog_6_method_6_code 129 = .ok (.getfield 23, 3) := zsh_g zdk_281 (r := 32) (k := 1) rfl rfl rfl
theorem zd_281_132 : decode prog_6_method_6_code 132 = .ok (.aload_n 0, 1) := zsh_g zdk_281 (r := 33) (k := 0) rfl rfl rfl
theorem zd_281_133 : decode prog_6_method_6_code 133 = .ok (.getfield 98, 3) := zsh_g zdk_281 (r := 33) (k := 1) rfl rfl rfl
theorem zd_281_136 : decode prog_6_method_6_code 136 = .ok (.aaload, 1) := zsh_g zdk_281 (r := 34) (k := 0) rfl rfl rfl
theorem zd_281_137 : decode prog_6_method_6_code 137 = .ok (.getfield 84, 3) := zsh_g zdk_281 (r := 34) (k := 1) rfl rfl rfl
theorem zd_281_140 : decode prog_6_method_6_code 140 = .ok (.iload 7, 2) := zsh_g zdk_281 (r := 35) (k := 0) rfl rfl rfl
theorem zd_281_142 : decode prog_6_method_6_code 142 = .ok (.iconst 0, 1) := zsh_g zdk_281 (r := 35) (k := 1) rfl rfl rfl
theorem zd_281_143 : decode prog_6_method_6_code 143 = .ok (.iadd, 1) := zsh_g zdk_281 (r := 35) (k := 2) rfl rfl rfl
theorem zd_281_144 : decode prog_6_method_6_code 144 = .ok (.iaload, 1) := zsh_g zdk_281 (r := 36) (k := 0) rfl rfl rfl
theorem zd_281_145 : decode prog_6_method_6_code 145 = .ok (.putfield 104, 3) := zsh_g zdk_281 (r := 36) (k := 1) rfl rfl rfl
theorem zd_281_148 : decode prog_6_method_6_code 148 = .ok (.aload_n 0, 1) := zsh_g zdk_281 (r := 37) (k := 0) rfl rfl rfl
theorem zd_281_149 : decode prog_6_method_6_code 149 = .ok (.dup, 1) := zsh_g zdk_281 (r := 37) (k := 1) rfl rfl rfl
theorem zd_281_150 : decode prog_6_method_6_code 150 = .ok (.getfield 107, 3) := zsh_g zdk_281 (r := 37) (k := 2) rfl rfl rfl
theorem zd_281_153 : decode prog_6_method_6_code 153 = .ok (.aload_n 0, 1) := zsh_g zdk_281 (r := 38) (k := 0) rfl rfl rfl
theorem zd_281_154 : decode prog_6_method_6_code 154 = .ok (.getfield 23, 3) := zsh_g zdk_281 (r := 38) (k := 1) rfl rfl rfl
theorem zd_281_157 : decode prog_6_method_6_code 157 = .ok (.aload_n 0, 1) := zsh_g zdk_281 (r := 39) (k := 0) rfl rfl rfl
theorem zd_281_158 : decode prog_6_method_6_code 158 = .ok (.getfield 98, 3) := zsh_g zdk_281 (r := 39) (k := 1) rfl rfl rfl
theorem zd_281_161 : decode prog_6_method_6_code 161 = .ok (.aaload, 1) := zsh_g zdk_281 (r := 40) (k := 0) rfl rfl rfl
theorem zd_281_162 : decode prog_6_method_6_code 162 = .ok (.getfield 84, 3) := zsh_g zdk_281 (r := 40) (k := 1) rfl rfl rfl
theorem zd_281_165 : decode prog_6_method_6_code 165 = .ok (.iload 7, 2) := zsh_g zdk_281 (r := 41) (k := 0) rfl rfl rfl
theorem zd_281_167 : decode prog_6_method_6_code 167 = .ok (.iconst 1, 1) := zsh_g zdk_281 (r := 41) (k := 1) rfl rfl rfl
theorem zd_281_168 : decode prog_6_method_6_code 168 = .ok (.iadd, 1) := zsh_g zdk_281 (r := 42) (k := 0) rfl rfl rfl
theorem zd_281_169 : decode prog_6_method_6_code 169 = .ok (.iaload, 1) := zsh_g zdk_281 (r := 42) (k := 1) rfl rfl rfl
theorem zd_281_170 : decode prog_6_method_6_code 170 = .ok (.iadd, 1) := zsh_g zdk_281 (r := 42) (k := 2) rfl rfl rfl
theorem zd_281_171 : decode prog_6_method_6_code 171 = .ok (.putfield 107, 3) := zsh_g zdk_281 (r := 42) (k := 3) rfl rfl rfl
theorem zd_281_174 : decode prog_6_method_6_code 174 = .ok (.iconst 1, 1) := zsh_g zdk_281 (r := 43) (k := 0) rfl rfl rfl
def zdl_282 : List (List (Nat × Instr × Nat)) := [[(0, (.aload_n 0), 1), (1, (.getfield 23), 3)], [(0, (.iload_n 1), 1), (1, .aaload, 1), (2, (.getfield 101), 3)], [(1, (.iload_n 2), 1), (2, (.bipush 6), 2)], [(0, .imul, 1), (1, (.iconst 0), 1), (2, .iadd, 1), (3, .iaload, 1)], [(0, (.istore_n 3), 1), (1, (.aload_n 0), 1), (2, (.getfield 23), 3)], [(1, (.iload_n 1), 1), (2, .aaload, 1), (3, (.getfield 116), 3)], [(2, (.iload_n 3), 1), (3, (.bipush 6), 2)], [(1, .imul, 1), (2, (.iconst 4), 1), (3, .iadd, 1)], [(0, .iaload, 1), (1, (.ifCond .eq 7), 3)], [(0, (.iconst 1), 1), (1, (.goto 4), 3)], [(0, (.iconst 0), 1)]]
theorem zdk_282 : zsh_all 8 zdl_282 prog_6_method_10_code.data.toList = true := by decide +kernel
theorem zd_282_0 : decode prog_6_method_10_code 0 = .ok (.aload_n 0, 1) := zsh_g zdk_282 (r := 0) (k := 0) rfl rfl rfl
theorem zd_282_1 : decode prog_6_method_10_code 1 = .ok (.getfield 23, 3) := zsh_g zdk_282 (r := 0) (k := 1) rfl rfl rfl
theorem zd_282_4 : decode prog_6_method_10_code 4 = .ok (.iload_n 1, 1) := zsh_g zdk_282 (r := 1) (k := 0) rfl rfl rfl
theorem zd_282_5 : decode prog_6_method_10_code 5 = .ok (.aaload, 1) := zsh_g zdk_282 (r := 1) (k := 1) rfl rfl rfl
theorem zd_282_6 : decode prog_6_method_10_code 6 = .ok (.getfield 101, 3) := zsh_g zdk_282 (r := 1) (k := 2) rfl rfl rfl
theorem zd_282_9 : decode prog_6_method_10_code 9 = .ok (.iload_n 2, 1) := zsh_g zdk_282 (r := 2) (k := 0) rfl rfl rfl
theorem zd_282_10 : decode prog_6_method_10_code 10 = .ok (.bipush 6, 2) := zsh_g zdk_282 (r := 2) (k := 1) rfl rfl rfl
theorem zd_282_12 : decode prog_6_method_10_code 12 = .ok (.imul, 1) := zsh_g zdk_282 (r := 3) (k := 0) rfl rfl rfl
theorem zd_282_13 : decode prog_6_method_10_code 13 = .ok (.iconst 0, 1) := zsh_g zdk_282 (r := 3) (k := 1) rfl rfl rfl
theorem zd_282_14 : decode prog_6_method_10_code 14 = .ok (.iadd, 1) := zsh_g zdk_282 (r := 3) (k := 2) rfl rfl rfl
theorem zd_282_15 : decode prog_6_method_10_code 15 = .ok (.iaload, 1) := zsh_g zdk_282 (r := 3) (k := 3) rfl rfl rfl
theorem zd_282_16 : decode prog_6_method_10_code 16 = .ok (.istore_n 3, 1) := zsh_g zdk_282 (r := 4) (k := 0) rfl rfl rfl
theorem zd_282_17 : decode prog_6_method_10_code 17 = .ok (.aload_n 0, 1) := zsh_g zdk_282 (r := 4) (k := 1) rfl rfl rfl
theorem zd_282_18 : decode prog_6_method_10_code 18 = .ok (.getfield 23, 3) := zsh_g zdk_282 (r := 4) (k := 2) rfl rfl rfl
theorem zd_282_21 : decode prog_6_method_10_code 21 = .ok (.iload_n 1, 1) := zsh_g zdk_282 (r := 5) (k := 0) rfl rfl rfl
theorem zd_282_22 : decode prog_6_method_10_code 22 = .ok (.aaload, 1) := zsh_g zdk_282 (r := 5) (k := 1) rfl rfl rfl
theorem zd_282_23 : decode prog_6_method_10_code 23 = .ok (.getfield 116, 3) := zsh_g zdk_282 (r := 5) (k := 2) rfl rfl rfl
theorem zd_282_26 : decode prog_6_method_10_code 26 = .ok (.iload_n 3, 1) := zsh_g zdk_282 (r := 6) (k := 0) rfl rfl rfl
theorem zd_282_27 : decode prog_6_method_10_code 27 = .ok (.bipush 6, 2) := zsh_g zdk_282 (r := 6) (k := 1) rfl rfl rfl
theorem zd_282_29 : decode prog_6_method_10_code 29 = .ok (.imul, 1) := zsh_g zdk_282 (r := 7) (k := 0) rfl rfl rfl
theorem zd_282_30 : decode prog_6_method_10_code 30 = .ok (.iconst 4, 1) := zsh_g zdk_282 (r := 7) (k := 1) rfl rfl rfl
theorem zd_282_31 : decode prog_6_method_10_code 31 = .ok (.iadd, 1) := zsh_g zdk_282 (r := 7) (k := 2) rfl rfl rfl
theorem zd_282_32 : decode prog_6_method_10_code 32 = .ok (.iaload, 1) := zsh_g zdk_282 (r := 8) (k := 0) rfl rfl rfl
theorem zd_282_33 : decode prog_6_method_10_code 33 = .ok (.ifCond .eq 7, 3) := zsh_g zdk_282 (r := 8) (k := 1) rfl rfl rfl
theorem zd_282_36 : decode prog_6_method_10_code 36 = .ok (.iconst 1, 1) := zsh_g zdk_282 (r := 9) (k := 0) rfl rfl rfl
theorem zd_282_37 : decode prog_6_method_10_code 37 = .ok (.goto 4, 3) := zsh_g zdk_282 (r := 9) (k := 1) rfl rfl rfl
theorem zd_282_40 : decode prog_6_method_10_code 40 = .ok (.iconst 0, 1) := zsh_g zdk_282 (r := 10) (k := 0) rfl rfl rfl
def zdl_283 : List (List (Nat × Instr × Nat)) := [[(0, (.iload_n 1), 1), (1, (.istore_n 3), 1), (2, (.iconst 0), 1), (3, (.istore 4), 2)], [(1, (.iload 4), 2), (3, (.bipush 6), 2)], [(1, (.if_icmp .gt 124), 3)], [(0, (.iconst 0), 1), (1, (.istore 5), 2), (3, (.aload_n 0), 1)], [(0, (.iload 4), 2), (2, (.invokevirtual 75), 3)], [(1, (.ifCond .eq 106), 3)], [(0, (.iload 5), 2), (2, (.aload_n 0), 1), (3, (.getfield 23), 3)], [(2, (.iload 4), 2)], [(0, .aaload, 1), (1, (.getfield 119), 3)], [(0, (.if_icmp .ge 91), 3), (3, (.iload 5), 2)], [(1, (.bipush 6), 2), (3, .imul, 1)], [(0, (.istore 6), 2), (2, (.aload_n 0), 1), (3, (.getfield 23), 3)], [(2, (.iload 4), 2)], [(0, .aaload, 1), (1, (.getfield 116), 3)], [(0, (.astore 7), 2), (2, (.aload 7), 2)], [(0, (.iload 6), 2), (2, (.iconst 4), 1), (3, .iadd, 1)], [(0, .iaload, 1), (1, (.ifCond .eq 56), 3)], [(0, (.aload 7), 2), (2, (.iload 6), 2)], [(0, (.iconst 0), 1), (1, .iadd, 1), (2, .iaload, 1), (3, (.iload_n 2), 1)], [(0, (.if_icmp .ne 45), 3), (3, (.iload_n 3), 1)], [(0, (.aload 7), 2), (2, (.iload 6), 2)], [(0, (.iconst 2), 1), (1, .iadd, 1), (2, .iaload, 1), (3, .iadd, 1)], [(0, (.iconst 1), 1), (1, .isub, 1), (2, (.aload 7), 2)], [(0, (.iload 6), 2), (2, (.iconst 2), 1), (3, .iadd, 1)], [(0, .iaload, 1), (1, .ineg, 1), (2, .iand, 1), (3, (.istore 8), 2)], [(1, (.aload 7), 2), (3, (.iload 6), 2)], [(1, (.iconst 5), 1), (2, .iadd, 1), (3, (.iload 8), 2)], [(1, .iastore, 1), (2, (.iload 8), 2)], [(0, (.aload 7), 2), (2, (.iload 6), 2)], [(0, (.iconst 1), 1), (1, .iadd, 1), (2, .iaload, 1), (3, .iadd, 1)], [(0, (.istore_n 3), 1), (1, (.iinc 5 1), 3)], [(0, (.goto (-109)), 3), (3, (.iinc 4 1), 3)], [(2, (.goto (-125)), 3)], [(1, (.iload_n 3), 1)]]
theorem zdk_283 : zsh_all 8 zdl_283 prog_6_method_14_code.data.toList = true := by decide +kernel
theorem zd_283_0 : decode prog_6_method_14_code 0 = .ok (.iload_n 1, 1) := zsh_g zdk_283 (r := 0) (k := 0) rfl rfl rfl
theorem zd_283_1 : decode prog_6_method_14_code 1 = .ok (.istore_n 3, 1) := zsh_g zdk_283 (r := 0) (k := 1) rfl rfl rfl
theorem zd_283_2 : decode prog_6_method_14_code 2 = .ok (.iconst 0, 1) := zsh_g zdk_283 (r := 0) (k := 2) rfl rfl rfl
theorem zd_283_3 : decode prog_6_method_14_code 3 = .ok (.istore 4, 2) := zsh_g zdk_283 (r := 0) (k := 3) rfl rfl rfl
theorem zd_283_5 : decode prog_6_method_14_code 5 = .ok (.iload 4, 2) := zsh_g zdk_283 (r := 1) (k := 0) rfl rfl rfl
theorem zd_283_7 : decode prog_6_method_14_code 7 = .ok (.bipush 6, 2) := zsh_g zdk_283 (r := 1) (k := 1) rfl rfl rfl
theorem zd_283_9 : decode prog_6_method_14_code 9 = .ok (.if_icmp .gt 124, 3) := zsh_g zdk_283 (r := 2) (k := 0) rfl rfl rfl
theorem zd_283_12 : decode prog_6_method_14_code 12 = .ok (.iconst 0, 1) := zsh_g zdk_283 (r := 3) (k := 0) rfl rfl rfl
theorem zd_283_13 : decode prog_6_method_14_code 13 = .ok (.istore 5, 2) := zsh_g zdk_283 (r := 3) (k := 1) rfl rfl rfl
theorem zd_283_15 : decode prog_6_method_14_code 15 = .ok (.aload_n 0, 1) := zsh_g zdk_283 (r := 3) (k := 2) rfl rfl rfl
theorem zd_283_16 : decode prog_6_method_14_code 16 = .ok (.iload 4, 2) := zsh_g zdk_283 (r := 4) (k := 0) rfl rfl rfl
theorem zd_283_18 : decode prog_6_method_14_code 18 = .ok (.invokevirtual 75, 3) := zsh_g zdk_283 (r := 4) (k := 1) rfl rfl rfl
theorem zd_283_21 : decode prog_6_method_14_code 21 = .ok (.ifCond .eq 106, 3) := zsh_g zdk_283 (r := 5) (k := 0) rfl rfl rfl
theorem zd_283_24 : decode prog_6_method_14_code 24 = .ok (.iload 5, 2) := zsh_g zdk_283 (r := 6) (k := 0) rfl rfl rfl
theorem zd_283_26 : decode prog_6_method_14_code 26 = .ok (.aload_n 0, 1) := zsh_g zdk_283 (r := 6) (k := 1) rfl rfl rfl
theorem zd_283_27 : decode prog_6_method_14_code 27 = .ok (.getfield 23, 3) := zsh_g zdk_283 (r := 6) (k := 2) rfl rfl rfl
theorem zd_283_30 : decode prog_6_method_14_code 30 = .ok (.iload 4, 2) := zsh_g zdk_283 (r := 7) (k := 0) rfl rfl rfl
theorem zd_283_32 : decode prog_6_method_14_code 32 = .ok (.aaload, 1) := zsh_g zdk_283 (r := 8) (k := 0) rfl rfl rfl
theorem zd_283_33 : decode prog_6_method_14_code 33 = .ok (.getfield 119, 3) := zsh_g zdk_283 (r := 8) (k := 1) rfl rfl rfl
theorem zd_283_36 : decode prog_6_method_14_code 36 = .ok (.if_icmp .ge 91, 3) := zsh_g zdk_283 (r := 9) (k := 0) rfl rfl rfl
theorem zd_283_39 : decode prog_6_method_14_code 39 = .ok (.iload 5, 2) := zsh_g zdk_283 (r := 9) (k := 1) rfl rfl rfl
theorem zd_283_41 : decode prog_6_method_14_code 41 = .ok (.bipush 6, 2) := zsh_g zdk_283 (r := 10) (k := 0) rfl rfl rfl
theorem zd_283_43 : decode prog_6_method_14_code 43 = .ok (.imul, 1) := zsh_g zdk_283 (r := 10) (k := 1) rfl rfl rfl
theorem zd_283_44 : decode prog_6_method_14_code 44 = .ok (.istore 6, 2) := zsh_g zdk_283 (r := 11) (k := 0) rfl rfl rfl
theorem zd_283_46 : decode prog_6_method_14_code 46 = .ok (.aload_n 0, 1) := zsh_g zdk_283 (r := 11) (k := 1) rfl rfl rfl
theorem zd_283_47 : decode prog_6_method_14_code 47 = .ok (.getfield 23, 3) := zsh_g zdk_283 (r := 11) (k := 2) rfl rfl rfl
theorem zd_283_50 : decode prog_6_method_14_code 50 = .ok (.iload 4, 2) := zsh_g zdk_283 (r := 12) (k := 0) rfl rfl rfl
theorem zd_283_52 : decode prog_6_method_14_code 52 = .ok (.aaload, 1) := zsh_g zdk_283 (r := 13) (k := 0) rfl rfl rfl
theorem zd_283_53 : decode prog_6_method_14_code 53 = .ok (.getfield 116, 3) := zsh_g zdk_283 (r := 13) (k := 1) rfl rfl rfl
theorem zd_283_56 : decode prog_6_method_14_code 56 = .ok (.astore 7, 2) := zsh_g zdk_283 (r := 14) (k := 0) rfl rfl rfl
theorem zd_283_58 : decode prog_6_method_14_code 58 = .ok (.aload 7, 2) := zsh_g zdk_283 (r := 14) (k := 1) rfl rfl rfl
theorem zd_283_60 : decode prog_6_method_14_code 60 = .ok (.iload 6, 2) := zsh_g zdk_283 (r := 15) (k := 0) rfl rfl rfl
theorem zd_283_62 : decode prog_6_method_14_code 62 = .ok (.iconst 4, 1) := zsh_g zdk_283 (r := 15) (k := 1) rfl rfl rfl
theorem zd_283_63 : decode prog_6_method_14_code 63 = .ok (.iadd, 1) := zsh_g zdk_283 (r := 15) (k := 2) rfl rfl rfl
theorem zd_283_64 : decode prog_6_method_14_code 64 = .ok (.iaload, 1) := zsh_g zdk_283 (r := 16) (k := 0) rfl rfl rfl
theorem zd_283_65 : decode prog_6_method_14_code 65 = .ok (.ifCond .eq 56, 3) := zsh_g zdk_283 (r := 16) (k := 1) rfl rfl rfl
theorem zd_283_68 : decode prog_6_method_14_code 68 = .ok (.aload 7, 2) := zsh_g zdk_283 (r := 17) (k := 0) rfl rfl rfl
theorem zd_283_70 : decode prog_6_method_14_code 70 = .ok (.iload 6, 2) := zsh_g zdk_283 (r := 17) (k := 1) rfl rfl rfl
theorem zd_283_72 : decode prog_6_method_14_code 72 = .ok (.iconst 0, 1) := zsh_g zdk_283 (r := 18) (k := 0) rfl rfl rfl
theorem zd_283_73 : decode prog_6_method_14_code 73 = .ok (.iadd, 1) := zsh_g zdk_283 (r := 18) (k := 1) rfl rfl rfl
theorem zd_283_74 : decode prog_6_method_14_code 74 = .ok (.iaload, 1) := zsh_g zdk_283 (r := 18) (k := 2) rfl rfl rfl
theorem zd_283_75 : decode prog_6_method_14_code 75 = .ok (.iload_n 2, 1) := zsh_g zdk_283 (r := 18) (k := 3) rfl rfl rfl
theorem zd_283_76 : decode prog_6_method_14_code 76 = .ok (.if_icmp .ne 45, 3) := zsh_g zdk_283 (r := 19) (k := 0) rfl rfl rfl
theorem zd_283_79 : decode prog_6_method_14_code 79 = .ok (.iload_n 3, 1) := zsh_g zdk_283 (r := 19) (k := 1) rfl rfl rfl
theorem zd_283_80 : decode prog_6_method_14_code 80 = .ok (.aload 7, 2) := zsh_g zdk_283 (r := 20) (k := 0) rfl rfl rfl
theorem zd_283_82 : decode prog_6_method_14_code 82 = .ok (.iload 6, 2) := zsh_g zdk_283 (r := 20) (k := 1) rfl rfl rfl
theorem zd_283_84 : decode prog_6_method_14_code 84 = .ok (.iconst 2, 1) := zsh_g zdk_283 (r := 21) (k := 0) rfl rfl rfl
theorem zd_283_85 : decode prog_6_method_14_code 85 = .ok (.iadd, 1) := zsh_g zdk_283 (r := 21) (k := 1) rfl rfl rfl
theorem zd_283_86 : decode prog_6_method_14_code 86 = .ok (.iaload, 1) := zsh_g zdk_283 (r := 21) (k := 2) rfl rfl rfl
theorem zd_283_87 : decode prog_6_method_14_code 87 = .ok (.iadd, 1) := zsh_g zdk_283 (r := 21) (k := 3) rfl rfl rfl
theorem zd_283_88 : decode prog_6_method_14_code 88 = .ok (.iconst 1, 1) := zsh_g zdk_283 (r := 22) (k := 0) rfl rfl rfl
theorem zd_283_89 : decode prog_6_method_14_code 89 = .ok (.isub, 1) := zsh_g zdk_283 (r := 22) (k := 1) rfl rfl rfl
theorem zd_283_90 : decode prog_6_method_14_code 90 = .ok (.aload 7, 2) := zsh_g zdk_283 (r := 22) (k := 2) rfl rfl rfl
theorem zd_283_92 : decode prog_6_method_14_code 92 = .ok (.iload 6, 2) := zsh_g zdk_283 (r := 23) (k := 0) rfl rfl rfl
theorem zd_283_94 : decode prog_6_method_14_code 94 = .ok (.iconst 2, 1) := zsh_g zdk_283 (r := 23) (k := 1) rfl rfl rfl
theorem zd_283_95 : decode prog_6_method_14_code 95 = .ok (.iadd, 1) := zsh_g zdk_283 (r := 23) (k := 2) rfl rfl rfl
theorem zd_283_96 : decode prog_6_method_14_code 96 = .ok (.iaload, 1) := zsh_g zdk_283 (r := 24) (k := 0) rfl rfl rfl
theorem zd_283_97 : decode prog_6_method_14_code 97 = .ok (.ineg, 1) := zsh_g zdk_283 (r := 24) (k := 1) rfl rfl rfl
theorem zd_283_98 : decode prog_6_method_14_code 98 = .ok (.iand, 1) := zsh_g zdk_283 (r := 24) (k := 2) rfl rfl rfl
theorem zd_283_99 : decode prog_6_method_14_code 99 = .ok (.istore 8, 2) := zsh_g zdk_283 (r := 24) (k := 3) rfl rfl rfl
theorem zd_283_101 : decode prog_6_method_14_code 101 = .ok (.aload 7, 2) := zsh_g zdk_283 (r := 25) (k := 0) rfl rfl rfl
theorem zd_283_103 : decode prog_6_method_14_code 103 = .ok (.iload 6, 2) := zsh_g zdk_283 (r := 25) (k := 1) rfl rfl rfl
theorem zd_283_105 : decode prog_6_method_14_code 105 = .ok (.iconst 5, 1) := zsh_g zdk_283 (r := 26) (k := 0) rfl rfl rfl
theorem zd_283_106 : decode prog_6_method_14_code 106 = .ok (.iadd, 1) := zsh_g zdk_283 (r := 26) (k := 1) rfl rfl rfl
theorem zd_283_107 : decode prog_6_method_14_code 107 = .ok (.iload 8, 2) := zsh_g zdk_283 (r := 26) (k := 2) rfl rfl rfl
theorem zd_283_109 : decode prog_6_method_14_code 109 = .ok (.iastore, 1) := zsh_g zdk_283 (r := 27) (k := 0) rfl rfl rfl
theorem zd_283_110 : decode prog_6_method_14_code 110 = .ok (.iload 8, 2) := zsh_g zdk_283 (r := 27) (k := 1) rfl rfl rfl
theorem zd_283_112 : decode prog_6_method_14_code 112 = .ok (.aload 7, 2) := zsh_g zdk_283 (r := 28) (k := 0) rfl rfl rfl
theorem zd_283_114 : decode prog_6_method_14_code 114 = .ok (.iload 6, 2) := zsh_g zdk_283 (r := 28) (k := 1) rfl rfl rfl
theorem zd_283_116 : decode prog_6_method_14_code 116 = .ok (.iconst 1, 1) := zsh_g zdk_283 (r := 29) (k := 0) rfl rfl rfl
theorem zd_283_117 : decode prog_6_method_14_code 117 = .ok (.iadd, 1) := zsh_g zdk_283 (r := 29) (k := 1) rfl rfl rfl
theorem zd_283_118 : decode prog_6_method_14_code 118 = .ok (.iaload, 1) := zsh_g zdk_283 (r := 29) (k := 2) rfl rfl rfl
theorem zd_283_119 : decode prog_6_method_14_code 119 = .ok (.iadd, 1) := zsh_g zdk_283 (r := 29) (k := 3) rfl rfl rfl
theorem zd_283_120 : decode prog_6_method_14_code 120 = .ok (.istore_n 3, 1) := zsh_g zdk_283 (r := 30) (k := 0) rfl rfl rfl
theorem zd_283_121 : decode prog_6_method_14_code 121 = .ok (.iinc 5 1, 3) := zsh_g zdk_283 (r := 30) (k := 1) rfl rfl rfl
theorem zd_283_124 : decode prog_6_method_14_code 124 = .ok (.goto (-109), 3) := zsh_g zdk_283 (r := 31) (k := 0) rfl rfl rfl
theorem zd_283_127 : decode prog_6_method_14_code 127 = .ok (.iinc 4 1, 3) := zsh_g zdk_283 (r := 31) (k := 1) rfl rfl rfl
theorem zd_283_130 : decode prog_6_method_14_code 130 = .ok (.goto (-125), 3) := zsh_g zdk_283 (r := 32) (k := 0) rfl rfl rfl
theorem zd_283_133 : decode prog_6_method_14_code 133 = .ok (.iload_n 3, 1) := zsh_g zdk_283 (r := 33) (k := 0) rfl rfl rfl
def zdl_284 : List (List (Nat × Instr × Nat)) := [[(0, (.aload_n 0), 1), (1, (.getfield 23), 3)], [(0, (.aload_n 0), 1), (1, (.getfield 98), 3)], [(0, .aaload, 1), (1, (.getfield 116), 3)], [(0, (.aload_n 0), 1), (1, (.getfield 104), 3)], [(0, (.bipush 6), 2), (2, .imul, 1), (3, (.iconst 5), 1)], [(0, .iadd, 1), (1, .iaload, 1), (2, (.aload_n 0), 1), (3, (.getfield 107), 3)], [(2, .iadd, 1)]]
theorem zdk_284 : zsh_all 8 zdl_284 prog_6_method_7_code.data.toList = true := by decide +kernel
theorem zd_284_0 : decode prog_6_method_7_code 0 = .ok (.aload_n 0, 1) := zsh_g zdk_284 (r := 0) (k := 0) rfl rfl rfl
theorem zd_284_1 : decode prog_6_method_7_code 1 = .ok (.getfield 23, 3) := zsh_g zdk_284 (r := 0) (k := 1) rfl rfl rfl
theorem zd_284_4 : decode prog_6_method_7_code 4 = .ok (.aload_n 0, 1) := zsh_g zdk_284 (r := 1) (k := 0) rfl rfl rfl
theorem zd_284_5 : decode prog_6_method_7_code 5 = .ok (.getfield 98, 3) := zsh_g zdk_284 (r := 1) (k := 1) rfl rfl rfl
theorem zd_284_8 : decode prog_6_method_7_code 8 = .ok (.aaload, 1) := zsh_g zdk_284 (r := 2) (k := 0) rfl rfl rfl
theorem zd_284_9 : decode prog_6_method_7_code 9 = .ok (.getfield 116, 3) := zsh_g zdk_284 (r := 2) (k := 1) rfl rfl rfl
theorem zd_284_12 : decode prog_6_method_7_code 12 = .ok (.aload_n 0, 1) := zsh_g zdk_284 (r := 3) (k := 0) rfl rfl rfl
theorem zd_284_13 : decode prog_6_method_7_code 13 = .ok (.getfield 104, 3) := zsh_g zdk_284 (r := 3) (k := 1) rfl rfl rfl
theorem zd_284_16 : decode prog_6_method_7_code 16 = .ok (.bipush 6, 2) := zsh_g zdk_284 (r := 4) (k := 0) rfl rfl rfl
theorem zd_284_18 : decode prog_6_method_7_code 18 = .ok (.imul, 1) := zsh_g zdk_284 (r := 4) (k := 1) rfl rfl rfl
theorem zd_284_19 : decode prog_6_method_7_code 19 = .ok (.iconst 5, 1) := zsh_g zdk_284 (r := 4) (k := 2) rfl rfl rfl
theorem zd_284_20 : decode prog_6_method_7_code 20 = .ok (.iadd, 1) := zsh_g zdk_284 (r := 5) (k := 0) rfl rfl rfl
theorem zd_284_21 : decode prog_6_method_7_code 21 = .ok (.iaload, 1) := zsh_g zdk_284 (r := 5) (k := 1) rfl rfl rfl
theorem zd_284_22 : decode prog_6_method_7_code 22 = .ok (.aload_n 0, 1) := zsh_g zdk_284 (r := 5) (k := 2) rfl rfl rfl
theorem zd_284_23 : decode prog_6_method_7_code 23 = .ok (.getfield 107, 3) := zsh_g zdk_284 (r := 5) (k := 3) rfl rfl rfl
theorem zd_284_26 : decode prog_6_method_7_code 26 = .ok (.iadd, 1) := zsh_g zdk_284 (r := 6) (k := 0) rfl rfl rfl
def zdl_285 : List (List (Nat × Instr × Nat)) := [[(0, (.iload_n 2), 1), (1, (.bipush 6), 2), (3, .imul, 1)], [(0, (.istore_n 3), 1), (1, (.aload_n 0), 1), (2, (.getfield 23), 3)], [(1, (.iload_n 1), 1), (2, .aaload, 1), (3, (.getfield 101), 3)], [(2, (.iload_n 3), 1), (3, (.iconst 0), 1)], [(0, .iadd, 1), (1, .iaload, 1), (2, (.istore 4), 2)], [(0, (.aload_n 0), 1), (1, (.getfield 23), 3)], [(0, (.iload_n 1), 1), (1, .aaload, 1), (2, (.getfield 116), 3)], [(1, (.iload 4), 2), (3, (.bipush 6), 2)], [(1, .imul, 1), (2, (.iconst 5), 1), (3, .iadd, 1)], [(0, .iaload, 1), (1, (.aload_n 0), 1), (2, (.getfield 23), 3)], [(1, (.iload_n 1), 1), (2, .aaload, 1), (3, (.getfield 101), 3)], [(2, (.iload_n 3), 1), (3, (.iconst 1), 1)], [(0, .iadd, 1), (1, .iaload, 1), (2, .iadd, 1)]]
theorem zdk_285 : zsh_all 8 zdl_285 prog_6_method_15_code.data.toList = true := by decide +kernel
theorem zd_285_0 : decode prog_6_method_15_code 0 = .ok (.iload_n 2, 1) := zsh_g zdk_285 (r := 0) (k := 0) rfl rfl rfl
theorem zd_285_1 : decode prog_6_method_15_code 1 = .ok (.bipush 6, 2) := zsh_g zdk_285 (r := 0) (k := 1) rfl rfl rfl
theorem zd_285_3 : decode prog_6_method_15_code 3 = .ok (.imul, 1) := zsh_g zdk_285 (r := 0) (k := 2) rfl rfl rfl
theorem zd_285_4 : decode prog_6_method_15_code 4 = .ok (.istore_n 3, 1) := zsh_g zdk_285 (r := 1) (k := 0) rfl rfl rfl
theorem zd_285_5 : decode prog_6_method_15_code 5 = .ok (.aload_n 0, 1) := zsh_g zdk_285 (r := 1) (k := 1) rfl rfl rfl
theorem zd_285_6 : decode prog_6_method_15_code 6 = .ok (.getfield 23, 3) := zsh_g zdk_285 (r := 1) (k := 2) rfl rfl rfl
theorem zd_285_9 : decode prog_6_method_15_code 9 = .ok (.iload_n 1, 1) := zsh_g zdk_285 (r := 2) (k := 0) rfl rfl rfl
theorem zd_285_10 : decode prog_6_method_15_code 10 = .ok (.aaload, 1) := zsh_g zdk_285 (r := 2) (k := 1) rfl rfl rfl
theorem zd_285_11 : decode prog_6_method_15_code 11 = .ok (.getfield 101, 3) := zsh_g zdk_285 (r := 2) (k := 2) rfl rfl rfl
theorem zd_285_14 : decode prog_6_method_15_code 14 = .ok (.iload_n 3, 1) := zsh_g zdk_285 (r := 3) (k := 0) rfl rfl rfl
theorem zd_285_15 : decode prog_6_method_15_code 15 = .ok (.iconst 0, 1) := zsh_g zdk_285 (r := 3) (k := 1) rfl rfl rfl
theorem zd_285_16 : decode prog_6_method_15_code 16 = .ok (.iadd, 1) := zsh_g zdk_285 (r := 4) (k := 0) rfl rfl rfl
theorem zd_285_17 : decode prog_6_method_15_code 17 = .ok (.iaload, 1) := zsh_g zdk_285 (r := 4) (k := 1) rfl rfl rfl
theorem zd_285_18 : decode prog_6_method_15_code 18 = .ok (.istore 4, 2) := zsh_g zdk_285 (r := 4) (k := 2) rfl rfl rfl
theorem zd_285_20 : decode prog_6_method_15_code 20 = .ok (.aload_n 0, 1) := zsh_g zdk_285 (r := 5) (k := 0) rfl rfl rfl
theorem zd_285_21 : decode prog_6_method_15_code 21 = .ok (.getfield 23, 3) := zsh_g zdk_285 (r := 5) (k := 1) rfl rfl rfl
theorem zd_285_24 : decode prog_6_method_15_code 24 = .ok (.iload_n 1, 1) := zsh_g zdk_285 (r := 6) (k := 0) rfl rfl rfl
theorem zd_285_25 : decode prog_6_method_15_code 25 = .ok (.aaload, 1) := zsh_g zdk_285 (r := 6) (k := 1) rfl rfl rfl
theorem zd_285_26 : decode prog_6_method_15_code 26 = .ok (.getfield 116, 3) := zsh_g zdk_285 (r := 6) (k := 2) rfl rfl rfl
theorem zd_285_29 : decode prog_6_method_15_code 29 = .ok (.iload 4, 2) := zsh_g zdk_285 (r := 7) (k := 0) rfl rfl rfl
theorem zd_285_31 : decode prog_6_method_15_code 31 = .ok (.bipush 6, 2) := zsh_g zdk_285 (r := 7) (k := 1) rfl rfl rfl
theorem zd_285_33 : decode prog_6_method_15_code 33 = .ok (.imul, 1) := zsh_g zdk_285 (r := 8) (k := 0) rfl rfl rfl
theorem zd_285_34 : decode prog_6_method_15_code 34 = .ok (.iconst 5, 1) := zsh_g zdk_285 (r := 8) (k := 1) rfl rfl rfl
theorem zd_285_35 : decode prog_6_method_15_code 35 = .ok (.iadd, 1) := zsh_g zdk_285 (r := 8) (k := 2) rfl rfl rfl
theorem zd_285_36 : decode prog_6_method_15_code 36 = .ok (.iaload, 1) := zsh_g zdk_285 (r := 9) (k := 0) rfl rfl rfl
theorem zd_285_37 : decode prog_6_method_15_code 37 = .ok (.aload_n 0, 1) := zsh_g zdk_285 (r := 9) (k := 1) rfl rfl rfl
theorem zd_285_38 : decode prog_6_method_15_code 38 = .ok (.getfield 23, 3) := zsh_g zdk_285 (r := 9) (k := 2) rfl rfl rfl
theorem zd_285_41 : decode prog_6_method_15_code 41 = .ok (.iload_n 1, 1) := zsh_g zdk_285 (r := 10) (k := 0) rfl rfl rfl
theorem zd_285_42 : decode prog_6_method_15_code 42 = .ok (.aaload, 1) := zsh_g zdk_285 (r := 10) (k := 1) rfl rfl rfl
theorem zd_285_43 : decode prog_6_method_15_code 43 = .ok (.getfield 101, 3) := zsh_g zdk_285 (r := 10) (k := 2) rfl rfl rfl
theorem zd_285_46 : decode prog_6_method_15_code 46 = .ok (.iload_n 3, 1) := zsh_g zdk_285 (r := 11) (k := 0) rfl rfl rfl
theorem zd_285_47 : decode prog_6_method_15_code 47 = .ok (.iconst 1, 1) := zsh_g zdk_285 (r := 11) (k := 1) rfl rfl rfl
theorem zd_285_48 : decode prog_6_method_15_code 48 = .ok (.iadd, 1) := zsh_g zdk_285 (r := 12) (k := 0) rfl rfl rfl
theorem zd_285_49 : decode prog_6_method_15_code 49 = .ok (.iaload, 1) := zsh_g zdk_285 (r := 12) (k := 1) rfl rfl rfl
theorem zd_285_50 : decode prog_6_method_15_code 50 = .ok (.iadd, 1) := zsh_g zdk_285 (r := 12) (k := 2) rfl rfl rfl
def zdl_286 : List (List (Nat × Instr × Nat)) := [[(0, (.iload_n 0), 1), (1, (.iconst 3), 1), (2, .iand, 1), (3, (.ifCond .ne 25), 3)], [(2, (.iload_n 0), 1), (3, (.iconst 2), 1)], [(0, .ishr, 1), (1, (.sipush (-32768)), 3)], [(0, (.if_icmp .lt 16), 3), (3, (.iload_n 0), 1)], [(0, (.iconst 2), 1), (1, .ishr, 1), (2, (.sipush 32767), 3)], [(1, (.if_icmp .gt 7), 3)], [(0, (.iconst 1), 1), (1, (.goto 4), 3)], [(0, (.iconst 0), 1)]]
theorem zdk_286 : zsh_all 8 zdl_286 prog_3_method_5_code.data.toList = true := by decide +kernel
theorem zd_286_0 : decode prog_3_method_5_code 0 = .ok (.iload_n 0, 1) := zsh_g zdk_286 (r := 0) (k := 0) rfl rfl rfl
theorem zd_286_1 : decode prog_3_method_5_code 1 = .ok (.iconst 3, 1) := zsh_g zdk_286 (r := 0) (k := 1) rfl rfl rfl
theorem zd_286_2 : decode prog_3_method_5_code 2 = .ok (.iand, 1) := zsh_g zdk_286 (r := 0) (k := 2) rfl rfl rfl
theorem zd_286_3 : decode prog_3_method_5_code 3 = .ok (.ifCond .ne 25, 3) := zsh_g zdk_286 (r := 0) (k := 3) rfl rfl rfl
theorem zd_286_6 : decode prog_3_method_5_code 6 = .ok (.iload_n 0, 1) := zsh_g zdk_286 (r := 1) (k := 0) rfl rfl rfl
theorem zd_286_7 : decode prog_3_method_5_code 7 = .ok (.iconst 2, 1) := zsh_g zdk_286 (r := 1) (k := 1) rfl rfl rfl
theorem zd_286_8 : decode prog_3_method_5_code 8 = .ok (.ishr, 1) := zsh_g zdk_286 (r := 2) (k := 0) rfl rfl rfl
theorem zd_286_9 : decode prog_3_method_5_code 9 = .ok (.sipush (-32768), 3) := zsh_g zdk_286 (r := 2) (k := 1) rfl rfl rfl
theorem zd_286_12 : decode prog_3_method_5_code 12 = .ok (.if_icmp .lt 16, 3) := zsh_g zdk_286 (r := 3) (k := 0) rfl rfl rfl
theorem zd_286_15 : decode prog_3_method_5_code 15 = .ok (.iload_n 0, 1) := zsh_g zdk_286 (r := 3) (k := 1) rfl rfl rfl
theorem zd_286_16 : decode prog_3_method_5_code 16 = .ok (.iconst 2, 1) := zsh_g zdk_286 (r := 4) (k := 0) rfl rfl rfl
theorem zd_286_17 : decode prog_3_method_5_code 17 = .ok (.ishr, 1) := zsh_g zdk_286 (r := 4) (k := 1) rfl rfl rfl
theorem zd_286_18 : decode prog_3_method_5_code 18 = .ok (.sipush 32767, 3) := zsh_g zdk_286 (r := 4) (k := 2) rfl rfl rfl
theorem zd_286_21 : decode prog_3_method_5_code 21 = .ok (.if_icmp .gt 7, 3) := zsh_g zdk_286 (r := 5) (k := 0) rfl rfl rfl
theorem zd_286_24 : decode prog_3_method_5_code 24 = .ok (.iconst 1, 1) := zsh_g zdk_286 (r := 6) (k := 0) rfl rfl rfl
theorem zd_286_25 : decode prog_3_method_5_code 25 = .ok (.goto 4, 3) := zsh_g zdk_286 (r := 6) (k := 1) rfl rfl rfl
theorem zd_286_28 : decode prog_3_method_5_code 28 = .ok (.iconst 0, 1) := zsh_g zdk_286 (r := 7) (k := 0) rfl rfl rfl
def zdl_287 : List (List (Nat × Instr × Nat)) := [[(0, (.aload_n 0), 1), (1, (.iload_n 1), 1), (2, (.putfield 25), 3)], [(1, (.aload_n 0), 1), (2, (.iload_n 2), 1), (3, (.putfield 29), 3)], [(2, (.aload_n 0), 1), (3, (.iload_n 3), 1)], [(0, (.putfield 32), 3), (3, (.aload_n 0), 1)], [(0, (.iload 4), 2), (2, (.putfield 35), 3)], [(1, (.aload_n 0), 1), (2, (.iload 5), 2)], [(0, (.putfield 38), 3), (3, (.aload_n 0), 1)], [(0, (.iload 5), 2), (2, (.iconst 4), 1), (3, .iadd, 1)], [(0, (.putfield 41), 3), (3, (.aload_n 0), 1)], [(0, (.iconst 0), 1), (1, (.putfield 44), 3)], [(0, (.aload_n 0), 1), (1, (.iconst 0), 1), (2, (.putfield 47), 3)], [(1, (.aload_n 0), 1), (2, (.iconst 0), 1), (3, (.putfield 50), 3)], [(2, (.aload_n 0), 1), (3, (.iconst 0), 1)], [(0, (.putfield 53), 3), (3, (.aload_n 0), 1)], [(0, (.iconst 0), 1), (1, (.putfield 56), 3)], [(0, (.aload_n 0), 1), (1, (.iconst 0), 1), (2, (.putfield 59), 3)], [(1, (.aload_n 0), 1), (2, (.iconst 0), 1), (3, (.putfield 62), 3)], [(2, (.aload_n 0), 1), (3, (.getfield 18), 3)], [(2, (.iconst 0), 1), (3, (.aload_n 0), 1)], [(0, (.getfield 29), 3), (3, (.iconst 4), 1)], [(0, .idiv, 1), (1, (.iconst 0), 1), (2, (.invokestatic 65), 3)], [(1, (.aload_n 0), 1), (2, (.getfield 9), 3)], [(1, (.iconst 0), 1), (2, (.invokestatic 71), 3)], [(1, (.aload_n 0), 1), (2, (.getfield 9), 3)], [(1, (.bipush 29), 2), (3, (.aload_n 0), 1)], [(0, (.getfield 25), 3), (3, (.aload_n 0), 1)], [(0, (.getfield 29), 3), (3, .iadd, 1)], [(0, .iastore, 1), (1, (.aload_n 0), 1), (2, (.getfield 9), 3)], [(1, (.bipush 28), 2), (3, (.aload_n 0), 1)], [(0, (.getfield 35), 3), (3, .iastore, 1)]]
theorem zdk_287 : zsh_all 8 zdl_287 prog_7_method_2_code.data.toList = true := by decide +kernel
theorem zd_287_0 : decode prog_7_method_2_code 0 = .ok (.aload_n 0, 1) := zsh_g zdk_287 (r := 0) (k := 0) rfl rfl rfl
theorem zd_287_1 : decode prog_7_method_2_code 1 = .ok (.iload_n 1, 1) := zsh_g zdk_287 (r := 0) (k := 1) rfl rfl rfl
theorem zd_287_2 : decode prog_7_method_2_code 2 = .ok (.putfield 25, 3) := zsh_g zdk_287 (r := 0) (k := 2) rfl rfl rfl
theorem zd_287_5 : decode prog_7_method_2_code 5 = .ok (.aload_n 0, 1) := zsh_g zdk_287 (r := 1) (k := 0) rfl rfl rfl
theorem zd_287_6 : decode prog_7_method_2_code 6 = .ok (.iload_n 2, 1) := zsh_g zdk_287 (r := 1) (k := 1) rfl rfl rfl
theorem zd_287_7 : decode prog_7_method_2_code 7 = .ok (.putfield 29, 3) := zsh_g zdk_287 (r := 1) (k := 2) rfl rfl rfl
theorem zd_287_10 : decode prog_7_method_2_code 10 = .ok (.aload_n 0, 1) := zsh_g zdk_287 (r := 2) (k := 0) rfl rfl rfl
theorem zd_287_11 : decode prog_7_method_2_code 11 = .ok (.iload_n 3, 1) := zsh_g zdk_287 (r := 2) (k := 1) rfl rfl rfl
theorem zd_287_12 : decode prog_7_method_2_code 12 = .ok (.putfield 32, 3) := zsh_g zdk_287 (r := 3) (k := 0) rfl rfl rfl
theorem zd_287_15 : decode prog_7_method_2_code 15 = .ok (.aload_n 0, 1) := zsh_g zdk_287 (r := 3) (k := 1) rfl rfl rfl
theorem zd_287_16 : decode prog_7_method_2_code 16 = .ok (.iload 4, 2) := zsh_g zdk_287 (r := 4) (k := 0) rfl rfl rfl
theorem zd_287_18 : decode prog_7_method_2_code 18 = .ok (.putfield 35, 3) := zsh_g zdk_287 (r := 4) (k := 1) rfl rfl rfl
theorem zd_287_21 : decode prog_7_method_2_code 21 = .ok (.aload_n 0, 1) := zsh_g zdk_287 (r := 5) (k := 0) rfl rfl rfl
theorem zd_287_22 : decode prog_7_method_2_code 22 = .ok (.iload 5, 2) := zsh_g zdk_287 (r := 5) (k := 1) rfl rfl rfl
theorem zd_287_24 : decode prog_7_method_2_code 24 = .ok (.putfield 38, 3) := zsh_g zdk_287 (r := 6) (k := 0) rfl rfl rfl
theorem zd_287_27 : decode prog_7_method_2_code 27 = .ok (.aload_n 0, 1) := zsh_g zdk_287 (r := 6) (k := 1) rfl rfl rfl
theorem zd_287_28 : decode prog_7_method_2_code 28 = .ok (.iload 5, 2) := zsh_g zdk_287 (r := 7) (k := 0) rfl rfl rfl
theorem zd_287_30 : decode prog_7_method_2_code 30 = .ok (.iconst 4, 1) := zsh_g zdk_287 (r := 7) (k := 1) rfl rfl rfl
theorem zd_287_31 : decode prog_7_method_2_code 31 = .ok (.iadd, 1) := zsh_g zdk_287 (r := 7) (k := 2) rfl rfl rfl
theorem zd_287_32 : decode prog_7_method_2_code 32 = .ok (.putfield 41, 3) := zsh_g zdk_287 (r := 8) (k := 0) rfl rfl rfl
theorem zd_287_35 : decode prog_7_method_2_code 35 = .ok (.aload_n 0, 1) := zsh_g zdk_287 (r := 8) (k := 1) rfl rfl rfl
theorem zd_287_36 : decode prog_7_method_2_code 36 = .ok (.iconst 0, 1) := zsh_g zdk_287 (r := 9) (k := 0) rfl rfl rfl
theorem zd_287_37 : decode prog_7_method_2_code 37 = .ok (.putfield 44, 3) := zsh_g zdk_287 (r := 9) (k := 1) rfl rfl rfl
theorem zd_287_40 : decode prog_7_method_2_code 40 = .ok (.aload_n 0, 1) := zsh_g zdk_287 (r := 10) (k := 0) rfl rfl rfl
theorem zd_287_41 : decode prog_7_method_2_code 41 = .ok (.iconst 0, 1) := zsh_g zdk_287 (r := 10) (k := 1) rfl rfl rfl
theorem zd_287_42 : decode prog_7_method_2_code 42 = .ok (.putfield 47, 3) := zsh_g zdk_287 (r := 10) (k := 2) rfl rfl rfl
theorem zd_287_45 : decode prog_7_method_2_code 45 = .ok (.aload_n 0, 1) := zsh_g zdk_287 (r := 11) (k := 0) rfl rfl rfl
theorem zd_287_46 : decode prog_7_method_2_code 46 = .ok (.iconst 0, 1) := zsh_g zdk_287 (r := 11) (k := 1) rfl rfl rfl
theorem zd_287_47 : decode prog_7_method_2_code 47 = .ok (.putfield 50, 3) := zsh_g zdk_287 (r := 11) (k := 2) rfl rfl rfl
theorem zd_287_50 : decode prog_7_method_2_code 50 = .ok (.aload_n 0, 1) := zsh_g zdk_287 (r := 12) (k := 0) rfl rfl rfl
theorem zd_287_51 : decode prog_7_method_2_code 51 = .ok (.iconst 0, 1) := zsh_g zdk_287 (r := 12) (k := 1) rfl rfl rfl
theorem zd_287_52 : decode prog_7_method_2_code 52 = .ok (.putfield 53, 3) := zsh_g zdk_287 (r := 13) (k := 0) rfl rfl rfl
theorem zd_287_55 : decode prog_7_method_2_code 55 = .ok (.aload_n 0, 1) := zsh_g zdk_287 (r := 13) (k := 1) rfl rfl rfl
theorem zd_287_56 : decode prog_7_method_2_code 56 = .ok (.iconst 0, 1) := zsh_g zdk_287 (r := 14) (k := 0) rfl rfl rfl
theorem zd_287_57 : decode prog_7_method_2_code 57 = .ok (.putfield 56, 3) := zsh_g zdk_287 (r := 14) (k := 1) rfl rfl rfl
theorem zd_287_60 : decode prog_7_method_2_code 60 = .ok (.aload_n 0, 1) := zsh_g zdk_287 (r := 15) (k := 0) rfl rfl rfl
theorem zd_287_61 : decode prog_7_method_2_code 61 = .ok (.iconst 0, 1) := zsh_g zdk_287 (r := 15) (k := 1) rfl rfl rfl
theorem zd_287_62 : decode prog_7_method_2_code 62 = .ok (.putfield 59, 3) := zsh_g zdk_287 (r := 15) (k := 2) rfl rfl rfl
theorem zd_287_65 : decode prog_7_method_2_code 65 = .ok (.aload_n 0, 1) := zsh_g zdk_287 (r := 16) (k := 0) rfl rfl rfl
theorem zd_287_66 : decode prog_7_method_2_code 66 = .ok (.iconst 0, 1) := zsh_g zdk_287 (r := 16) (k := 1) rfl rfl rfl
theorem zd_287_67 : decode prog_7_method_2_code 67 = .ok (.putfield 62, 3) := zsh_g zdk_287 (r := 16) (k := 2) rfl rfl rfl
theorem zd_287_70 : decode prog_7_method_2_code 70 = .ok (.aload_n 0, 1) := zsh_g zdk_287 (r := 17) (k := 0) rfl rfl rfl
theorem zd_287_71 : decode prog_7_method_2_code 71 = .ok (.getfield 18, 3) := zsh_g zdk_287 (r := 17) (k := 1) rfl rfl rfl
theorem zd_287_74 : decode prog_7_method_2_code 74 = .ok (.iconst 0, 1) := zsh_g zdk_287 (r := 18) (k := 0) rfl rfl rfl
theorem zd_287_75 : decode prog_7_method_2_code 75 = .ok (.aload_n 0, 1) := zsh_g zdk_287 (r := 18) (k := 1) rfl rfl rfl
theorem zd_287_76 : decode prog_7_method_2_code 76 = .ok (.getfield 29, 3) := zsh_g zdk_287 (r := 19) (k := 0) rfl rfl rfl
theorem zd_287_79 : decode prog_7_method_2_code 79 = .ok (.iconst 4, 1) := zsh_g zdk_287 (r := 19) (k := 1) rfl rfl rfl
theorem zd_287_80 : decode prog_7_method_2_code 80 = .ok (.idiv, 1) := zsh_g zdk_287 (r := 20) (k := 0) rfl rfl rfl
theorem zd_287_81 : decode prog_7_method_2_code 81 = .ok (.iconst 0, 1) := zsh_g zdk_287 (r := 20) (k := 1) rfl rfl rfl
theorem zd_287_82 : decode prog_7_method_2_code 82 = .ok (.invokestatic 65, 3) := zsh_g zdk_287 (r := 20) (k := 2) rfl rfl rfl
theorem zd_287_85 : decode prog_7_method_2_code 85 = .ok (.aload_n 0, 1) := zsh_g zdk_287 (r := 21) (k := 0) rfl rfl rfl
theorem zd_287_86 : decode prog_7_method_2_code 86 = .ok (.getfield 9, 3) := zsh_g zdk_287 (r := 21) (k := 1) rfl rfl rfl
theorem zd_287_89 : decode prog_7_method_2_code 89 = .ok (.iconst 0, 1) := zsh_g zdk_287 (r := 22) (k := 0) rfl rfl rfl
theorem zd_287_90 : decode prog_7_method_2_code 90 = .ok (.invokestatic 71, 3) := zsh_g zdk_287 (r := 22) (k := 1) rfl rfl rfl
theorem zd_287_93 : decode prog_7_method_2_code 93 = .ok (.aload_n 0, 1) := zsh_g zdk_287 (r := 23) (k := 0) rfl rfl rfl
theorem zd_287_94 : decode prog_7_method_2_code 94 = .ok (.getfield 9, 3) := zsh_g zdk_287 (r := 23) (k := 1) rfl rfl rfl
theorem zd_287_97 : decode prog_7_method_2_code 97 = .ok (.bipush 29, 2) := zsh_g zdk_287 (r := 24) (k := 0) rfl rfl rfl
theorem zd_287_99 : decode prog_7_method_2_code 99 = .ok (.aload_n 0, 1) := zsh_g zdk_287 (r := 24) (k := 1) rfl rfl rfl
theorem zd_287_100 : decode prog_7_method_2_code 100 = .ok (.getfield 25, 3) := zsh_g zdk_287 (r := 25) (k := 0) rfl rfl rfl
theorem zd_287_103 : decode prog_7_method_2_code 103 = .ok (.aload_n 0, 1) := zsh_g zdk_287 (r := 25) (k := 1) rfl rfl rfl
theorem zd_287_104 : decode prog_7_method_2_code 104 = .ok (.getfield 29, 3) := zsh_g zdk_287 (r := 26) (k := 0) rfl rfl rfl
theorem zd_287_107 : decode prog_7_method_2_code 107 = .ok (.iadd, 1) := zsh_g zdk_287 (r := 26) (k := 1) rfl rfl rfl
theorem zd_287_108 : decode prog_7_method_2_code 108 = .ok (.iastore, 1) := zsh_g zdk_287 (r := 27) (k := 0) rfl rfl rfl
theorem zd_287_109 : decode prog_7_method_2_code 109 = .ok (.aload_n 0, 1) := zsh_g zdk_287 (r := 27) (k := 1) rfl rfl rfl
theorem zd_287_110 : decode prog_7_method_2_code 110 = .ok (.getfield 9, 3) := zsh_g zdk_287 (r := 27) (k := 2) rfl rfl rfl
theorem zd_287_113 : decode prog_7_method_2_code 113 = .ok (.bipush 28, 2) := zsh_g zdk_287 (r := 28) (k := 0) rfl rfl rfl
theorem zd_287_115 : decode prog_7_method_2_code 115 = .ok (.aload_n 0, 1) := zsh_g zdk_287 (r := 28) (k := 1) rfl rfl rfl
theorem zd_287_116 : decode prog_7_method_2_code 116 = .ok (.getfield 35, 3) := zsh_g zdk_287 (r := 29) (k := 0) rfl rfl rfl
theorem zd_287_119 : decode prog_7_method_2_code 119 = .ok (.iastore, 1) := zsh_g zdk_287 (r := 29) (k := 1) rfl rfl rfl
def zdl_288 : List (List (Nat × Instr × Nat)) := [[(0, (.aload_n 0), 1), (1, (.iload_n 1), 1), (2, (.iload_n 2), 1), (3, (.sipush 255), 3)], [(2, (.invokevirtual 78), 3)]]
theorem zdk_288 : zsh_all 8 zdl_288 prog_7_method_6_code.data.toList = true := by decide +kernel
theorem zd_288_0 : decode prog_7_method_6_code 0 = .ok (.aload_n 0, 1) := zsh_g zdk_288 (r := 0) (k := 0) rfl rfl rfl
theorem zd_288_1 : decode prog_7_method_6_code 1 = .ok (.iload_n 1, 1) := zsh_g zdk_288 (r := 0) (k := 1) rfl rfl rfl
theorem zd_288_2 : decode prog_7_method_6_code 2 = .ok (.iload_n 2, 1) := zsh_g zdk_288 (r := 0) (k := 2) rfl rfl rfl
theorem zd_288_3 : decode prog_7_method_6_code 3 = .ok (.sipush 255, 3) := zsh_g zdk_288 (r := 0) (k := 3) rfl rfl rfl
theorem zd_288_6 : decode prog_7_method_6_code 6 = .ok (.invokevirtual 78, 3) := zsh_g zdk_288 (r := 1) (k := 0) rfl rfl rfl
def zdl_289 : List (List (Nat × Instr × Nat)) := [[(0, (.aload_n 0), 1), (1, (.getfield 19), 3)], [(0, (.iload_n 1), 1), (1, (.invokevirtual 182), 3)], [(0, (.istore 4), 2), (2, (.iload_n 2), 1), (3, (.ifCond .ne 9), 3)], [(2, (.iload_n 3), 1), (3, (.istore 4), 2)], [(1, (.goto 89), 3)], [(0, (.iload_n 2), 1), (1, (.iconst 1), 1), (2, (.if_icmp .ne 24), 3)], [(1, (.iload 4), 2), (3, (.ldc 186), 2)], [(1, .iand, 1), (2, (.iload_n 3), 1), (3, (.ldc 187), 2)], [(1, .iadd, 1), (2, (.bipush 16), 2)], [(0, .ishr, 1), (1, (.ldc 188), 2), (3, .iand, 1)], [(0, .ior, 1), (1, (.istore 4), 2), (3, (.goto 63), 3)], [(2, (.iload_n 2), 1), (3, (.iconst 2), 1)], [(0, (.if_icmp .ne 18), 3), (3, (.iload 4), 2)], [(1, (.ldc 186), 2), (3, .iand, 1)], [(0, (.iload_n 3), 1), (1, (.ldc 188), 2), (3, .iand, 1)], [(0, .ior, 1), (1, (.istore 4), 2), (3, (.goto 43), 3)], [(2, (.iload_n 2), 1), (3, (.iconst 3), 1)], [(0, (.if_icmp .ne 20), 3), (3, (.iload 4), 2)], [(1, (.ldc 189), 2), (3, .iand, 1)], [(0, (.iload_n 3), 1), (1, (.iconst 2), 1), (2, .ishr, 1), (3, (.ldc 190), 2)], [(1, .iand, 1), (2, .ior, 1), (3, (.istore 4), 2)], [(1, (.goto 21), 3)], [(0, (.iload 4), 2), (2, (.ldc 186), 2)], [(0, .iand, 1), (1, (.iload_n 3), 1), (2, (.iload_n 1), 1), (3, .isub, 1)], [(0, (.iconst 4), 1), (1, .isub, 1), (2, (.iconst 2), 1), (3, .ishr, 1)], [(0, (.ldc 188), 2), (2, .iand, 1), (3, .ior, 1)], [(0, (.istore 4), 2), (2, (.aload_n 0), 1), (3, (.getfield 19), 3)], [(2, (.iload_n 1), 1), (3, (.iload 4), 2)], [(1, (.invokevirtual 191), 3)]]
theorem zdk_289 : zsh_all 8 zdl_289 prog_6_method_18_code.data.toList = true := by decide +kernel
theorem zd_289_0 : decode prog_6_method_18_code 0 = .ok (.aload_n 0, 1) := zsh_g zdk_289 (r := 0) (k := 0) rfl rfl rfl
theorem zd_289_1 : decode prog_6_method_18_code 1 = .ok (.getfield 19, 3) := zsh_g zdk_289 (r := 0) (k := 1) rfl rfl rfl
theorem zd_289_4 : decode prog_6_method_18_code 4 = .ok (.iload_n 1, 1) := zsh_g zdk_289 (r := 1) (k := 0) rfl rfl rfl
theorem zd_289_5 : decode prog_6_method_18_code 5 = .ok (.invokevirtual 182, 3) := zsh_g zdk_289 (r := 1) (k := 1) rfl rfl rfl
theorem zd_289_8 : decode prog_6_method_18_code 8 = .ok (.istore 4, 2) := zsh_g zdk_289 (r := 2) (k := 0) rfl rfl rfl
theorem zd_289_10 : decode prog_6_method_18_code 10 = .ok (.iload_n 2, 1) := zsh_g zdk_289 (r := 2) (k := 1) rfl rfl rfl
theorem zd_289_11 : decode prog_6_method_18_code 11 = .ok (.ifCond .ne 9, 3) := zsh_g zdk_289 (r := 2) (k := 2) rfl rfl rfl
theorem zd_289_14 : decode prog_6_method_18_code 14 = .ok (.iload_n 3, 1) := zsh_g zdk_289 (r := 3) (k := 0) rfl rfl rfl
theorem zd_289_15 : decode prog_6_method_18_code 15 = .ok (.istore 4, 2) := zsh_g zdk_289 (r := 3) (k := 1) rfl rfl rfl
theorem zd_289_17 : decode prog_6_method_18_code 17 = .ok (.goto 89, 3) := zsh_g zdk_289 (r := 4) (k := 0) rfl rfl rfl
theorem zd_289_20 : decode prog_6_method_18_code 20 = .ok (.iload_n 2, 1) := zsh_g zdk_289 (r := 5) (k := 0) rfl rfl rfl
theorem zd_289_21 : decode prog_6_method_18_code 21 = .ok (.iconst 1, 1) := zsh_g zdk_289 (r := 5) (k := 1) rfl rfl rfl
theorem zd_289_22 : decode prog_6_method_18_code 22 = .ok (.if_icmp .ne 24, 3) := zsh_g zdk_289 (r := 5) (k := 2) rfl rfl rfl
theorem zd_289_25 : decode prog_6_method_18_code 25 = .ok (.iload 4, 2) := zsh_g zdk_289 (r := 6) (k := 0) rfl rfl rfl
theorem zd_289_27 : decode prog_6_method_18_code 27 = .ok (.ldc 186, 2) := zsh_g zdk_289 (r := 6) (k := 1) rfl rfl rfl
theorem zd_289_29 : decode prog_6_method_18_code 29 = .ok (.iand, 1) := zsh_g zdk_289 (r := 7) (k := 0) rfl rfl rfl
theorem zd_289_30 : decode prog_6_method_18_code 30 = .ok (.iload_n 3, 1) := zsh_g zdk_289 (r := 7) (k := 1) rfl rfl rfl
theorem zd_289_31 : decode prog_6_method_18_code 31 = .ok (.ldc 187, 2) := zsh_g zdk_289 (r := 7) (k := 2) rfl rfl rfl
theorem zd_289_33 : decode prog_6_method_18_code 33 = .ok (.iadd, 1) := zsh_g zdk_289 (r := 8) (k := 0) rfl rfl rfl
theorem zd_289_34 : decode prog_6_method_18_code 34 = .ok (.bipush 16, 2) := zsh_g zdk_289 (r := 8) (k := 1) rfl rfl rfl
theorem zd_289_36 : decode prog_6_method_18_code 36 = .ok (.ishr, 1) := zsh_g zdk_289 (r := 9) (k := 0) rfl rfl rfl
theorem zd_289_37 : decode prog_6_method_18_code 37 = .ok (.ldc 188, 2) := zsh_g zdk_289 (r := 9) (k := 1) rfl rfl rfl
theorem zd_289_39 : decode prog_6_method_18_code 39 = .ok (.iand, 1) := zsh_g zdk_289 (r := 9) (k := 2) rfl rfl rfl
theorem zd_289_40 : decode prog_6_method_18_code 40 = .ok (.ior, 1) := zsh_g zdk_289 (r := 10) (k := 0) rfl rfl rfl
theorem zd_289_41 : decode prog_6_method_18_code 41 = .ok (.istore 4, 2) := zsh_g zdk_289 (r := 10) (k := 1) rfl rfl rfl
theorem zd_289_43 : decode prog_6_method_18_code 43 = .ok (.goto 63, 3) := zsh_g zdk_289 (r := 10) (k := 2) rfl rfl rfl
theorem zd_289_46 : decode prog_6_method_18_code 46 = .ok (.iload_n 2, 1) := zsh_g zdk_289 (r := 11) (k := 0) rfl rfl rfl
theorem zd_289_47 : decode prog_6_method_18_code 47 = .ok (.iconst 2, 1) := zsh_g zdk_289 (r := 11) (k := 1) rfl rfl rfl
theorem zd_289_48 : decode prog_6_method_18_code 48 = .ok (.if_icmp .ne 18, 3) := zsh_g zdk_289 (r := 12) (k := 0) rfl rfl rfl
theorem zd_289_51 : decode prog_6_method_18_code 51 = .ok (.iload 4, 2) := zsh_g zdk_289 (r := 12) (k := 1) rfl rfl rfl
theorem zd_289_53 : decode prog_6_method_18_code 53 = .ok (.ldc 186, 2) := zsh_g zdk_289 (r := 13) (k := 0) rfl rfl rfl
theorem zd_289_55 : decode prog_6_method_18_code 55 = .ok (.iand, 1) := zsh_g zdk_289 (r := 13) (k := 1) rfl rfl rfl
theorem zd_289_56 : decode prog_6_method_18_code 56 = .ok (.iload_n 3, 1) := zsh_g zdk_289 (r := 14) (k := 0) rfl rfl rfl
theorem zd_289_57 : decode prog_6_method_18_code 57 = .ok (.ldc 188, 2) := zsh_g zdk_289 (r := 14) (k := 1) rfl rfl rfl
theorem zd_289_59 : decode prog_6_method_18_code 59 = .ok (.iand, 1) := zsh_g zdk_289 (r := 14) (k := 2) rfl rfl rfl
theorem zd_289_60 : decode prog_6_method_18_code 60 = .ok (.ior, 1) := zsh_g zdk_289 (r := 15) (k := 0) rfl rfl rfl
theorem zd_289_61 : decode prog_6_method_18_code 61 = .ok (.istore 4, 2) := zsh_g zdk_289 (r := 15) (k := 1) rfl rfl rfl
theorem zd_289_63 : decode prog_6_method_18_code 63 = .ok (.goto 43, 3) := zsh_g zdk_289 (r := 15) (k := 2) rfl rfl rfl
theorem zd_289_66 : decode prog_6_method_18_code 66 = .ok (.iload_n 2, 1) := zsh_g zdk_289 (r := 16) (k := 0) rfl rfl rfl
theorem zd_289_67 : decode prog_6_method_18_code 67 = .ok (.iconst 3, 1) := zsh_g zdk_289 (r := 16) (k := 1) rfl rfl rfl
theorem zd_289_68 : decode prog_6_method_18_code 68 = .ok (.if_icmp .ne 20, 3) := zsh_g zdk_289 (r := 17) (k := 0) rfl rfl rfl
theorem zd_289_71 : decode prog_6_method_18_code 71 = .ok (.iload 4, 2) := zsh_g zdk_289 (r := 17) (k := 1) rfl rfl rfl
theorem zd_289_73 : decode prog_6_method_18_code 73 = .ok (.ldc 189, 2) := zsh_g zdk_289 (r := 18) (k := 0) rfl rfl rfl
theorem zd_289_75 : decode prog_6_method_18_code 75 = .ok (.iand, 1) := zsh_g zdk_289 (r := 18) (k := 1) rfl rfl rfl
theorem zd_289_76 : decode prog_6_method_18_code 76 = .ok (.iload_n 3, 1) := zsh_g zdk_289 (r := 19) (k := 0) rfl rfl rfl
theorem zd_289_77 : decode prog_6_method_18_code 77 = .ok (.iconst 2, 1) := zsh_g zdk_289 (r := 19) (k := 1) rfl rfl rfl
theorem zd_289_78 : decode prog_6_method_18_code 78 = .ok (.ishr, 1) := zsh_g zdk_289 (r := 19) (k := 2) rfl rfl rfl
theorem zd_289_79 : decode prog_6_method_18_code 79 = .ok (.ldc 190, 2) := zsh_g zdk_289 (r := 19) (k := 3) rfl rfl rfl
theorem zd_289_81 : decode prog_6_method_18_code 81 = .ok (.iand, 1) := zsh_g zdk_289 (r := 20) (k := 0) rfl rfl rfl
theorem zd_289_82 : decode prog_6_method_18_code 82 = .ok (.ior, 1) := zsh_g zdk_289 (r := 20) (k := 1) rfl rfl rfl
theorem zd_289_83 : decode prog_6_method_18_code 83 = .ok (.istore 4, 2) := zsh_g zdk_289 (r := 20) (k := 2) rfl rfl rfl
theorem zd_289_85 : decode prog_6_method_18_code 85 = .ok (.goto 21, 3) := zsh_g zdk_289 (r := 21) (k := 0) rfl rfl rfl
theorem zd_289_88 : decode prog_6_method_18_code 88 = .ok (.iload 4, 2) := zsh_g zdk_289 (r := 22) (k := 0) rfl rfl rfl
theorem zd_289_90 : decode prog_6_method_18_code 90 = .ok (.ldc 186, 2) := zsh_g zdk_289 (r := 22) (k := 1) rfl rfl rfl
theorem zd_289_92 : decode prog_6_method_18_code 92 = .ok (.iand, 1) := zsh_g zdk_289 (r := 23) (k := 0) rfl rfl rfl
theorem zd_289_93 : decode prog_6_method_18_code 93 = .ok (.iload_n 3, 1) := zsh_g zdk_289 (r := 23) (k := 1) rfl rfl rfl
theorem zd_289_94 : decode prog_6_method_18_code 94 = .ok (.iload_n 1, 1) := zsh_g zdk_289 (r := 23) (k := 2) rfl rfl rfl
theorem zd_289_95 : decode prog_6_method_18_code 95 = .ok (.isub, 1) := zsh_g zdk_289 (r := 23) (k := 3) rfl rfl rfl
theorem zd_289_96 : decode prog_6_method_18_code 96 = .ok (.iconst 4, 1) := zsh_g zdk_289 (r := 24) (k := 0) rfl rfl rfl
theorem zd_289_97 : decode prog_6_method_18_code 97 = .ok (.isub, 1) := zsh_g zdk_289 (r := 24) (k := 1) rfl rfl rfl
theorem zd_289_98 : decode prog_6_method_18_code 98 = .ok (.iconst 2, 1) := zsh_g zdk_289 (r := 24) (k := 2) rfl rfl rfl
theorem zd_289_99 : decode prog_6_method_18_code 99 = .ok (.ishr, 1) := zsh_g zdk_289 (r := 24) (k := 3) rfl rfl rfl
theorem zd_289_100 : decode prog_6_method_18_code 100 = .ok (.ldc 188, 2) := zsh_g zdk_289 (r := 25) (k := 0) rfl rfl rfl
theorem zd_289_102 : decode prog_6_method_18_code 102 = .ok (.iand, 1) := zsh_g zdk_289 (r := 25) (k := 1) rfl rfl rfl
theorem zd_289_103 : decode prog_6_method_18_code 103 = .ok (.ior, 1) := zsh_g zdk_289 (r := 25) (k := 2) rfl rfl rfl
theorem zd_289_104 : decode prog_6_method_18_code 104 = .ok (.istore 4, 2) := zsh_g zdk_289 (r := 26) (k := 0) rfl rfl rfl
theorem zd_289_106 : decode prog_6_method_18_code 106 = .ok (.aload_n 0, 1) := zsh_g zdk_289 (r := 26) (k := 1) rfl rfl rfl
theorem zd_289_107 : decode prog_6_method_18_code 107 = .ok (.getfield 19, 3) := zsh_g zdk_289 (r := 26) (k := 2) rfl rfl rfl
theorem zd_289_110 : decode prog_6_method_18_code 110 = .ok (.iload_n 1, 1) := zsh_g zdk_289 (r := 27) (k := 0) rfl rfl rfl
theorem zd_289_111 : decode prog_6_method_18_code 111 = .ok (.iload 4, 2) := zsh_g zdk_289 (r := 27) (k := 1) rfl rfl rfl
theorem zd_289_113 : decode prog_6_method_18_code 113 = .ok (.invokevirtual 191, 3) := zsh_g zdk_289 (r := 28) (k := 0) rfl rfl rfl
def zdl_290 : List (List (Nat × Instr × Nat)) := [[(0, (.aload_n 0), 1), (1, (.iload_n 1), 1), (2, (.putfield 53), 3)], [(1, (.aload_n 0), 1), (2, (.iload_n 2), 1), (3, (.putfield 56), 3)], [(2, (.iconst 0), 1)]]
theorem zdk_290 : zsh_all 8 zdl_290 prog_7_method_9_code.data.toList = true := by decide +kernel
theorem zd_290_0 : decode prog_7_method_9_code 0 = .ok (.aload_n 0, 1) := zsh_g zdk_290 (r := 0) (k := 0) rfl rfl rfl
theorem zd_290_1 : decode prog_7_method_9_code 1 = .ok (.iload_n 1, 1) := zsh_g zdk_290 (r := 0) (k := 1) rfl rfl rfl
theorem zd_290_2 : decode prog_7_method_9_code 2 = .ok (.putfield 53, 3) := zsh_g zdk_290 (r := 0) (k := 2) rfl rfl rfl
theorem zd_290_5 : decode prog_7_method_9_code 5 = .ok (.aload_n 0, 1) := zsh_g zdk_290 (r := 1) (k := 0) rfl rfl rfl
theorem zd_290_6 : decode prog_7_method_9_code 6 = .ok (.iload_n 2, 1) := zsh_g zdk_290 (r := 1) (k := 1) rfl rfl rfl
theorem zd_290_7 : decode prog_7_method_9_code 7 = .ok (.putfield 56, 3) := zsh_g zdk_290 (r := 1) (k := 2) rfl rfl rfl
theorem zd_290_10 : decode prog_7_method_9_code 10 = .ok (.iconst 0, 1) := zsh_g zdk_290 (r := 2) (k := 0) rfl rfl rfl
def zdl_291 : List (List (Nat × Instr × Nat)) := [[(0, (.aload_n 0), 1), (1, (.getfield 9), 3)], [(0, (.iload_n 2), 1), (1, (.bipush 21), 2), (3, .iushr, 1)], [(0, (.bipush 31), 2), (2, .iand, 1), (3, .iaload, 1)], [(0, (.istore_n 3), 1), (1, (.aload_n 0), 1), (2, (.getfield 9), 3)], [(1, (.iload_n 2), 1), (2, (.bipush 16), 2)], [(0, .iushr, 1), (1, (.bipush 31), 2), (3, .iand, 1)], [(0, .iaload, 1), (1, (.istore 4), 2), (3, (.getstatic 115), 3)], [(2, (.iload_n 1), 1), (3, .iaload, 1)], [], [], [], [], [], [], [], [], [], [], [], [], [], [], [], [], [], [], [], [(0, (.aload_n 0), 1), (1, (.iload_n 2), 1), (2, (.bipush 11), 2)], [(0, .iushr, 1), (1, (.bipush 31), 2), (3, .iand, 1)], [(0, (.iload_n 1), 1), (1, (.iload_n 3), 1), (2, (.iload 4), 2)], [(0, (.invokestatic 118), 3), (3, (.invokevirtual 122), 3)], [(2, (.iconst 1), 1)], [(0, (.aload_n 0), 1), (1, (.iload_n 2), 1), (2, (.bipush 11), 2)], [(0, .iushr, 1), (1, (.bipush 31), 2), (3, .iand, 1)], [(0, (.iload_n 1), 1), (1, (.iload 4), 2), (3, (.iload_n 2), 1)], [(0, (.bipush 6), 2), (2, .iushr, 1), (3, (.bipush 31), 2)], [(1, .iand, 1), (2, (.invokestatic 125), 3)], [(1, (.invokevirtual 122), 3)], [(0, (.iconst 1), 1), (2, (.aload_n 0), 1), (3, (.iload_n 1), 1)], [(0, (.iload_n 3), 1), (1, (.iload 4), 2), (3, (.invokevirtual 128), 3)], [(2, (.iconst 1), 1)], [(0, (.aload_n 0), 1), (1, (.iload_n 2), 1), (2, (.bipush 11), 2)], [(0, .iushr, 1), (1, (.bipush 31), 2), (3, .iand, 1)], [(0, (.iload_n 1), 1), (1, (.bipush 10), 2), (3, (.if_icmp .ne 10), 3)], [(2, (.aload_n 0), 1), (3, (.getfield 44), 3)], [(2, (.goto 7), 3)], [(1, (.aload_n 0), 1), (2, (.getfield 47), 3)], [(1, (.invokevirtual 122), 3)], [(0, (.iconst 1), 1), (2, (.aload_n 0), 1), (3, (.iload_n 1), 1)], [(0, (.iload_n 3), 1), (1, (.invokevirtual 131), 3)], [(0, (.iconst 1), 1), (2, (.aload_n 0), 1), (3, (.invokevirtual 134), 3)], [(3, (.aload_n 0), 1)], [(0, (.iconst 2), 1), (1, (.iload_n 2), 1), (2, (.bipush 16), 2)], [(0, .iushr, 1), (1, (.sipush 1023), 3)], [(0, .iand, 1), (1, (.invokevirtual 100), 3)], [(1, (.aload_n 0), 1), (2, (.iload_n 2), 1), (3, (.bipush 16), 2)], [(1, .iushr, 1), (2, (.bipush 31), 2)], [(0, .iand, 1), (1, (.iload_n 1), 1), (2, (.iload_n 3), 1), (3, (.iload_n 2), 1)], [(0, (.invokestatic 137), 3), (3, (.invokevirtual 122), 3)], [(2, (.iconst 1), 1)], [(0, (.aload_n 0), 1), (1, (.iload_n 1), 1), (2, (.iload_n 3), 1), (3, (.iload_n 2), 1)], [(0, .i2s, 1), (1, .iadd, 1), (2, (.iload_n 2), 1), (3, (.bipush 16), 2)], [(1, .iushr, 1), (2, (.bipush 31), 2)], [(0, .iand, 1), (1, (.invokevirtual 140), 3)], [(1, (.iload_n 1), 1), (2, (.bipush 31), 2)], [(0, (.if_icmp .ne 16), 3), (3, (.aload_n 0), 1)], [(0, (.bipush 31), 2), (2, (.aload_n 0), 1), (3, (.getfield 38), 3)], [(2, (.bipush 8), 2)], [(0, .iadd, 1), (1, (.invokevirtual 122), 3)], [(0, (.aload_n 0), 1), (1, (.aload_n 0), 1), (2, (.getfield 38), 3)], [(1, (.iconst 4), 1), (2, .iadd, 1), (3, (.ldc 144), 2)], [(1, .iand, 1), (2, (.iload_n 2), 1), (3, (.ldc 145), 2)], [(1, .iand, 1), (2, (.iconst 2), 1), (3, .ishl, 1)], [(0, .ior, 1), (1, (.putfield 109), 3)], [(0, (.iconst 1), 1), (2, (.aload_n 0), 1), (3, (.iload_n 1), 1)], [(0, (.iload_n 3), 1), (1, (.iload 4), 2), (3, (.iload_n 2), 1)], [(0, .i2s, 1), (1, (.invokevirtual 146), 3)], [(0, (.iconst 1), 1)]]
theorem zdk_291 : zsh_all 8 zdl_291 prog_7_method_11_code.data.toList = true := by decide +kernel
theorem zd_291_0 : decode prog_7_method_11_code 0 = .ok (.aload_n 0, 1) := zsh_g zdk_291 (r := 0) (k := 0) rfl rfl rfl
theorem zd_291_1 : decode prog_7_method_11_code 1 = .ok (.getfield 9, 3) := zsh_g zdk_291 (r := 0) (k := 1) rfl rfl rfl
theorem zd_291_4 : decode prog_7_method_11_code 4 = .ok (.iload_n 2, 1) := zsh_g zdk_291 (r := 1) (k := 0) rfl rfl rfl
theorem zd_291_5 : decode prog_7_method_11_code 5 = .ok (.bipush 21, 2) := zsh_g zdk_291 (r := 1) (k := 1) rfl rfl rfl
theorem zd_291_7 : decode prog_7_method_11_code 7 = .ok (.iushr, 1) := zsh_g zdk_291 (r := 1) (k := 2) rfl rfl rfl
theorem zd_291_8 : decode prog_7_method_11_code 8 = .ok (.bipush 31, 2) := zsh_g zdk_291 (r := 2) (k := 0) rfl rfl rfl
theorem zd_291_10 : decode prog_7_method_11_code 10 = .ok (.iand, 1) := zsh_g zdk_291 (r := 2) (k := 1) rfl rfl rfl
theorem zd_291_11 : decode prog_7_method_11_code 11 = .ok (.iaload, 1) := zsh_g zdk_291 (r := 2) (k := 2) rfl rfl rfl
theorem zd_291_12 : decode prog_7_method_11_code 12 = .ok (.istore_n 3, 1) := zsh_g zdk_291 (r := 3) (k := 0) rfl rfl rfl
theorem zd_291_13 : decode prog_7_method_11_code 13 = .ok (.aload_n 0, 1) := zsh_g zdk_291 (r := 3) (k := 1) rfl rfl rfl
theorem zd_291_14 : decode prog_7_method_11_code 14 = .ok (.getfield 9, 3) := zsh_g zdk_291 (r := 3) (k := 2) rfl rfl rfl
theorem zd_291_17 : decode prog_7_method_11_code 17 = .ok (.iload_n 2, 1) := zsh_g zdk_291 (r := 4) (k := 0) rfl rfl rfl
theorem zd_291_18 : decode prog_7_method_11_code 18 = .ok (.bipush 16, 2) := zsh_g zdk_291 (r := 4) (k := 1) rfl rfl rfl
theorem zd_291_20 : decode prog_7_method_11_code 20 = .ok (.iushr, 1) := zsh_g zdk_291 (r := 5) (k := 0) rfl rfl rfl
theorem zd_291_21 : decode prog_7_method_11_code 21 = .ok (.bipush 31, 2) := zsh_g zdk_291 (r := 5) (k := 1) rfl rfl rfl
theorem zd_291_23 : decode prog_7_method_11_code 23 = .ok (.iand, 1) := zsh_g zdk_291 (r := 5) (k := 2) rfl rfl rfl
theorem zd_291_24 : decode prog_7_method_11_code 24 = .ok (.iaload, 1) := zsh_g zdk_291 (r := 6) (k := 0) rfl rfl rfl
theorem zd_291_25 : decode prog_7_method_11_code 25 = .ok (.istore 4, 2) := zsh_g zdk_291 (r := 6) (k := 1) rfl rfl rfl
theorem zd_291_27 : decode prog_7_method_11_code 27 = .ok (.getstatic 115, 3) := zsh_g zdk_291 (r := 6) (k := 2) rfl rfl rfl
theorem zd_291_30 : decode prog_7_method_11_code 30 = .ok (.iload_n 1, 1) := zsh_g zdk_291 (r := 7) (k := 0) rfl rfl rfl
theorem zd_291_31 : decode prog_7_method_11_code 31 = .ok (.iaload, 1) := zsh_g zdk_291 (r := 7) (k := 1) rfl rfl rfl
theorem zd_291_108 : decode prog_7_method_11_code 108 = .ok (.aload_n 0, 1) := zsh_g zdk_291 (r := 27) (k := 0) rfl rfl rfl
theorem zd_291_109 : decode prog_7_method_11_code 109 = .ok (.iload_n 2, 1) := zsh_g zdk_291 (r := 27) (k := 1) rfl rfl rfl
theorem zd_291_110 : decode prog_7_method_11_code 110 = .ok (.bipush 11, 2) := zsh_g zdk_291 (r := 27) (k := 2) rfl rfl rfl
theorem zd_291_112 : decode prog_7_method_11_code 112 = .ok (.iushr, 1) := zsh_g zdk_291 (r := 28) (k := 0) rfl rfl rfl
theorem zd_291_113 : decode prog_7_method_11_code 113 = .ok (.bipush 31, 2) := zsh_g zdk_291 (r := 28) (k := 1) rfl rfl rfl
theorem zd_291_115 : decode prog_7_method_11_code 115 = .ok (.iand, 1) := zsh_g zdk_291 (r := 28) (k := 2) rfl rfl rfl
theorem zd_291_116 : decode prog_7_method_11_code 116 = .ok (.iload_n 1, 1) := zsh_g zdk_291 (r := 29) (k := 0) rfl rfl rfl
theorem zd_291_117 : decode prog_7_method_11_code 117 = .ok (.iload_n 3, 1) := zsh_g zdk_291 (r := 29) (k := 1) rfl rfl rfl
theorem zd_291_118 : decode prog_7_method_11_code 118 = .ok (.iload 4, 2) := zsh_g zdk_291 (r := 29) (k := 2) rfl rfl rfl
theorem zd_291_120 : decode prog_7_method_11_code 120 = .ok (.invokestatic 118, 3) := zsh_g zdk_291 (r := 30) (k := 0) rfl rfl rfl
theorem zd_291_123 : decode prog_7_method_11_code 123 = .ok (.invokevirtual 122, 3) := zsh_g zdk_291 (r := 30) (k := 1) rfl rfl rfl
theorem zd_291_126 : decode prog_7_method_11_code 126 = .ok (.iconst 1, 1) := zsh_g zdk_291 (r := 31) (k := 0) rfl rfl rfl
theorem zd_291_128 : decode prog_7_method_11_code 128 = .ok (.aload_n 0, 1) := zsh_g zdk_291 (r := 32) (k := 0) rfl rfl rfl
theorem zd_291_129 : decode prog_7_method_11_code 129 = .ok (.iload_n 2, 1) := zsh_g zdk_291 (r := 32) (k := 1) rfl rfl rfl
theorem zd_291_130 : decode prog_7_method_11_code 130 = .ok (.bipush 11, 2) := zsh_g zdk_291 (r := 32) (k := 2) rfl rfl rfl
theorem zd_291_132 : decode prog_7_method_11_code 132 = .ok (.iushr, 1) := zsh_g zdk_291 (r := 33) (k := 0) rfl rfl rfl
theorem zd_291_133 : decode prog_7_method_11_code 133 = .ok (.bipush 31, 2) := zsh_g zdk_291 (r := 33) (k := 1) rfl rfl rfl
theorem zd_291_135 : decode prog_7_method_11_code 135 = .ok (.iand, 1) := zsh_g zdk_291 (r := 33) (k := 2) rfl rfl rfl
theorem zd_291_136 : decode prog_7_method_11_code 136 = .ok (.iload_n 1, 1) := zsh_g zdk_291 (r := 34) (k := 0) rfl rfl rfl
theorem zd_291_137 : decode prog_7_method_11_code 137 = .ok (.iload 4, 2) := zsh_g zdk_291 (r := 34) (k := 1) rfl rfl rfl
theorem zd_291_139 : decode prog_7_method_11_code 139 = .ok (.iload_n 2, 1) := zsh_g zdk_291 (r := 34) (k := 2) rfl rfl rfl
theorem zd_291_140 : decode prog_7_method_11_code 140 = .ok (.bipush 6, 2) := zsh_g zdk_291 (r := 35) (k := 0) rfl rfl rfl
theorem zd_291_142 : decode prog_7_method_11_code 142 = .ok (.iushr, 1) := zsh_g zdk_291 (r := 35) (k := 1) rfl rfl rfl
theorem zd_291_143 : decode prog_7_method_11_code 143 = .ok (.bipush 31, 2) := zsh_g zdk_291 (r := 35) (k := 2) rfl rfl rfl
theorem zd_291_145 : decode prog_7_method_11_code 145 = .ok (.iand, 1) := zsh_g zdk_291 (r := 36) (k := 0) rfl rfl rfl
theorem zd_291_146 : decode prog_7_method_11_code 146 = .ok (.invokestatic 125, 3) := zsh_g zdk_291 (r := 36) (k := 1) rfl rfl rfl
theorem zd_291_149 : decode prog_7_method_11_code 149 = .ok (.invokevirtual 122, 3) := zsh_g zdk_291 (r := 37) (k := 0) rfl rfl rfl
theorem zd_291_152 : decode prog_7_method_11_code 152 = .ok (.iconst 1, 1) := zsh_g zdk_291 (r := 38) (k := 0) rfl rfl rfl
theorem zd_291_154 : decode prog_7_method_11_code 154 = .ok (.aload_n 0, 1) := zsh_g zdk_291 (r := 38) (k := 1) rfl rfl rfl
theorem zd_291_155 : decode prog_7_method_11_code 155 = .ok (.iload_n 1, 1) := zsh_g zdk_291 (r := 38) (k := 2) rfl rfl rfl
theorem zd_291_156 : decode prog_7_method_11_code 156 = .ok (.iload_n 3, 1) := zsh_g zdk_291 (r := 39) (k := 0) rfl rfl rfl
theorem zd_291_157 : decode prog_7_method_11_code 157 = .ok (.iload 4, 2) := zsh_g zdk_291 (r := 39) (k := 1) rfl rfl rfl
theorem zd_291_159 : decode prog_7_method_11_code 159 = .ok (.invokevirtual 128, 3) := zsh_g zdk_291 (r := 39) (k := 2) rfl rfl rfl
theorem zd_291_162 : decode prog_7_method_11_code 162 = .ok (.iconst 1, 1) := zsh_g zdk_291 (r := 40) (k := 0) rfl rfl rfl
theorem zd_291_164 : decode prog_7_method_11_code 164 = .ok (.aload_n 0, 1) := zsh_g zdk_291 (r := 41) (k := 0) rfl rfl rfl
theorem zd_291_165 : decode prog_7_method_11_code 165 = .ok (.iload_n 2, 1) := zsh_g zdk_291 (r := 41) (k := 1) rfl rfl rfl
theorem zd_291_166 : decode prog_7_method_11_code 166 = .ok (.bipush 11, 2) := zsh_g zdk_291 (r := 41) (k := 2) rfl rfl rfl
theorem zd_291_168 : decode prog_7_method_11_code 168 = .ok (.iushr, 1) := zsh_g zdk_291 (r := 42) (k := 0) rfl rfl rfl
theorem zd_291_169 : decode prog_7_method_11_code 169 = .ok (.bipush 31, 2) := zsh_g zdk_291 (r := 42) (k := 1) rfl rfl rfl
theorem zd_291_171 : decode prog_7_method_11_code 171 = .ok (.iand, 1) := zsh_g zdk_291 (r := 42) (k := 2) rfl rfl rfl
theorem zd_291_172 : decode prog_7_method_11_code 172 = .ok (.iload_n 1, 1) := zsh_g zdk_291 (r := 43) (k := 0) rfl rfl rfl
theorem zd_291_173 : decode prog_7_method_11_code 173 = .ok (.bipush 10, 2) := zsh_g zdk_291 (r := 43) (k := 1) rfl rfl rfl
theorem zd_291_175 : decode prog_7_method_11_code 175 = .ok (.if_icmp .ne 10, 3) := zsh_g zdk_291 (r := 43) (k := 2) rfl rfl rfl
theorem zd_291_178 : decode prog_7_method_11_code 178 = .ok (.aload_n 0, 1) := zsh_g zdk_291 (r := 44) (k := 0) rfl rfl rfl
theorem zd_291_179 : decode prog_7_method_11_code 179 = .ok (.getfield 44, 3) := zsh_g zdk_291 (r := 44) (k := 1) rfl rfl rfl
theorem zd_291_182 : decode prog_7_method_11_code 182 = .ok (.goto 7, 3) := zsh_g zdk_291 (r := 45) (k := 0) rfl rfl rfl
theorem zd_291_185 : decode prog_7_method_11_code 185 = .ok (.aload_n 0, 1) := zsh_g zdk_291 (r := 46) (k := 0) rfl rfl rfl
theorem zd_291_186 : decode prog_7_method_11_code 186 = .ok (.getfield 47, 3) := zsh_g zdk_291 (r := 46) (k := 1) rfl rfl rfl
theorem zd_291_189 : decode prog_7_method_11_code 189 = .ok (.invokevirtual 122, 3) := zsh_g zdk_291 (r := 47) (k := 0) rfl rfl rfl
theorem zd_291_192 : decode prog_7_method_11_code 192 = .ok (.iconst 1, 1) := zsh_g zdk_291 (r := 48) (k := 0) rfl rfl rfl
theorem zd_291_194 : decode prog_7_method_11_code 194 = .ok (.aload_n 0, 1) := zsh_g zdk_291 (r := 48) (k := 1) rfl rfl rfl
theorem zd_291_195 : decode prog_7_method_11_code 195 = .ok (.iload_n 1, 1) := zsh_g zdk_291 (r := 48) (k := 2) rfl rfl rfl
theorem zd_291_196 : decode prog_7_method_11_code 196 = .ok (.iload_n 3, 1) := zsh_g zdk_291 (r := 49) (k := 0) rfl rfl rfl
theorem zd_291_197 : decode prog_7_method_11_code 197 = .ok (.invokevirtual 131, 3) := zsh_g zdk_291 (r := 49) (k := 1) rfl rfl rfl
theorem zd_291_200 : decode prog_7_method_11_code 200 = .ok (.iconst 1, 1) := zsh_g zdk_291 (r := 50) (k := 0) rfl rfl rfl
theorem zd_291_202 : decode prog_7_method_11_code 202 = .ok (.aload_n 0, 1) := zsh_g zdk_291 (r := 50) (k := 1) rfl rfl rfl
theorem zd_291_203 : decode prog_7_method_11_code 203 = .ok (.invokevirtual 134, 3) := zsh_g zdk_291 (r := 50) (k := 2) rfl rfl rfl
theorem zd_291_207 : decode prog_7_method_11_code 207 = .ok (.aload_n 0, 1) := zsh_g zdk_291 (r := 51) (k := 0) rfl rfl rfl
theorem zd_291_208 : decode prog_7_method_11_code 208 = .ok (.iconst 2, 1) := zsh_g zdk_291 (r := 52) (k := 0) rfl rfl rfl
theorem zd_291_209 : decode prog_7_method_11_code 209 = .ok (.iload_n 2, 1) := zsh_g zdk_291 (r := 52) (k := 1) rfl rfl rfl
theorem zd_291_210 : decode prog_7_method_11_code 210 = .ok (.bipush 16, 2) := zsh_g zdk_291 (r := 52) (k := 2) rfl rfl rfl
theorem zd_291_212 : decode prog_7_method_11_code 212 = .ok (.iushr, 1) := zsh_g zdk_291 (r := 53) (k := 0) rfl rfl rfl
theorem zd_291_213 : decode prog_7_method_11_code 213 = .ok (.sipush 1023, 3) := zsh_g zdk_291 (r := 53) (k := 1) rfl rfl rfl
theorem zd_291_216 : decode prog_7_method_11_code 216 = .ok (.iand, 1) := zsh_g zdk_291 (r := 54) (k := 0) rfl rfl rfl
theorem zd_291_217 : decode prog_7_method_11_code 217 = .ok (.invokevirtual 100, 3) := zsh_g zdk_291 (r := 54) (k := 1) rfl rfl rfl
theorem zd_291_221 : decode prog_7_method_11_code 221 = .ok (.aload_n 0, 1) := zsh_g zdk_291 (r := 55) (k := 0) rfl rfl rfl
theorem zd_291_222 : decode prog_7_method_11_code 222 = .ok (.iload_n 2, 1) := zsh_g zdk_291 (r := 55) (k := 1) rfl rfl rfl
theorem zd_291_223 : decode prog_7_method_11_code 223 = .ok (.bipush 16, 2) := zsh_g zdk_291 (r := 55) (k := 2) rfl rfl rfl
theorem zd_291_225 : decode prog_7_method_11_code 225 = .ok (.iushr, 1) := zsh_g zdk_291 (r := 56) (k := 0) rfl rfl rfl
theorem zd_291_226 : decode prog_7_method_11_code 226 = .ok (.bipush 31, 2) := zsh_g zdk_291 (r := 56) (k := 1) rfl rfl rfl
theorem zd_291_228 : decode prog_7_method_11_code 228 = .ok (.iand, 1) := zsh_g zdk_291 (r := 57) (k := 0) rfl rfl rfl
theorem zd_291_229 : decode prog_7_method_11_code 229 = .ok (.iload_n 1, 1) := zsh_g zdk_291 (r := 57) (k := 1) rfl rfl rfl
theorem zd_291_230 : decode prog_7_method_11_code 230 = .ok (.iload_n 3, 1) := zsh_g zdk_291 (r := 57) (k := 2) rfl rfl rfl
theorem zd_291_231 : decode prog_7_method_11_code 231 = .ok (.iload_n 2, 1) := zsh_g zdk_291 (r := 57) (k := 3) rfl rfl rfl
theorem zd_291_232 : decode prog_7_method_11_code 232 = .ok (.invokestatic 137, 3) := zsh_g zdk_291 (r := 58) (k := 0) rfl rfl rfl
theorem zd_291_235 : decode prog_7_method_11_code 235 = .ok (.invokevirtual 122, 3) := zsh_g zdk_291 (r := 58) (k := 1) rfl rfl rfl
theorem zd_291_238 : decode prog_7_method_11_code 238 = .ok (.iconst 1, 1) := zsh_g zdk_291 (r := 59) (k := 0) rfl rfl rfl
theorem zd_291_240 : decode prog_7_method_11_code 240 = .ok (.aload_n 0, 1) := zsh_g zdk_291 (r := 60) (k := 0) rfl rfl rfl
theorem zd_291_241 : decode prog_7_method_11_code 241 = .ok (.iload_n 1, 1) := zsh_g zdk_291 (r := 60) (k := 1) rfl rfl rfl
theorem zd_291_242 : decode prog_7_method_11_code 242 = .ok (.iload_n 3, 1) := zsh_g zdk_291 (r := 60) (k := 2) rfl rfl rfl
theorem zd_291_243 : decode prog_7_method_11_code 243 = .ok (.iload_n 2, 1) := zsh_g zdk_291 (r := 60) (k := 3) rfl rfl rfl
theorem zd_291_244 : decode prog_7_method_11_code 244 = .ok (.i2s, 1) := zsh_g zdk_291 (r := 61) (k := 0) rfl rfl rfl
theorem zd_291_245 : decode prog_7_method_11_code 245 = .ok (.iadd, 1) := zsh_g zdk_291 (r := 61) (k := 1) rfl rfl rfl
theorem zd_291_246 : decode prog_7_method_11_code 246 = .ok (.iload_n 2, 1) := zsh_g zdk_291 (r := 61) (k := 2) rfl rfl rfl
theorem zd_291_247 : decode prog_7_method_11_code 247 = .ok (.bipush 16, 2) := zsh_g zdk_291 (r := 61) (k := 3) rfl rfl rfl
theorem zd_291_249 : decode prog_7_method_11_code 249 = .ok (.iushr, 1) := zsh_g zdk_291 (r := 62) (k := 0) rfl rfl rfl
theorem zd_291_250 : decode prog_7_method_11_code 250 = .ok (.bipush 31, 2) := zsh_g zdk_291 (r := 62) (k := 1) rfl rfl rfl
theorem zd_291_252 : decode prog_7_method_11_code 252 = .ok (.iand, 1) := zsh_g zdk_291 (r := 63) (k := 0) rfl rfl rfl
theorem zd_291_253 : decode prog_7_method_11_code 253 = .ok (.invokevirtual 140, 3) := zsh_g zdk_291 (r := 63) (k := 1) rfl rfl rfl
theorem zd_291_257 : decode prog_7_method_11_code 257 = .ok (.iload_n 1, 1) := zsh_g zdk_291 (r := 64) (k := 0) rfl rfl rfl
theorem zd_291_258 : decode prog_7_method_11_code 258 = .ok (.bipush 31, 2) := zsh_g zdk_291 (r := 64) (k := 1) rfl rfl rfl
theorem zd_291_260 : decode prog_7_method_11_code 260 = .ok (.if_icmp .ne 16, 3) := zsh_g zdk_291 (r := 65) (k := 0) rfl rfl rfl
theorem zd_291_263 : decode prog_7_method_11_code 263 = .ok (.aload_n 0, 1) := zsh_g zdk_291 (r := 65) (k := 1) rfl rfl rfl
theorem zd_291_264 : decode prog_7_method_11_code 264 = .ok (.bipush 31, 2) := zsh_g zdk_291 (r := 66) (k := 0) rfl rfl rfl
theorem zd_291_266 : decode prog_7_method_11_code 266 = .ok (.aload_n 0, 1) := zsh_g zdk_291 (r := 66) (k := 1) rfl rfl rfl
theorem zd_291_267 : decode prog_7_method_11_code 267 = .ok (.getfield 38, 3) := zsh_g zdk_291 (r := 66) (k := 2) rfl rfl rfl
theorem zd_291_270 : decode prog_7_method_11_code 270 = .ok (.bipush 8, 2) := zsh_g zdk_291 (r := 67) (k := 0) rfl rfl rfl
theorem zd_291_272 : decode prog_7_method_11_code 272 = .ok (.iadd, 1) := zsh_g zdk_291 (r := 68) (k := 0) rfl rfl rfl
theorem zd_291_273 : decode prog_7_method_11_code 273 = .ok (.invokevirtual 122, 3) := zsh_g zdk_291 (r := 68) (k := 1) rfl rfl rfl
theorem zd_291_276 : decode prog_7_method_11_code 276 = .ok (.aload_n 0, 1) := zsh_g zdk_291 (r := 69) (k := 0) rfl rfl rfl
theorem zd_291_277 : decode prog_7_method_11_code 277 = .ok (.aload_n 0, 1) := zsh_g zdk_291 (r := 69) (k := 1) rfl rfl rfl
theorem zd_291_278 : decode prog_7_method_11_code 278 = .ok (.getfield 38, 3) := zsh_g zdk_291 (r := 69) (k := 2) rfl rfl rfl
theorem zd_291_281 : decode prog_7_method_11_code 281 = .ok (.iconst 4, 1) := zsh_g zdk_291 (r := 70) (k := 0) rfl rfl rfl
theorem zd_291_282 : decode prog_7_method_11_code 282 = .ok (.iadd, 1) := zsh_g zdk_291 (r := 70) (k := 1) rfl rfl rfl
theorem zd_291_283 : decode prog_7_method_11_code 283 = .ok (.ldc 144, 2) := zsh_g zdk_291 (r := 70) (k := 2) rfl rfl rfl
theorem zd_291_285 : decode prog_7_method_11_code 285 = .ok (.iand, 1) := zsh_g zdk_291 (r := 71) (k := 0) rfl rfl rfl
theorem zd_291_286 : decode prog_7_method_11_code 286 = .ok (.iload_n 2, 1) := zsh_g zdk_291 (r := 71) (k := 1) rfl rfl rfl
theorem zd_291_287 : decode prog_7_method_11_code 287 = .ok (.ldc 145, 2) := zsh_g zdk_291 (r := 71) (k := 2) rfl rfl rfl
theorem zd_291_289 : decode prog_7_method_11_code 289 = .ok (.iand, 1) := zsh_g zdk_291 (r := 72) (k := 0) rfl rfl rfl
theorem zd_291_290 : decode prog_7_method_11_code 290 = .ok (.iconst 2, 1) := zsh_g zdk_291 (r := 72) (k := 1) rfl rfl rfl
theorem zd_291_291 : decode prog_7_method_11_code 291 = .ok (.ishl, 1) := zsh_g zdk_291 (r := 72) (k := 2) rfl rfl rfl
theorem zd_291_292 : decode prog_7_method_11_code 292 = .ok (.ior, 1) := zsh_g zdk_291 (r := 73) (k := 0) rfl rfl rfl
theorem zd_291_293 : decode prog_7_method_11_code 293 = .ok (.putfield 109, 3) := zsh_g zdk_291 (r := 73) (k := 1) rfl rfl rfl
theorem zd_291_296 : decode prog_7_method_11_code 296 = .ok (.iconst 1, 1) := zsh_g zdk_291 (r := 74) (k := 0) rfl rfl rfl
theorem zd_291_298 : decode prog_7_method_11_code 298 = .ok (.aload_n 0, 1) := zsh_g zdk_291 (r := 74) (k := 1) rfl rfl rfl
theorem zd_291_299 : decode prog_7_method_11_code 299 = .ok (.iload_n 1, 1) := zsh_g zdk_291 (r := 74) (k := 2) rfl rfl rfl
theorem zd_291_300 : decode prog_7_method_11_code 300 = .ok (.iload_n 3, 1) := zsh_g zdk_291 (r := 75) (k := 0) rfl rfl rfl
theorem zd_291_301 : decode prog_7_method_11_code 301 = .ok (.iload 4, 2) := zsh_g zdk_291 (r := 75) (k := 1) rfl rfl rfl
theorem zd_291_303 : decode prog_7_method_11_code 303 = .ok (.iload_n 2, 1) := zsh_g zdk_291 (r := 75) (k := 2) rfl rfl rfl
theorem zd_291_304 : decode prog_7_method_11_code 304 = .ok (.i2s, 1) := zsh_g zdk_291 (r := 76) (k := 0) rfl rfl rfl
theorem zd_291_305 : decode prog_7_method_11_code 305 = .ok (.invokevirtual 146, 3) := zsh_g zdk_291 (r := 76) (k := 1) rfl rfl rfl
theorem zd_291_308 : decode prog_7_method_11_code 308 = .ok (.iconst 1, 1) := zsh_g zdk_291 (r := 77) (k := 0) rfl rfl rfl
theorem zd_291_32 : decode prog_7_method_11_code 32 = .ok (.tableswitch 266 0 14 #[76, 96, 76, 122, 132, 162, 170, 175, 189, 189, 189, 208, 266, 266, 225], 76) := by decide +kernel
def zdl_292 : List (List (Nat × Instr × Nat)) := [[(0, (.iload_n 1), 1), (1, (.ifCond .ge 12), 3)], [], [], [(1, (.aload_n 0), 1), (2, (.iload_n 1), 1), (3, (.invokevirtual 100), 3)], [(2, (.aload_n 0), 1), (3, (.getfield 79), 3)], [(2, (.iload_n 1), 1), (3, (.if_icmp .ge 40), 3)], [(2, (.aload_n 0), 1), (3, (.invokevirtual 83), 3)], [(2, (.ifCond .eq 18), 3)], [(1, (.aload_n 0), 1), (2, (.getfield 15), 3)], [(1, (.aload_n 0), 1), (2, (.getfield 79), 3)], [(1, (.iload_n 1), 1), (2, (.invokestatic 133), 3)], [(1, (.goto 31), 3)], [(0, (.aload_n 0), 1), (1, (.getfield 15), 3)], [(0, (.aload_n 0), 1), (1, (.getfield 79), 3)], [(0, (.iload_n 1), 1), (1, (.invokestatic 137), 3)], [(0, (.goto 16), 3), (3, (.aload_n 0), 1)], [(0, (.getfield 79), 3), (3, (.iload_n 1), 1)], [(0, (.if_icmp .le 8), 3), (3, (.aload_n 0), 1)], [(0, (.iconst 1), 1), (1, (.putfield 73), 3)], [(0, (.aload_n 0), 1), (1, (.iload_n 1), 1), (2, (.putfield 79), 3)]]
theorem zdk_292 : zsh_all 8 zdl_292 prog_15_method_13_code.data.toList = true := by decide +kernel
theorem zd_292_0 : decode prog_15_method_13_code 0 = .ok (.iload_n 1, 1) := zsh_g zdk_292 (r := 0) (k := 0) rfl rfl rfl
theorem zd_292_1 : decode prog_15_method_13_code 1 = .ok (.ifCond .ge 12, 3) := zsh_g zdk_292 (r := 0) (k := 1) rfl rfl rfl
theorem zd_292_13 : decode prog_15_method_13_code 13 = .ok (.aload_n 0, 1) := zsh_g zdk_292 (r := 3) (k := 0) rfl rfl rfl
theorem zd_292_14 : decode prog_15_method_13_code 14 = .ok (.iload_n 1, 1) := zsh_g zdk_292 (r := 3) (k := 1) rfl rfl rfl
theorem zd_292_15 : decode prog_15_method_13_code 15 = .ok (.invokevirtual 100, 3) := zsh_g zdk_292 (r := 3) (k := 2) rfl rfl rfl
theorem zd_292_18 : decode prog_15_method_13_code 18 = .ok (.aload_n 0, 1) := zsh_g zdk_292 (r := 4) (k := 0) rfl rfl rfl
theorem zd_292_19 : decode prog_15_method_13_code 19 = .ok (.getfield 79, 3) := zsh_g zdk_292 (r := 4) (k := 1) rfl rfl rfl
theorem zd_292_22 : decode prog_15_method_13_code 22 = .ok (.iload_n 1, 1) := zsh_g zdk_292 (r := 5) (k := 0) rfl rfl rfl
theorem zd_292_23 : decode prog_15_method_13_code 23 = .ok (.if_icmp .ge 40, 3) := zsh_g zdk_292 (r := 5) (k := 1) rfl rfl rfl
theorem zd_292_26 : decode prog_15_method_13_code 26 = .ok (.aload_n 0, 1) := zsh_g zdk_292 (r := 6) (k := 0) rfl rfl rfl
theorem zd_292_27 : decode prog_15_method_13_code 27 = .ok (.invokevirtual 83, 3) := zsh_g zdk_292 (r := 6) (k := 1) rfl rfl rfl
theorem zd_292_30 : decode prog_15_method_13_code 30 = .ok (.ifCond .eq 18, 3) := zsh_g zdk_292 (r := 7) (k := 0) rfl rfl rfl
theorem zd_292_33 : decode prog_15_method_13_code 33 = .ok (.aload_n 0, 1) := zsh_g zdk_292 (r := 8) (k := 0) rfl rfl rfl
theorem zd_292_34 : decode prog_15_method_13_code 34 = .ok (.getfield 15, 3) := zsh_g zdk_292 (r := 8) (k := 1) rfl rfl rfl
theorem zd_292_37 : decode prog_15_method_13_code 37 = .ok (.aload_n 0, 1) := zsh_g zdk_292 (r := 9) (k := 0) rfl rfl rfl
theorem zd_292_38 : decode prog_15_method_13_code 38 = .ok (.getfield 79, 3) := zsh_g zdk_292 (r := 9) (k := 1) rfl rfl rfl
theorem zd_292_41 : decode prog_15_method_13_code 41 = .ok (.iload_n 1, 1) := zsh_g zdk_292 (r := 10) (k := 0) rfl rfl rfl
theorem zd_292_42 : decode prog_15_method_13_code 42 = .ok (.invokestatic 133, 3) := zsh_g zdk_292 (r := 10) (k := 1) rfl rfl rfl
theorem zd_292_45 : decode prog_15_method_13_code 45 = .ok (.goto 31, 3) := zsh_g zdk_292 (r := 11) (k := 0) rfl rfl rfl
theorem zd_292_48 : decode prog_15_method_13_code 48 = .ok (.aload_n 0, 1) := zsh_g zdk_292 (r := 12) (k := 0) rfl rfl rfl
theorem zd_292_49 : decode prog_15_method_13_code 49 = .ok (.getfield 15, 3) := zsh_g zdk_292 (r := 12) (k := 1) rfl rfl rfl
theorem zd_292_52 : decode prog_15_method_13_code 52 = .ok (.aload_n 0, 1) := zsh_g zdk_292 (r := 13) (k := 0) rfl rfl rfl
theorem zd_292_53 : decode prog_15_method_13_code 53 = .ok (.getfield 79, 3) := zsh_g zdk_292 (r := 13) (k := 1) rfl rfl rfl
theorem zd_292_56 : decode prog_15_method_13_code 56 = .ok (.iload_n 1, 1) := zsh_g zdk_292 (r := 14) (k := 0) rfl rfl rfl
theorem zd_292_57 : decode prog_15_method_13_code 57 = .ok (.invokestatic 137, 3) := zsh_g zdk_292 (r := 14) (k := 1) rfl rfl rfl
theorem zd_292_60 : decode prog_15_method_13_code 60 = .ok (.goto 16, 3) := zsh_g zdk_292 (r := 15) (k := 0) rfl rfl rfl
theorem zd_292_63 : decode prog_15_method_13_code 63 = .ok (.aload_n 0, 1) := zsh_g zdk_292 (r := 15) (k := 1) rfl rfl rfl
theorem zd_292_64 : decode prog_15_method_13_code 64 = .ok (.getfield 79, 3) := zsh_g zdk_292 (r := 16) (k := 0) rfl rfl rfl
theorem zd_292_67 : decode prog_15_method_13_code 67 = .ok (.iload_n 1, 1) := zsh_g zdk_292 (r := 16) (k := 1) rfl rfl rfl
theorem zd_292_68 : decode prog_15_method_13_code 68 = .ok (.if_icmp .le 8, 3) := zsh_g zdk_292 (r := 17) (k := 0) rfl rfl rfl
theorem zd_292_71 : decode prog_15_method_13_code 71 = .ok (.aload_n 0, 1) := zsh_g zdk_292 (r := 17) (k := 1) rfl rfl rfl
theorem zd_292_72 : decode prog_15_method_13_code 72 = .ok (.iconst 1, 1) := zsh_g zdk_292 (r := 18) (k := 0) rfl rfl rfl
theorem zd_292_73 : decode prog_15_method_13_code 73 = .ok (.putfield 73, 3) := zsh_g zdk_292 (r := 18) (k := 1) rfl rfl rfl
theorem zd_292_76 : decode prog_15_method_13_code 76 = .ok (.aload_n 0, 1) := zsh_g zdk_292 (r := 19) (k := 0) rfl rfl rfl
theorem zd_292_77 : decode prog_15_method_13_code 77 = .ok (.iload_n 1, 1) := zsh_g zdk_292 (r := 19) (k := 1) rfl rfl rfl
theorem zd_292_78 : decode prog_15_method_13_code 78 = .ok (.putfield 79, 3) := zsh_g zdk_292 (r := 19) (k := 2) rfl rfl rfl
def zdl_293 : List (List (Nat × Instr × Nat)) := [[(0, (.aload_n 1), 1), (1, (.ifnonnull 8), 3)], [(0, (.aload_n 0), 1), (1, (.invokevirtual 204), 3)], [(1, (.aload_n 1), 1), (2, (.invokevirtual 32), 3)], [(1, (.istore_n 2), 1), (2, (.aload_n 0), 1), (3, (.aload_n 0), 1)], [(0, (.getfield 79), 3), (3, (.iload_n 2), 1)], [(0, .iadd, 1), (1, (.invokevirtual 100), 3)], [(0, (.aload_n 0), 1), (1, (.aload_n 0), 1), (2, (.getfield 79), 3)], [(1, (.aload_n 1), 1), (2, (.invokevirtual 208), 3)], [(1, (.aload_n 0), 1), (2, .dup, 1), (3, (.getfield 79), 3)], [(2, (.iload_n 2), 1), (3, .iadd, 1)], [(0, (.putfield 79), 3), (3, (.aload_n 0), 1)]]
theorem zdk_293 : zsh_all 8 zdl_293 prog_15_method_22_code.data.toList = true := by decide +kernel
theorem zd_293_0 : decode prog_15_method_22_code 0 = .ok (.aload_n 1, 1) := zsh_g zdk_293 (r := 0) (k := 0) rfl rfl rfl
theorem zd_293_1 : decode prog_15_method_22_code 1 = .ok (.ifnonnull 8, 3) := zsh_g zdk_293 (r := 0) (k := 1) rfl rfl rfl
theorem zd_293_4 : decode prog_15_method_22_code 4 = .ok (.aload_n 0, 1) := zsh_g zdk_293 (r := 1) (k := 0) rfl rfl rfl
theorem zd_293_5 : decode prog_15_method_22_code 5 = .ok (.invokevirtual 204, 3) := zsh_g zdk_293 (r := 1) (k := 1) rfl rfl rfl
theorem zd_293_9 : decode prog_15_method_22_code 9 = .ok (.aload_n 1, 1) := zsh_g zdk_293 (r := 2) (k := 0) rfl rfl rfl
theorem zd_293_10 : decode prog_15_method_22_code 10 = .ok (.invokevirtual 32, 3) := zsh_g zdk_293 (r := 2) (k := 1) rfl rfl rfl
theorem zd_293_13 : decode prog_15_method_22_code 13 = .ok (.istore_n 2, 1) := zsh_g zdk_293 (r := 3) (k := 0) rfl rfl rfl
theorem zd_293_14 : decode prog_15_method_22_code 14 = .ok (.aload_n 0, 1) := zsh_g zdk_293 (r := 3) (k := 1) rfl rfl rfl
theorem zd_293_15 : decode prog_15_method_22_code 15 = .ok (.aload_n 0, 1) := zsh_g zdk_293 (r := 3) (k := 2) rfl rfl rfl
theorem zd_293_16 : decode prog_15_method_22_code 16 = .ok (.getfield 79, 3) := zsh_g zdk_293 (r := 4) (k := 0) rfl rfl rfl
theorem zd_293_19 : decode prog_15_method_22_code 19 = .ok (.iload_n 2, 1) := zsh_g zdk_293 (r := 4) (k := 1) rfl rfl rfl
theorem zd_293_20 : decode prog_15_method_22_code 20 = .ok (.iadd, 1) := zsh_g zdk_293 (r := 5) (k := 0) rfl rfl rfl
theorem zd_293_21 : decode prog_15_method_22_code 21 = .ok (.invokevirtual 100, 3) := zsh_g zdk_293 (r := 5) (k := 1) rfl rfl rfl
theorem zd_293_24 : decode prog_15_method_22_code 24 = .ok (.aload_n 0, 1) := zsh_g zdk_293 (r := 6) (k := 0) rfl rfl rfl
theorem zd_293_25 : decode prog_15_method_22_code 25 = .ok (.aload_n 0, 1) := zsh_g zdk_293 (r := 6) (k := 1) rfl rfl rfl
theorem zd_293_26 : decode prog_15_method_22_code 26 = .ok (.getfield 79, 3) := zsh_g zdk_293 (r := 6) (k := 2) rfl rfl rfl
theorem zd_293_29 : decode prog_15_method_22_code 29 = .ok (.aload_n 1, 1) := zsh_g zdk_293 (r := 7) (k := 0) rfl rfl rfl
theorem zd_293_30 : decode prog_15_method_22_code 30 = .ok (.invokevirtual 208, 3) := zsh_g zdk_293 (r := 7) (k := 1) rfl rfl rfl
theorem zd_293_33 : decode prog_15_method_22_code 33 = .ok (.aload_n 0, 1) := zsh_g zdk_293 (r := 8) (k := 0) rfl rfl rfl
theorem zd_293_34 : decode prog_15_method_22_code 34 = .ok (.dup, 1) := zsh_g zdk_293 (r := 8) (k := 1) rfl rfl rfl
theorem zd_293_35 : decode prog_15_method_22_code 35 = .ok (.getfield 79, 3) := zsh_g zdk_293 (r := 8) (k := 2) rfl rfl rfl
theorem zd_293_38 : decode prog_15_method_22_code 38 = .ok (.iload_n 2, 1) := zsh_g zdk_293 (r := 9) (k := 0) rfl rfl rfl
theorem zd_293_39 : decode prog_15_method_22_code 39 = .ok (.iadd, 1) := zsh_g zdk_293 (r := 9) (k := 1) rfl rfl rfl
theorem zd_293_40 : decode prog_15_method_22_code 40 = .ok (.putfield 79, 3) := zsh_g zdk_293 (r := 10) (k := 0) rfl rfl rfl
theorem zd_293_43 : decode prog_15_method_22_code 43 = .ok (.aload_n 0, 1) := zsh_g zdk_293 (r := 10) (k := 1) rfl rfl rfl
def zdl_294 : List (List (Nat × Instr × Nat)) := [[(0, (.aload_n 0), 1), (1, (.getfield 79), 3)], [(0, (.istore_n 2), 1), (1, (.iload_n 2), 1), (2, (.iload_n 1), 1), (3, (.invokestatic 245), 3)], [(2, .iadd, 1), (3, (.istore_n 3), 1)], [(0, (.aload_n 0), 1), (1, (.iload_n 3), 1), (2, (.invokevirtual 100), 3)], [(1, (.aload_n 0), 1), (2, (.invokevirtual 83), 3)], [(1, (.ifCond .eq 16), 3)], [(0, (.iload_n 1), 1), (1, (.iload_n 3), 1), (2, (.aload_n 0), 1), (3, (.getfield 15), 3)], [(2, (.invokestatic 248), 3)], [(1, .pop, 1), (2, (.goto 14), 3)], [(1, (.iload_n 1), 1), (2, (.iload_n 2), 1), (3, (.iload_n 3), 1)], [(0, (.aload_n 0), 1), (1, (.getfield 15), 3)], [(0, (.invokestatic 251), 3), (3, .pop, 1)], [(0, (.aload_n 0), 1), (1, (.iload_n 3), 1), (2, (.putfield 79), 3)], [(1, (.aload_n 0), 1)]]
theorem zdk_294 : zsh_all 8 zdl_294 prog_15_method_32_code.data.toList = true := by decide +kernel
theorem zd_294_0 : decode prog_15_method_32_code 0 = .ok (.aload_n 0, 1) := zsh_g zdk_294 (r := 0) (k := 0) rfl rfl rfl
theorem zd_294_1 : decode prog_15_method_32_code 1 = .ok (.getfield 79, 3) := zsh_g zdk_294 (r := 0) (k := 1) rfl rfl rfl
theorem zd_294_4 : decode prog_15_method_32_code 4 = .ok (.istore_n 2, 1) := zsh_g zdk_294 (r := 1) (k := 0) rfl rfl rfl
theorem zd_294_5 : decode prog_15_method_32_code 5 = .ok (.iload_n 2, 1) := zsh_g zdk_294 (r := 1) (k := 1) rfl rfl rfl
theorem zd_294_6 : decode prog_15_method_32_code 6 = .ok (.iload_n 1, 1) := zsh_g zdk_294 (r := 1) (k := 2) rfl rfl rfl
theorem zd_294_7 : decode prog_15_method_32_code 7 = .ok (.invokestatic 245, 3) := zsh_g zdk_294 (r := 1) (k := 3) rfl rfl rfl
theorem zd_294_10 : decode prog_15_method_32_code 10 = .ok (.iadd, 1) := zsh_g zdk_294 (r := 2) (k := 0) rfl rfl rfl
theorem zd_294_11 : decode prog_15_method_32_code 11 = .ok (.istore_n 3, 1) := zsh_g zdk_294 (r := 2) (k := 1) rfl rfl rfl
theorem zd_294_12 : decode prog_15_method_32_code 12 = .ok (.aload_n 0, 1) := zsh_g zdk_294 (r := 3) (k := 0) rfl rfl rfl
theorem zd_294_13 : decode prog_15_method_32_code 13 = .ok (.iload_n 3, 1) := zsh_g zdk_294 (r := 3) (k := 1) rfl rfl rfl
theorem zd_294_14 : decode prog_15_method_32_code 14 = .ok (.invokevirtual 100, 3) := zsh_g zdk_294 (r := 3) (k := 2) rfl rfl rfl
theorem zd_294_17 : decode prog_15_method_32_code 17 = .ok (.aload_n 0, 1) := zsh_g zdk_294 (r := 4) (k := 0) rfl rfl rfl
theorem zd_294_18 : decode prog_15_method_32_code 18 = .ok (.invokevirtual 83, 3) := zsh_g zdk_294 (r := 4) (k := 1) rfl rfl rfl
theorem zd_294_21 : decode prog_15_method_32_code 21 = .ok (.ifCond .eq 16, 3) := zsh_g zdk_294 (r := 5) (k := 0) rfl rfl rfl
theorem zd_294_24 : decode prog_15_method_32_code 24 = .ok (.iload_n 1, 1) := zsh_g zdk_294 (r := 6) (k := 0) rfl rfl rfl
theorem zd_294_25 : decode prog_15_method_32_code 25 = .ok (.iload_n 3, 1) := zsh_g zdk_294 (r := 6) (k := 1) rfl rfl rfl
theorem zd_294_26 : decode prog_15_method_32_code 26 = .ok (.aload_n 0, 1) := zsh_g zdk_294 (r := 6) (k := 2) rfl rfl rfl
theorem zd_294_27 : decode prog_15_method_32_code 27 = .ok (.getfield 15, 3) := zsh_g zdk_294 (r := 6) (k := 3) rfl rfl rfl
theorem zd_294_30 : decode prog_15_method_32_code 30 = .ok (.invokestatic 248, 3) := zsh_g zdk_294 (r := 7) (k := 0) rfl rfl rfl
theorem zd_294_33 : decode prog_15_method_32_code 33 = .ok (.pop, 1) := zsh_g zdk_294 (r := 8) (k := 0) rfl rfl rfl
theorem zd_294_34 : decode prog_15_method_32_code 34 = .ok (.goto 14, 3) := zsh_g zdk_294 (r := 8) (k := 1) rfl rfl rfl
theorem zd_294_37 : decode prog_15_method_32_code 37 = .ok (.iload_n 1, 1) := zsh_g zdk_294 (r := 9) (k := 0) rfl rfl rfl
theorem zd_294_38 : decode prog_15_method_32_code 38 = .ok (.iload_n 2, 1) := zsh_g zdk_294 (r := 9) (k := 1) rfl rfl rfl
theorem zd_294_39 : decode prog_15_method_32_code 39 = .ok (.iload_n 3, 1) := zsh_g zdk_294 (r := 9) (k := 2) rfl rfl rfl
theorem zd_294_40 : decode prog_15_method_32_code 40 = .ok (.aload_n 0, 1) := zsh_g zdk_294 (r := 10) (k := 0) rfl rfl rfl
theorem zd_294_41 : decode prog_15_method_32_code 41 = .ok (.getfield 15, 3) := zsh_g zdk_294 (r := 10) (k := 1) rfl rfl rfl
theorem zd_294_44 : decode prog_15_method_32_code 44 = .ok (.invokestatic 251, 3) := zsh_g zdk_294 (r := 11) (k := 0) rfl rfl rfl
theorem zd_294_47 : decode prog_15_method_32_code 47 = .ok (.pop, 1) := zsh_g zdk_294 (r := 11) (k := 1) rfl rfl rfl
theorem zd_294_48 : decode prog_15_method_32_code 48 = .ok (.aload_n 0, 1) := zsh_g zdk_294 (r := 12) (k := 0) rfl rfl rfl
theorem zd_294_49 : decode prog_15_method_32_code 49 = .ok (.iload_n 3, 1) := zsh_g zdk_294 (r := 12) (k := 1) rfl rfl rfl
theorem zd_294_50 : decode prog_15_method_32_code 50 = .ok (.putfield 79, 3) := zsh_g zdk_294 (r := 12) (k := 2) rfl rfl rfl
theorem zd_294_53 : decode prog_15_method_32_code 53 = .ok (.aload_n 0, 1) := zsh_g zdk_294 (r := 13) (k := 0) rfl rfl rfl
def zdl_295 : List (List (Nat × Instr × Nat)) := [[(0, (.aload_n 0), 1), (1, (.iload_n 1), 1), (2, (.iload_n 2), 1), (3, (.iload_n 3), 1)], [(0, (.invokevirtual 86), 3), (3, (.aload_n 0), 1)], [(0, (.bipush 44), 2), (2, (.iload_n 1), 1), (3, (.iload 4), 2)], [(1, (.invokevirtual 94), 3)]]
theorem zdk_295 : zsh_all 8 zdl_295 prog_3_method_10_code.data.toList = true := by decide +kernel
theorem zd_295_0 : decode prog_3_method_10_code 0 = .ok (.aload_n 0, 1) := zsh_g zdk_295 (r := 0) (k := 0) rfl rfl rfl
theorem zd_295_1 : decode prog_3_method_10_code 1 = .ok (.iload_n 1, 1) := zsh_g zdk_295 (r := 0) (k := 1) rfl rfl rfl
theorem zd_295_2 : decode prog_3_method_10_code 2 = .ok (.iload_n 2, 1) := zsh_g zdk_295 (r := 0) (k := 2) rfl rfl rfl
theorem zd_295_3 : decode prog_3_method_10_code 3 = .ok (.iload_n 3, 1) := zsh_g zdk_295 (r := 0) (k := 3) rfl rfl rfl
theorem zd_295_4 : decode prog_3_method_10_code 4 = .ok (.invokevirtual 86, 3) := zsh_g zdk_295 (r := 1) (k := 0) rfl rfl rfl
theorem zd_295_7 : decode prog_3_method_10_code 7 = .ok (.aload_n 0, 1) := zsh_g zdk_295 (r := 1) (k := 1) rfl rfl rfl
theorem zd_295_8 : decode prog_3_method_10_code 8 = .ok (.bipush 44, 2) := zsh_g zdk_295 (r := 2) (k := 0) rfl rfl rfl
theorem zd_295_10 : decode prog_3_method_10_code 10 = .ok (.iload_n 1, 1) := zsh_g zdk_295 (r := 2) (k := 1) rfl rfl rfl
theorem zd_295_11 : decode prog_3_method_10_code 11 = .ok (.iload 4, 2) := zsh_g zdk_295 (r := 2) (k := 2) rfl rfl rfl
theorem zd_295_13 : decode prog_3_method_10_code 13 = .ok (.invokevirtual 94, 3) := zsh_g zdk_295 (r := 3) (k := 0) rfl rfl rfl
def zdl_296 : List (List (Nat × Instr × Nat)) := [[(0, (.aload_n 0), 1), (1, (.bipush 32), 2), (3, (.iload_n 1), 1)], [(0, (.iload_n 2), 1), (1, (.invokevirtual 94), 3)], [(0, (.aload_n 0), 1), (1, (.bipush 44), 2), (3, (.iload_n 1), 1)], [(0, (.iload_n 3), 1), (1, (.invokevirtual 94), 3)]]
theorem zdk_296 : zsh_all 8 zdl_296 prog_3_method_11_code.data.toList = true := by decide +kernel
theorem zd_296_0 : decode prog_3_method_11_code 0 = .ok (.aload_n 0, 1) := zsh_g zdk_296 (r := 0) (k := 0) rfl rfl rfl
theorem zd_296_1 : decode prog_3_method_11_code 1 = .ok (.bipush 32, 2) := zsh_g zdk_296 (r := 0) (k := 1) rfl rfl rfl
theorem zd_296_3 : decode prog_3_method_11_code 3 = .ok (.iload_n 1, 1) := zsh_g zdk_296 (r := 0) (k := 2) rfl rfl rfl
theorem zd_296_4 : decode prog_3_method_11_code 4 = .ok (.iload_n 2, 1) := zsh_g zdk_296 (r := 1) (k := 0) rfl rfl rfl
theorem zd_296_5 : decode prog_3_method_11_code 5 = .ok (.invokevirtual 94, 3) := zsh_g zdk_296 (r := 1) (k := 1) rfl rfl rfl
theorem zd_296_8 : decode prog_3_method_11_code 8 = .ok (.aload_n 0, 1) := zsh_g zdk_296 (r := 2) (k := 0) rfl rfl rfl
theorem zd_296_9 : decode prog_3_method_11_code 9 = .ok (.bipush 44, 2) := zsh_g zdk_296 (r := 2) (k := 1) rfl rfl rfl
theorem zd_296_11 : decode prog_3_method_11_code 11 = .ok (.iload_n 1, 1) := zsh_g zdk_296 (r := 2) (k := 2) rfl rfl rfl
theorem zd_296_12 : decode prog_3_method_11_code 12 = .ok (.iload_n 3, 1) := zsh_g zdk_296 (r := 3) (k := 0) rfl rfl rfl
theorem zd_296_13 : decode prog_3_method_11_code 13 = .ok (.invokevirtual 94, 3) := zsh_g zdk_296 (r := 3) (k := 1) rfl rfl rfl
def zdl_297 : List (List (Nat × Instr × Nat)) := [[(0, (.aload_n 0), 1), (1, (.getfield 24), 3)], [(0, (.iload_n 1), 1), (1, (.invokevirtual 71), 3)], [(0, .pop, 1), (1, (.aload_n 0), 1), (2, (.getfield 24), 3)], [(1, (.iload_n 2), 1), (2, (.invokevirtual 61), 3)], [(1, .pop, 1)]]
theorem zdk_297 : zsh_all 8 zdl_297 prog_3_method_13_code.data.toList = true := by decide +kernel
theorem zd_297_0 : decode prog_3_method_13_code 0 = .ok (.aload_n 0, 1) := zsh_g zdk_297 (r := 0) (k := 0) rfl rfl rfl
theorem zd_297_1 : decode prog_3_method_13_code 1 = .ok (.getfield 24, 3) := zsh_g zdk_297 (r := 0) (k := 1) rfl rfl rfl
theorem zd_297_4 : decode prog_3_method_13_code 4 = .ok (.iload_n 1, 1) := zsh_g zdk_297 (r := 1) (k := 0) rfl rfl rfl
theorem zd_297_5 : decode prog_3_method_13_code 5 = .ok (.invokevirtual 71, 3) := zsh_g zdk_297 (r := 1) (k := 1) rfl rfl rfl
theorem zd_297_8 : decode prog_3_method_13_code 8 = .ok (.pop, 1) := zsh_g zdk_297 (r := 2) (k := 0) rfl rfl rfl
theorem zd_297_9 : decode prog_3_method_13_code 9 = .ok (.aload_n 0, 1) := zsh_g zdk_297 (r := 2) (k := 1) rfl rfl rfl
theorem zd_297_10 : decode prog_3_method_13_code 10 = .ok (.getfield 24, 3) := zsh_g zdk_297 (r := 2) (k := 2) rfl rfl rfl
theorem zd_297_13 : decode prog_3_method_13_code 13 = .ok (.iload_n 2, 1) := zsh_g zdk_297 (r := 3) (k := 0) rfl rfl rfl
theorem zd_297_14 : decode prog_3_method_13_code 14 = .ok (.invokevirtual 61, 3) := zsh_g zdk_297 (r := 3) (k := 1) rfl rfl rfl
theorem zd_297_17 : decode prog_3_method_13_code 17 = .ok (.pop, 1) := zsh_g zdk_297 (r := 4) (k := 0) rfl rfl rfl
def zdl_298 : List (List (Nat × Instr × Nat)) := [[(0, (.aload_n 0), 1), (1, (.getfield 24), 3)], [(0, (.iload_n 1), 1), (1, (.invokevirtual 71), 3)], [(0, .pop, 1), (1, (.aload_n 0), 1), (2, (.bipush 93), 2)], [(0, (.iload_n 2), 1), (1, (.iload_n 3), 1), (2, .iushr, 1), (3, (.bipush 31), 2)], [(1, .iand, 1), (2, .iadd, 1), (3, (.invokevirtual 64), 3)]]
theorem zdk_298 : zsh_all 8 zdl_298 prog_3_method_12_code.data.toList = true := by decide +kernel
theorem zd_298_0 : decode prog_3_method_12_code 0 = .ok (.aload_n 0, 1) := zsh_g zdk_298 (r := 0) (k := 0) rfl rfl rfl
theorem zd_298_1 : decode prog_3_method_12_code 1 = .ok (.getfield 24, 3) := zsh_g zdk_298 (r := 0) (k := 1) rfl rfl rfl
theorem zd_298_4 : decode prog_3_method_12_code 4 = .ok (.iload_n 1, 1) := zsh_g zdk_298 (r := 1) (k := 0) rfl rfl rfl
theorem zd_298_5 : decode prog_3_method_12_code 5 = .ok (.invokevirtual 71, 3) := zsh_g zdk_298 (r := 1) (k := 1) rfl rfl rfl
theorem zd_298_8 : decode prog_3_method_12_code 8 = .ok (.pop, 1) := zsh_g zdk_298 (r := 2) (k := 0) rfl rfl rfl
theorem zd_298_9 : decode prog_3_method_12_code 9 = .ok (.aload_n 0, 1) := zsh_g zdk_298 (r := 2) (k := 1) rfl rfl rfl
theorem zd_298_10 : decode prog_3_method_12_code 10 = .ok (.bipush 93, 2) := zsh_g zdk_298 (r := 2) (k := 2) rfl rfl rfl
theorem zd_298_12 : decode prog_3_method_12_code 12 = .ok (.iload_n 2, 1) := zsh_g zdk_298 (r := 3) (k := 0) rfl rfl rfl
theorem zd_298_13 : decode prog_3_method_12_code 13 = .ok (.iload_n 3, 1) := zsh_g zdk_298 (r := 3) (k := 1) rfl rfl rfl
theorem zd_298_14 : decode prog_3_method_12_code 14 = .ok (.iushr, 1) := zsh_g zdk_298 (r := 3) (k := 2) rfl rfl rfl
theorem zd_298_15 : decode prog_3_method_12_code 15 = .ok (.bipush 31, 2) := zsh_g zdk_298 (r := 3) (k := 3) rfl rfl rfl
theorem zd_298_17 : decode prog_3_method_12_code 17 = .ok (.iand, 1) := zsh_g zdk_298 (r := 4) (k := 0) rfl rfl rfl
theorem zd_298_18 : decode prog_3_method_12_code 18 = .ok (.iadd, 1) := zsh_g zdk_298 (r := 4) (k := 1) rfl rfl rfl
theorem zd_298_19 : decode prog_3_method_12_code 19 = .ok (.invokevirtual 64, 3) := zsh_g zdk_298 (r := 4) (k := 2) rfl rfl rfl
def zdl_299 : List (List (Nat × Instr × Nat)) := [[(0, (.aload_n 0), 1), (1, (.aload_n 0), 1), (2, (.getfield 79), 3)], [(1, (.iconst 1), 1), (2, .iadd, 1), (3, (.invokevirtual 100), 3)], [(2, (.aload_n 0), 1), (3, (.invokevirtual 83), 3)], [(2, (.ifCond .eq 31), 3)], [(1, (.iload_n 1), 1), (2, (.invokestatic 191), 3)], [(1, (.ifCond .eq 24), 3)], [(0, (.aload_n 0), 1), (1, (.getfield 15), 3)], [(0, (.aload_n 0), 1), (1, .dup, 1), (2, (.getfield 79), 3)], [(1, .dup_x1, 1), (2, (.iconst 1), 1), (3, .iadd, 1)], [(0, (.putfield 79), 3), (3, (.iload_n 1), 1)], [(0, .i2b, 1), (1, .bastore, 1), (2, (.goto 33), 3)], [(1, (.aload_n 0), 1), (2, (.invokevirtual 83), 3)], [(1, (.ifCond .eq 7), 3)], [(0, (.aload_n 0), 1), (1, (.invokevirtual 195), 3)], [(0, (.aload_n 0), 1), (1, (.getfield 15), 3)], [(0, (.aload_n 0), 1), (1, .dup, 1), (2, (.getfield 79), 3)], [(1, .dup_x1, 1), (2, (.iconst 1), 1), (3, .iadd, 1)], [(0, (.putfield 79), 3), (3, (.iload_n 1), 1)], [(0, (.invokestatic 197), 3), (3, (.aload_n 0), 1)]]
theorem zdk_299 : zsh_all 8 zdl_299 prog_15_method_31_code.data.toList = true := by decide +kernel
theorem zd_299_0 : decode prog_15_method_31_code 0 = .ok (.aload_n 0, 1) := zsh_g zdk_299 (r := 0) (k := 0) rfl rfl rfl
theorem zd_299_1 : decode prog_15_method_31_code 1 = .ok (.aload_n 0, 1) := zsh_g zdk_299 (r := 0) (k := 1) rfl rfl rfl
theorem zd_299_2 : decode prog_15_method_31_code 2 = .ok (.getfield 79, 3) := zsh_g zdk_299 (r := 0) (k := 2) rfl rfl rfl
theorem zd_299_5 : decode prog_15_method_31_code 5 = .ok (.iconst 1, 1) := zsh_g zdk_299 (r := 1) (k := 0) rfl rfl rfl
theorem zd_299_6 : decode prog_15_method_31_code 6 = .ok (.iadd, 1) := zsh_g zdk_299 (r := 1) (k := 1) rfl rfl rfl
theorem zd_299_7 : decode prog_15_method_31_code 7 = .ok (.invokevirtual 100, 3) := zsh_g zdk_299 (r := 1) (k := 2) rfl rfl rfl
theorem zd_299_10 : decode prog_15_method_31_code 10 = .ok (.aload_n 0, 1) := zsh_g zdk_299 (r := 2) (k := 0) rfl rfl rfl
theorem zd_299_11 : decode prog_15_method_31_code 11 = .ok (.invokevirtual 83, 3) := zsh_g zdk_299 (r := 2) (k := 1) rfl rfl rfl
theorem zd_299_14 : decode prog_15_method_31_code 14 = .ok (.ifCond .eq 31, 3) := zsh_g zdk_299 (r := 3) (k := 0) rfl rfl rfl
theorem zd_299_17 : decode prog_15_method_31_code 17 = .ok (.iload_n 1, 1) := zsh_g zdk_299 (r := 4) (k := 0) rfl rfl rfl
theorem zd_299_18 : decode prog_15_method_31_code 18 = .ok (.invokestatic 191, 3) := zsh_g zdk_299 (r := 4) (k := 1) rfl rfl rfl
theorem zd_299_21 : decode prog_15_method_31_code 21 = .ok (.ifCond .eq 24, 3) := zsh_g zdk_299 (r := 5) (k := 0) rfl rfl rfl
theorem zd_299_24 : decode prog_15_method_31_code 24 = .ok (.aload_n 0, 1) := zsh_g zdk_299 (r := 6) (k := 0) rfl rfl rfl
theorem zd_299_25 : decode prog_15_method_31_code 25 = .ok (.getfield 15, 3) := zsh_g zdk_299 (r := 6) (k := 1) rfl rfl rfl
theorem zd_299_28 : decode prog_15_method_31_code 28 = .ok (.aload_n 0, 1) := zsh_g zdk_299 (r := 7) (k := 0) rfl rfl rfl
theorem zd_299_29 : decode prog_15_method_31_code 29 = .ok (.dup, 1) := zsh_g zdk_299 (r := 7) (k := 1) rfl rfl rfl
theorem zd_299_30 : decode prog_15_method_31_code 30 = .ok (.getfield 79, 3) := zsh_g zdk_299 (r := 7) (k := 2) rfl rfl rfl
theorem zd_299_33 : decode prog_15_method_31_code 33 = .ok (.dup_x1, 1) := zsh_g zdk_299 (r := 8) (k := 0) rfl rfl rfl
theorem zd_299_34 : decode prog_15_method_31_code 34 = .ok (.iconst 1, 1) := zsh_g zdk_299 (r := 8) (k := 1) rfl rfl rfl
theorem zd_299_35 : decode prog_15_method_31_code 35 = .ok (.iadd, 1) := zsh_g zdk_299 (r := 8) (k := 2) rfl rfl rfl
theorem zd_299_36 : decode prog_15_method_31_code 36 = .ok (.putfield 79, 3) := zsh_g zdk_299 (r := 9) (k := 0) rfl rfl rfl
theorem zd_299_39 : decode prog_15_method_31_code 39 = .ok (.iload_n 1, 1) := zsh_g zdk_299 (r := 9) (k := 1) rfl rfl rfl
theorem zd_299_40 : decode prog_15_method_31_code 40 = .ok (.i2b, 1) := zsh_g zdk_299 (r := 10) (k := 0) rfl rfl rfl
theorem zd_299_41 : decode prog_15_method_31_code 41 = .ok (.bastore, 1) := zsh_g zdk_299 (r := 10) (k := 1) rfl rfl rfl
theorem zd_299_42 : decode prog_15_method_31_code 42 = .ok (.goto 33, 3) := zsh_g zdk_299 (r := 10) (k := 2) rfl rfl rfl
theorem zd_299_45 : decode prog_15_method_31_code 45 = .ok (.aload_n 0, 1) := zsh_g zdk_299 (r := 11) (k := 0) rfl rfl rfl
theorem zd_299_46 : decode prog_15_method_31_code 46 = .ok (.invokevirtual 83, 3) := zsh_g zdk_299 (r := 11) (k := 1) rfl rfl rfl
theorem zd_299_49 : decode prog_15_method_31_code 49 = .ok (.ifCond .eq 7, 3) := zsh_g zdk_299 (r := 12) (k := 0) rfl rfl rfl
theorem zd_299_52 : decode prog_15_method_31_code 52 = .ok (.aload_n 0, 1) := zsh_g zdk_299 (r := 13) (k := 0) rfl rfl rfl
theorem zd_299_53 : decode prog_15_method_31_code 53 = .ok (.invokevirtual 195, 3) := zsh_g zdk_299 (r := 13) (k := 1) rfl rfl rfl
theorem zd_299_56 : decode prog_15_method_31_code 56 = .ok (.aload_n 0, 1) := zsh_g zdk_299 (r := 14) (k := 0) rfl rfl rfl
theorem zd_299_57 : decode prog_15_method_31_code 57 = .ok (.getfield 15, 3) := zsh_g zdk_299 (r := 14) (k := 1) rfl rfl rfl
theorem zd_299_60 : decode prog_15_method_31_code 60 = .ok (.aload_n 0, 1) := zsh_g zdk_299 (r := 15) (k := 0) rfl rfl rfl
theorem zd_299_61 : decode prog_15_method_31_code 61 = .ok (.dup, 1) := zsh_g zdk_299 (r := 15) (k := 1) rfl rfl rfl
theorem zd_299_62 : decode prog_15_method_31_code 62 = .ok (.getfield 79, 3) := zsh_g zdk_299 (r := 15) (k := 2) rfl rfl rfl
theorem zd_299_65 : decode prog_15_method_31_code 65 = .ok (.dup_x1, 1) := zsh_g zdk_299 (r := 16) (k := 0) rfl rfl rfl
theorem zd_299_66 : decode prog_15_method_31_code 66 = .ok (.iconst 1, 1) := zsh_g zdk_299 (r := 16) (k := 1) rfl rfl rfl
theorem zd_299_67 : decode prog_15_method_31_code 67 = .ok (.iadd, 1) := zsh_g zdk_299 (r := 16) (k := 2) rfl rfl rfl
theorem zd_299_68 : decode prog_15_method_31_code 68 = .ok (.putfield 79, 3) := zsh_g zdk_299 (r := 17) (k := 0) rfl rfl rfl
theorem zd_299_71 : decode prog_15_method_31_code 71 = .ok (.iload_n 1, 1) := zsh_g zdk_299 (r := 17) (k := 1) rfl rfl rfl
theorem zd_299_72 : decode prog_15_method_31_code 72 = .ok (.invokestatic 197, 3) := zsh_g zdk_299 (r := 18) (k := 0) rfl rfl rfl
theorem zd_299_75 : decode prog_15_method_31_code 75 = .ok (.aload_n 0, 1) := zsh_g zdk_299 (r := 18) (k := 1) rfl rfl rfl
def zdl_300 : List (List (Nat × Instr × Nat)) := [[(0, (.aload_n 0), 1), (1, (.getfield 79), 3)]]
theorem zdk_300 : zsh_all 8 zdl_300 prog_15_method_6_code.data.toList = true := by decide +kernel
theorem zd_300_0 : decode prog_15_method_6_code 0 = .ok (.aload_n 0, 1) := zsh_g zdk_300 (r := 0) (k := 0) rfl rfl rfl
theorem zd_300_1 : decode prog_15_method_6_code 1 = .ok (.getfield 79, 3) := zsh_g zdk_300 (r := 0) (k := 1) rfl rfl rfl
def zdl_301 : List (List (Nat × Instr × Nat)) := [[(0, (.aload_n 0), 1), (1, (.getfield 22), 3)], [(0, (.istore_n 2), 1), (1, (.aload_n 0), 1), (2, (.getfield 15), 3)], [(1, (.astore_n 3), 1), (2, (.aload_n 0), 1), (3, (.getfield 79), 3)], [(2, (.aload_n 3), 1), (3, .arraylength, 1)], [(0, (.iload_n 2), 1), (1, .ishr, 1), (2, (.invokestatic 138), 3)], [(1, (.istore 4), 2), (3, (.iload_n 1), 1)], [(0, (.iload 4), 2), (2, (.invokestatic 144), 3)], [(1, (.iload_n 2), 1), (2, (.ifCond .ne 12), 3)], [(1, (.aload_n 3), 1), (2, (.iload_n 1), 1), (3, .baload, 1)], [(0, (.sipush 255), 3), (3, .iand, 1)], [(0, .i2c, 1), (2, (.aload_n 3), 1), (3, (.iload_n 1), 1)], [(0, (.invokestatic 148), 3)]]
theorem zdk_301 : zsh_all 8 zdl_301 prog_15_method_14_code.data.toList = true := by decide +kernel
theorem zd_301_0 : decode prog_15_method_14_code 0 = .ok (.aload_n 0, 1) := zsh_g zdk_301 (r := 0) (k := 0) rfl rfl rfl
theorem zd_301_1 : decode prog_15_method_14_code 1 = .ok (.getfield 22, 3) := zsh_g zdk_301 (r := 0) (k := 1) rfl rfl rfl
theorem zd_301_4 : decode prog_15_method_14_code 4 = .ok (.istore_n 2, 1) := zsh_g zdk_301 (r := 1) (k := 0) rfl rfl rfl
theorem zd_301_5 : decode prog_15_method_14_code 5 = .ok (.aload_n 0, 1) := zsh_g zdk_301 (r := 1) (k := 1) rfl rfl rfl
theorem zd_301_6 : decode prog_15_method_14_code 6 = .ok (.getfield 15, 3) := zsh_g zdk_301 (r := 1) (k := 2) rfl rfl rfl
theorem zd_301_9 : decode prog_15_method_14_code 9 = .ok (.astore_n 3, 1) := zsh_g zdk_301 (r := 2) (k := 0) rfl rfl rfl
theorem zd_301_10 : decode prog_15_method_14_code 10 = .ok (.aload_n 0, 1) := zsh_g zdk_301 (r := 2) (k := 1) rfl rfl rfl
theorem zd_301_11 : decode prog_15_method_14_code 11 = .ok (.getfield 79, 3) := zsh_g zdk_301 (r := 2) (k := 2) rfl rfl rfl
theorem zd_301_14 : decode prog_15_method_14_code 14 = .ok (.aload_n 3, 1) := zsh_g zdk_301 (r := 3) (k := 0) rfl rfl rfl
theorem zd_301_15 : decode prog_15_method_14_code 15 = .ok (.arraylength, 1) := zsh_g zdk_301 (r := 3) (k := 1) rfl rfl rfl
theorem zd_301_16 : decode prog_15_method_14_code 16 = .ok (.iload_n 2, 1) := zsh_g zdk_301 (r := 4) (k := 0) rfl rfl rfl
theorem zd_301_17 : decode prog_15_method_14_code 17 = .ok (.ishr, 1) := zsh_g zdk_301 (r := 4) (k := 1) rfl rfl rfl
theorem zd_301_18 : decode prog_15_method_14_code 18 = .ok (.invokestatic 138, 3) := zsh_g zdk_301 (r := 4) (k := 2) rfl rfl rfl
theorem zd_301_21 : decode prog_15_method_14_code 21 = .ok (.istore 4, 2) := zsh_g zdk_301 (r := 5) (k := 0) rfl rfl rfl
theorem zd_301_23 : decode prog_15_method_14_code 23 = .ok (.iload_n 1, 1) := zsh_g zdk_301 (r := 5) (k := 1) rfl rfl rfl
theorem zd_301_24 : decode prog_15_method_14_code 24 = .ok (.iload 4, 2) := zsh_g zdk_301 (r := 6) (k := 0) rfl rfl rfl
theorem zd_301_26 : decode prog_15_method_14_code 26 = .ok (.invokestatic 144, 3) := zsh_g zdk_301 (r := 6) (k := 1) rfl rfl rfl
theorem zd_301_29 : decode prog_15_method_14_code 29 = .ok (.iload_n 2, 1) := zsh_g zdk_301 (r := 7) (k := 0) rfl rfl rfl
theorem zd_301_30 : decode prog_15_method_14_code 30 = .ok (.ifCond .ne 12, 3) := zsh_g zdk_301 (r := 7) (k := 1) rfl rfl rfl
theorem zd_301_33 : decode prog_15_method_14_code 33 = .ok (.aload_n 3, 1) := zsh_g zdk_301 (r := 8) (k := 0) rfl rfl rfl
theorem zd_301_34 : decode prog_15_method_14_code 34 = .ok (.iload_n 1, 1) := zsh_g zdk_301 (r := 8) (k := 1) rfl rfl rfl
theorem zd_301_35 : decode prog_15_method_14_code 35 = .ok (.baload, 1) := zsh_g zdk_301 (r := 8) (k := 2) rfl rfl rfl
theorem zd_301_36 : decode prog_15_method_14_code 36 = .ok (.sipush 255, 3) := zsh_g zdk_301 (r := 9) (k := 0) rfl rfl rfl
theorem zd_301_39 : decode prog_15_method_14_code 39 = .ok (.iand, 1) := zsh_g zdk_301 (r := 9) (k := 1) rfl rfl rfl
theorem zd_301_40 : decode prog_15_method_14_code 40 = .ok (.i2c, 1) := zsh_g zdk_301 (r := 10) (k := 0) rfl rfl rfl
theorem zd_301_42 : decode prog_15_method_14_code 42 = .ok (.aload_n 3, 1) := zsh_g zdk_301 (r := 10) (k := 1) rfl rfl rfl
theorem zd_301_43 : decode prog_15_method_14_code 43 = .ok (.iload_n 1, 1) := zsh_g zdk_301 (r := 10) (k := 2) rfl rfl rfl
theorem zd_301_44 : decode prog_15_method_14_code 44 = .ok (.invokestatic 148, 3) := zsh_g zdk_301 (r := 11) (k := 0) rfl rfl rfl
def zdl_302 : List (List (Nat × Instr × Nat)) := [[(0, (.iload_n 1), 1), (1, (.iload_n 2), 1), (2, (.if_icmp .le 44), 3)], [], [], [], [], [], [], [], [], [], [], [(2, (.iload_n 1), 1), (3, (.ifCond .ge 12), 3)], [], [], [(3, (.iload_n 2), 1)], [(0, (.iload_n 0), 1), (1, (.if_icmp .le 12), 3)]]
theorem zdk_302 : zsh_all 8 zdl_302 prog_34_method_30_code.data.toList = true := by decide +kernel
theorem zd_302_0 : decode prog_34_method_30_code 0 = .ok (.iload_n 1, 1) := zsh_g zdk_302 (r := 0) (k := 0) rfl rfl rfl
theorem zd_302_1 : decode prog_34_method_30_code 1 = .ok (.iload_n 2, 1) := zsh_g zdk_302 (r := 0) (k := 1) rfl rfl rfl
theorem zd_302_2 : decode prog_34_method_30_code 2 = .ok (.if_icmp .le 44, 3) := zsh_g zdk_302 (r := 0) (k := 2) rfl rfl rfl
theorem zd_302_46 : decode prog_34_method_30_code 46 = .ok (.iload_n 1, 1) := zsh_g zdk_302 (r := 11) (k := 0) rfl rfl rfl
theorem zd_302_47 : decode prog_34_method_30_code 47 = .ok (.ifCond .ge 12, 3) := zsh_g zdk_302 (r := 11) (k := 1) rfl rfl rfl
theorem zd_302_59 : decode prog_34_method_30_code 59 = .ok (.iload_n 2, 1) := zsh_g zdk_302 (r := 14) (k := 0) rfl rfl rfl
theorem zd_302_60 : decode prog_34_method_30_code 60 = .ok (.iload_n 0, 1) := zsh_g zdk_302 (r := 15) (k := 0) rfl rfl rfl
theorem zd_302_61 : decode prog_34_method_30_code 61 = .ok (.if_icmp .le 12, 3) := zsh_g zdk_302 (r := 15) (k := 1) rfl rfl rfl
def zdl_303 : List (List (Nat × Instr × Nat)) := [[(0, (.iload_n 0), 1), (1, (.iload_n 1), 1), (2, (.if_icmp .gt 7), 3)], [(1, (.iload_n 0), 1), (2, (.goto 4), 3)], [(1, (.iload_n 1), 1)]]
theorem zdk_303 : zsh_all 8 zdl_303 prog_24_method_69_code.data.toList = true := by decide +kernel
theorem zd_303_0 : decode prog_24_method_69_code 0 = .ok (.iload_n 0, 1) := zsh_g zdk_303 (r := 0) (k := 0) rfl rfl rfl
theorem zd_303_1 : decode prog_24_method_69_code 1 = .ok (.iload_n 1, 1) := zsh_g zdk_303 (r := 0) (k := 1) rfl rfl rfl
theorem zd_303_2 : decode prog_24_method_69_code 2 = .ok (.if_icmp .gt 7, 3) := zsh_g zdk_303 (r := 0) (k := 2) rfl rfl rfl
theorem zd_303_5 : decode prog_24_method_69_code 5 = .ok (.iload_n 0, 1) := zsh_g zdk_303 (r := 1) (k := 0) rfl rfl rfl
theorem zd_303_6 : decode prog_24_method_69_code 6 = .ok (.goto 4, 3) := zsh_g zdk_303 (r := 1) (k := 1) rfl rfl rfl
theorem zd_303_9 : decode prog_24_method_69_code 9 = .ok (.iload_n 1, 1) := zsh_g zdk_303 (r := 2) (k := 0) rfl rfl rfl
def zdl_304 : List (List (Nat × Instr × Nat)) := [[(0, (.iload_n 0), 1), (1, (.iload_n 1), 1), (2, (.if_icmp .lt 7), 3)], [(1, (.iload_n 0), 1), (2, (.goto 4), 3)], [(1, (.iload_n 1), 1)]]
theorem zdk_304 : zsh_all 8 zdl_304 prog_24_method_65_code.data.toList = true := by decide +kernel
theorem zd_304_0 : decode prog_24_method_65_code 0 = .ok (.iload_n 0, 1) := zsh_g zdk_304 (r := 0) (k := 0) rfl rfl rfl
theorem zd_304_1 : decode prog_24_method_65_code 1 = .ok (.iload_n 1, 1) := zsh_g zdk_304 (r := 0) (k := 1) rfl rfl rfl
theorem zd_304_2 : decode prog_24_method_65_code 2 = .ok (.if_icmp .lt 7, 3) := zsh_g zdk_304 (r := 0) (k := 2) rfl rfl rfl
theorem zd_304_5 : decode prog_24_method_65_code 5 = .ok (.iload_n 0, 1) := zsh_g zdk_304 (r := 1) (k := 0) rfl rfl rfl
theorem zd_304_6 : decode prog_24_method_65_code 6 = .ok (.goto 4, 3) := zsh_g zdk_304 (r := 1) (k := 1) rfl rfl rfl
theorem zd_304_9 : decode prog_24_method_65_code 9 = .ok (.iload_n 1, 1) := zsh_g zdk_304 (r := 2) (k := 0) rfl rfl rfl
def zdl_305 : List (List (Nat × Instr × Nat)) := [[(0, (.iload_n 1), 1)], [], [], [], [], [], [], [], [], [], [], [], [], [], [], [], [], [(0, (.iload_n 2), 1), (1, (.iload_n 3), 1), (2, .iadd, 1)], [(0, (.iload_n 2), 1), (1, (.iload_n 3), 1), (2, .isub, 1)], [(0, (.iload_n 2), 1), (1, (.iload_n 3), 1), (2, .ior, 1)], [(0, (.iload_n 2), 1), (1, (.iload_n 3), 1), (2, .ixor, 1)], [(0, (.iload_n 2), 1), (1, (.iload_n 3), 1), (2, .imul, 1)], [(0, (.iload_n 3), 1), (1, (.ifCond .ne 11), 3)], [(0, (.aload_n 0), 1), (1, (.iconst 2), 1), (2, (.iconst 1), 1), (3, (.invokevirtual 156), 3)], [(2, (.iconst 0), 1)], [(0, (.iload_n 1), 1), (1, (.bipush 20), 2), (3, (.if_icmp .ne 9), 3)], [(2, (.iload_n 2), 1), (3, (.iload_n 3), 1)], [(0, .idiv, 1), (1, (.goto 6), 3)], [(0, (.iload_n 2), 1), (1, (.iload_n 3), 1), (2, .irem, 1)], [(0, (.iload_n 2), 1), (1, (.iload_n 3), 1), (2, .iand, 1)], [(0, (.iload_n 2), 1), (1, (.iload_n 3), 1), (2, (.bipush 31), 2)], [(0, .iand, 1), (1, .ishl, 1), (3, (.iload_n 2), 1)], [(0, (.iload_n 3), 1), (1, (.bipush 31), 2), (3, .iand, 1)], [(0, .ishr, 1), (2, (.iload_n 2), 1), (3, (.iload_n 3), 1)], [(0, (.if_icmp .ne 7), 3), (3, (.iconst 1), 1)], [(0, (.goto 4), 3), (3, (.iconst 0), 1)], [(1, (.iload_n 2), 1), (2, (.iload_n 3), 1), (3, (.if_icmp .eq 7), 3)], [(2, (.iconst 1), 1), (3, (.goto 4), 3)], [(2, (.iconst 0), 1)], [(0, (.iload_n 2), 1), (1, (.iload_n 3), 1), (2, (.if_icmp .ge 7), 3)], [(1, (.iconst 1), 1), (2, (.goto 4), 3)], [(1, (.iconst 0), 1), (3, (.iload_n 2), 1)], [(0, (.iload_n 3), 1), (1, (.if_icmp .gt 7), 3)], [(0, (.iconst 1), 1), (1, (.goto 4), 3)], [(0, (.iconst 0), 1)]]
theorem zdk_305 : zsh_all 8 zdl_305 prog_8_method_17_code.data.toList = true := by decide +kernel
theorem zd_305_0 : decode prog_8_method_17_code 0 = .ok (.iload_n 1, 1) := zsh_g zdk_305 (r := 0) (k := 0) rfl rfl rfl
theorem zd_305_68 : decode prog_8_method_17_code 68 = .ok (.iload_n 2, 1) := zsh_g zdk_305 (r := 17) (k := 0) rfl rfl rfl
theorem zd_305_69 : decode prog_8_method_17_code 69 = .ok (.iload_n 3, 1) := zsh_g zdk_305 (r := 17) (k := 1) rfl rfl rfl
theorem zd_305_70 : decode prog_8_method_17_code 70 = .ok (.iadd, 1) := zsh_g zdk_305 (r := 17) (k := 2) rfl rfl rfl
theorem zd_305_72 : decode prog_8_method_17_code 72 = .ok (.iload_n 2, 1) := zsh_g zdk_305 (r := 18) (k := 0) rfl rfl rfl
theorem zd_305_73 : decode prog_8_method_17_code 73 = .ok (.iload_n 3, 1) := zsh_g zdk_305 (r := 18) (k := 1) rfl rfl rfl
theorem zd_305_74 : decode prog_8_method_17_code 74 = .ok (.isub, 1) := zsh_g zdk_305 (r := 18) (k := 2) rfl rfl rfl
theorem zd_305_76 : decode prog_8_method_17_code 76 = .ok (.iload_n 2, 1) := zsh_g zdk_305 (r := 19) (k := 0) rfl rfl rfl
theorem zd_305_77 : decode prog_8_method_17_code 77 = .ok (.iload_n 3, 1) := zsh_g zdk_305 (r := 19) (k := 1) rfl rfl rfl
theorem zd_305_78 : decode prog_8_method_17_code 78 = .ok (.ior, 1) := zsh_g zdk_305 (r := 19) (k := 2) rfl rfl rfl
theorem zd_305_80 : decode prog_8_method_17_code 80 = .ok (.iload_n 2, 1) := zsh_g zdk_305 (r := 20) (k := 0) rfl rfl rfl
theorem zd_305_81 : decode prog_8_method_17_code 81 = .ok (.iload_n 3, 1) := zsh_g zdk_305 (r := 20) (k := 1) rfl rfl rfl
theorem zd_305_82 : decode prog_8_method_17_code 82 = .ok (.ixor, 1) := zsh_g zdk_305 (r := 20) (k := 2) rfl rfl rfl
theorem zd_305_84 : decode prog_8_method_17_code 84 = .ok (.iload_n 2, 1) := zsh_g zdk_305 (r := 21) (k := 0) rfl rfl rfl
theorem zd_305_85 : decode prog_8_method_17_code 85 = .ok (.iload_n 3, 1) := zsh_g zdk_305 (r := 21) (k := 1) rfl rfl rfl
theorem zd_305_86 : decode prog_8_method_17_code 86 = .ok (.imul, 1) := zsh_g zdk_305 (r := 21) (k := 2) rfl rfl rfl
theorem zd_305_88 : decode prog_8_method_17_code 88 = .ok (.iload_n 3, 1) := zsh_g zdk_305 (r := 22) (k := 0) rfl rfl rfl
theorem zd_305_89 : decode prog_8_method_17_code 89 = .ok (.ifCond .ne 11, 3) := zsh_g zdk_305 (r := 22) (k := 1) rfl rfl rfl
theorem zd_305_92 : decode prog_8_method_17_code 92 = .ok (.aload_n 0, 1) := zsh_g zdk_305 (r := 23) (k := 0) rfl rfl rfl
theorem zd_305_93 : decode prog_8_method_17_code 93 = .ok (.iconst 2, 1) := zsh_g zdk_305 (r := 23) (k := 1) rfl rfl rfl
theorem zd_305_94 : decode prog_8_method_17_code 94 = .ok (.iconst 1, 1) := zsh_g zdk_305 (r := 23) (k := 2) rfl rfl rfl
theorem zd_305_95 : decode prog_8_method_17_code 95 = .ok (.invokevirtual 156, 3) := zsh_g zdk_305 (r := 23) (k := 3) rfl rfl rfl
theorem zd_305_98 : decode prog_8_method_17_code 98 = .ok (.iconst 0, 1) := zsh_g zdk_305 (r := 24) (k := 0) rfl rfl rfl
theorem zd_305_100 : decode prog_8_method_17_code 100 = .ok (.iload_n 1, 1) := zsh_g zdk_305 (r := 25) (k := 0) rfl rfl rfl
theorem zd_305_101 : decode prog_8_method_17_code 101 = .ok (.bipush 20, 2) := zsh_g zdk_305 (r := 25) (k := 1) rfl rfl rfl
theorem zd_305_103 : decode prog_8_method_17_code 103 = .ok (.if_icmp .ne 9, 3) := zsh_g zdk_305 (r := 25) (k := 2) rfl rfl rfl
theorem zd_305_106 : decode prog_8_method_17_code 106 = .ok (.iload_n 2, 1) := zsh_g zdk_305 (r := 26) (k := 0) rfl rfl rfl
theorem zd_305_107 : decode prog_8_method_17_code 107 = .ok (.iload_n 3, 1) := zsh_g zdk_305 (r := 26) (k := 1) rfl rfl rfl
theorem zd_305_108 : decode prog_8_method_17_code 108 = .ok (.idiv, 1) := zsh_g zdk_305 (r := 27) (k := 0) rfl rfl rfl
theorem zd_305_109 : decode prog_8_method_17_code 109 = .ok (.goto 6, 3) := zsh_g zdk_305 (r := 27) (k := 1) rfl rfl rfl
theorem zd_305_112 : decode prog_8_method_17_code 112 = .ok (.iload_n 2, 1) := zsh_g zdk_305 (r := 28) (k := 0) rfl rfl rfl
theorem zd_305_113 : decode prog_8_method_17_code 113 = .ok (.iload_n 3, 1) := zsh_g zdk_305 (r := 28) (k := 1) rfl rfl rfl
theorem zd_305_114 : decode prog_8_method_17_code 114 = .ok (.irem, 1) := zsh_g zdk_305 (r := 28) (k := 2) rfl rfl rfl
theorem zd_305_116 : decode prog_8_method_17_code 116 = .ok (.iload_n 2, 1) := zsh_g zdk_305 (r := 29) (k := 0) rfl rfl rfl
theorem zd_305_117 : decode prog_8_method_17_code 117 = .ok (.iload_n 3, 1) := zsh_g zdk_305 (r := 29) (k := 1) rfl rfl rfl
theorem zd_305_118 : decode prog_8_method_17_code 118 = .ok (.iand, 1) := zsh_g zdk_305 (r := 29) (k := 2) rfl rfl rfl
theorem zd_305_120 : decode prog_8_method_17_code 120 = .ok (.iload_n 2, 1) := zsh_g zdk_305 (r := 30) (k := 0) rfl rfl rfl
theorem zd_305_121 : decode prog_8_method_17_code 121 = .ok (.iload_n 3, 1) := zsh_g zdk_305 (r := 30) (k := 1) rfl rfl rfl
theorem zd_305_122 : decode prog_8_method_17_code 122 = .ok (.bipush 31, 2) := zsh_g zdk_305 (r := 30) (k := 2) rfl rfl rfl
theorem zd_305_124 : decode prog_8_method_17_code 124 = .ok (.iand, 1) := zsh_g zdk_305 (r := 31) (k := 0) rfl rfl rfl
theorem zd_305_125 : decode prog_8_method_17_code 125 = .ok (.ishl, 1) := zsh_g zdk_305 (r := 31) (k := 1) rfl rfl rfl
theorem zd_305_127 : decode prog_8_method_17_code 127 = .ok (.iload_n 2, 1) := zsh_g zdk_305 (r := 31) (k := 2) rfl rfl rfl
theorem zd_305_128 : decode prog_8_method_17_code 128 = .ok (.iload_n 3, 1) := zsh_g zdk_305 (r := 32) (k := 0) rfl rfl rfl
theorem zd_305_129 : decode prog_8_method_17_code 129 = .ok (.bipush 31, 2) := zsh_g zdk_305 (r := 32) (k := 1) rfl rfl rfl
theorem zd_305_131 : decode prog_8_method_17_code 131 = .ok (.iand, 1) := zsh_g zdk_305 (r := 32) (k := 2) rfl rfl rfl
theorem zd_305_132 : decode prog_8_method_17_code 132 = .ok (.ishr, 1) := zsh_g zdk_305 (r := 33) (k := 0) rfl rfl rfl
theorem zd_305_134 : decode prog_8_method_17_code 134 = .ok (.iload_n 2, 1) := zsh_g zdk_305 (r := 33) (k := 1) rfl rfl rfl
theorem zd_305_135 : decode prog_8_method_17_code 135 = .ok (.iload_n 3, 1) := zsh_g zdk_305 (r := 33) (k := 2) rfl rfl rfl
theorem zd_305_136 : decode prog_8_method_17_code 136 = .ok (.if_icmp .ne 7, 3) := zsh_g zdk_305 (r := 34) (k := 0) rfl rfl rfl
theorem zd_305_139 : decode prog_8_method_17_code 139 = .ok (.iconst 1, 1) := zsh_g zdk_305 (r := 34) (k := 1) rfl rfl rfl
theorem zd_305_140 : decode prog_8_method_17_code 140 = .ok (.goto 4, 3) := zsh_g zdk_305 (r := 35) (k := 0) rfl rfl rfl
theorem zd_305_143 : decode prog_8_method_17_code 143 = .ok (.iconst 0, 1) := zsh_g zdk_305 (r := 35) (k := 1) rfl rfl rfl
theorem zd_305_145 : decode prog_8_method_17_code 145 = .ok (.iload_n 2, 1) := zsh_g zdk_305 (r := 36) (k := 0) rfl rfl rfl
theorem zd_305_146 : decode prog_8_method_17_code 146 = .ok (.iload_n 3, 1) := zsh_g zdk_305 (r := 36) (k := 1) rfl rfl rfl
theorem zd_305_147 : decode prog_8_method_17_code 147 = .ok (.if_icmp .eq 7, 3) := zsh_g zdk_305 (r := 36) (k := 2) rfl rfl rfl
theorem zd_305_150 : decode prog_8_method_17_code 150 = .ok (.iconst 1, 1) := zsh_g zdk_305 (r := 37) (k := 0) rfl rfl rfl
theorem zd_305_151 : decode prog_8_method_17_code 151 = .ok (.goto 4, 3) := zsh_g zdk_305 (r := 37) (k := 1) rfl rfl rfl
theorem zd_305_154 : decode prog_8_method_17_code 154 = .ok (.iconst 0, 1) := zsh_g zdk_305 (r := 38) (k := 0) rfl rfl rfl
theorem zd_305_156 : decode prog_8_method_17_code 156 = .ok (.iload_n 2, 1) := zsh_g zdk_305 (r := 39) (k := 0) rfl rfl rfl
theorem zd_305_157 : decode prog_8_method_17_code 157 = .ok (.iload_n 3, 1) := zsh_g zdk_305 (r := 39) (k := 1) rfl rfl rfl
theorem zd_305_158 : decode prog_8_method_17_code 158 = .ok (.if_icmp .ge 7, 3) := zsh_g zdk_305 (r := 39) (k := 2) rfl rfl rfl
theorem zd_305_161 : decode prog_8_method_17_code 161 = .ok (.iconst 1, 1) := zsh_g zdk_305 (r := 40) (k := 0) rfl rfl rfl
theorem zd_305_162 : decode prog_8_method_17_code 162 = .ok (.goto 4, 3) := zsh_g zdk_305 (r := 40) (k := 1) rfl rfl rfl
theorem zd_305_165 : decode prog_8_method_17_code 165 = .ok (.iconst 0, 1) := zsh_g zdk_305 (r := 41) (k := 0) rfl rfl rfl
theorem zd_305_167 : decode prog_8_method_17_code 167 = .ok (.iload_n 2, 1) := zsh_g zdk_305 (r := 41) (k := 1) rfl rfl rfl
theorem zd_305_168 : decode prog_8_method_17_code 168 = .ok (.iload_n 3, 1) := zsh_g zdk_305 (r := 42) (k := 0) rfl rfl rfl
theorem zd_305_169 : decode prog_8_method_17_code 169 = .ok (.if_icmp .gt 7, 3) := zsh_g zdk_305 (r := 42) (k := 1) rfl rfl rfl
theorem zd_305_172 : decode prog_8_method_17_code 172 = .ok (.iconst 1, 1) := zsh_g zdk_305 (r := 43) (k := 0) rfl rfl rfl
theorem zd_305_173 : decode prog_8_method_17_code 173 = .ok (.goto 4, 3) := zsh_g zdk_305 (r := 43) (k := 1) rfl rfl rfl
theorem zd_305_176 : decode prog_8_method_17_code 176 = .ok (.iconst 0, 1) := zsh_g zdk_305 (r := 44) (k := 0) rfl rfl rfl
theorem zd_305_1 : decode prog_8_method_17_code 1 = .ok (.tableswitch 166 15 27 #[67, 71, 75, 79, 83, 87, 87, 115, 119, 126, 133, 144, 155], 67) := by decide +kernel
def zdl_306 : List (List (Nat × Instr × Nat)) := [[(0, (.aload_n 0), 1), (1, .dup, 1), (2, (.getfield 133), 3)], [(1, (.iconst 1), 1), (2, .isub, 1), (3, (.putfield 133), 3)], [(2, (.aload_n 0), 1), (3, (.getfield 133), 3)], [(2, (.ifCond .ne 10), 3)], [(1, (.aload_n 0), 1), (2, (.iconst 1), 1), (3, (.iload_n 1), 1)], [(0, (.invokevirtual 156), 3)], [(0, (.aload_n 0), 1), (1, (.getfield 133), 3)], [(0, (.sipush 415), 3), (3, .imul, 1)], [(0, (.istore_n 2), 1), (1, (.aload_n 0), 1), (2, (.aload_n 0), 1), (3, (.getfield 24), 3)], [(2, (.iload_n 2), 1), (3, (.sipush 412), 3)], [(2, .iadd, 1), (3, .iaload, 1)], [(0, (.putfield 147), 3), (3, (.aload_n 0), 1)], [(0, (.aload_n 0), 1), (1, (.getfield 24), 3)], [(0, (.iload_n 2), 1), (1, (.sipush 413), 3)], [(0, .iadd, 1), (1, .iaload, 1), (2, (.putfield 150), 3)], [(1, (.aload_n 0), 1), (2, (.getfield 24), 3)], [(1, (.iload_n 2), 1), (2, (.sipush 415), 3)], [(1, .isub, 1), (2, (.aload_n 0), 1), (3, (.getfield 24), 3)], [(2, (.iload_n 2), 1), (3, (.sipush 414), 3)], [(2, .iadd, 1), (3, .iaload, 1)], [(0, .iadd, 1), (1, (.iload_n 1), 1), (2, .iastore, 1)]]
theorem zdk_306 : zsh_all 8 zdl_306 prog_8_method_9_code.data.toList = true := by decide +kernel
theorem zd_306_0 : decode prog_8_method_9_code 0 = .ok (.aload_n 0, 1) := zsh_g zdk_306 (r := 0) (k := 0) rfl rfl rfl
theorem zd_306_1 : decode prog_8_method_9_code 1 = .ok (.dup, 1) := zsh_g zdk_306 (r := 0) (k := 1) rfl rfl rfl
theorem zd_306_2 : decode prog_8_method_9_code 2 = .ok (.getfield 133, 3) := zsh_g zdk_306 (r := 0) (k := 2) rfl rfl rfl
theorem zd_306_5 : decode prog_8_method_9_code 5 = .ok (.iconst 1, 1) := zsh_g zdk_306 (r := 1) (k := 0) rfl rfl rfl
theorem zd_306_6 : decode prog_8_method_9_code 6 = .ok (.isub, 1) := zsh_g zdk_306 (r := 1) (k := 1) rfl rfl rfl
theorem zd_306_7 : decode prog_8_method_9_code 7 = .ok (.putfield 133, 3) := zsh_g zdk_306 (r := 1) (k := 2) rfl rfl rfl
theorem zd_306_10 : decode prog_8_method_9_code 10 = .ok (.aload_n 0, 1) := zsh_g zdk_306 (r := 2) (k := 0) rfl rfl rfl
theorem zd_306_11 : decode prog_8_method_9_code 11 = .ok (.getfield 133, 3) := zsh_g zdk_306 (r := 2) (k := 1) rfl rfl rfl
theorem zd_306_14 : decode prog_8_method_9_code 14 = .ok (.ifCond .ne 10, 3) := zsh_g zdk_306 (r := 3) (k := 0) rfl rfl rfl
theorem zd_306_17 : decode prog_8_method_9_code 17 = .ok (.aload_n 0, 1) := zsh_g zdk_306 (r := 4) (k := 0) rfl rfl rfl
theorem zd_306_18 : decode prog_8_method_9_code 18 = .ok (.iconst 1, 1) := zsh_g zdk_306 (r := 4) (k := 1) rfl rfl rfl
theorem zd_306_19 : decode prog_8_method_9_code 19 = .ok (.iload_n 1, 1) := zsh_g zdk_306 (r := 4) (k := 2) rfl rfl rfl
theorem zd_306_20 : decode prog_8_method_9_code 20 = .ok (.invokevirtual 156, 3) := zsh_g zdk_306 (r := 5) (k := 0) rfl rfl rfl
theorem zd_306_24 : decode prog_8_method_9_code 24 = .ok (.aload_n 0, 1) := zsh_g zdk_306 (r := 6) (k := 0) rfl rfl rfl
theorem zd_306_25 : decode prog_8_method_9_code 25 = .ok (.getfield 133, 3) := zsh_g zdk_306 (r := 6) (k := 1) rfl rfl rfl
theorem zd_306_28 : decode prog_8_method_9_code 28 = .ok (.sipush 415, 3) := zsh_g zdk_306 (r := 7) (k := 0) rfl rfl rfl
theorem zd_306_31 : decode prog_8_method_9_code 31 = .ok (.imul, 1) := zsh_g zdk_306 (r := 7) (k := 1) rfl rfl rfl
theorem zd_306_32 : decode prog_8_method_9_code 32 = .ok (.istore_n 2, 1) := zsh_g zdk_306 (r := 8) (k := 0) rfl rfl rfl
theorem zd_306_33 : decode prog_8_method_9_code 33 = .ok (.aload_n 0, 1) := zsh_g zdk_306 (r := 8) (k := 1) rfl rfl rfl
theorem zd_306_34 : decode prog_8_method_9_code 34 = .ok (.aload_n 0, 1) := zsh_g zdk_306 (r := 8) (k := 2) rfl rfl rfl
theorem zd_306_35 : decode prog_8_method_9_code 35 = .ok (.getfield 24, 3) := zsh_g zdk_306 (r := 8) (k := 3) rfl rfl rfl
theorem zd_306_38 : decode prog_8_method_9_code 38 = .ok (.iload_n 2, 1) := zsh_g zdk_306 (r := 9) (k := 0) rfl rfl rfl
theorem zd_306_39 : decode prog_8_method_9_code 39 = .ok (.sipush 412, 3) := zsh_g zdk_306 (r := 9) (k := 1) rfl rfl rfl
theorem zd_306_42 : decode prog_8_method_9_code 42 = .ok (.iadd, 1) := zsh_g zdk_306 (r := 10) (k := 0) rfl rfl rfl
theorem zd_306_43 : decode prog_8_method_9_code 43 = .ok (.iaload, 1) := zsh_g zdk_306 (r := 10) (k := 1) rfl rfl rfl
theorem zd_306_44 : decode prog_8_method_9_code 44 = .ok (.putfield 147, 3) := zsh_g zdk_306 (r := 11) (k := 0) rfl rfl rfl
theorem zd_306_47 : decode prog_8_method_9_code 47 = .ok (.aload_n 0, 1) := zsh_g zdk_306 (r := 11) (k := 1) rfl rfl rfl
theorem zd_306_48 : decode prog_8_method_9_code 48 = .ok (.aload_n 0, 1) := zsh_g zdk_306 (r := 12) (k := 0) rfl rfl rfl
theorem zd_306_49 : decode prog_8_method_9_code 49 = .ok (.getfield 24, 3) := zsh_g zdk_306 (r := 12) (k := 1) rfl rfl rfl
theorem zd_306_52 : decode prog_8_method_9_code 52 = .ok (.iload_n 2, 1) := zsh_g zdk_306 (r := 13) (k := 0) rfl rfl rfl
theorem zd_306_53 : decode prog_8_method_9_code 53 = .ok (.sipush 413, 3) := zsh_g zdk_306 (r := 13) (k := 1) rfl rfl rfl
theorem zd_306_56 : decode prog_8_method_9_code 56 = .ok (.iadd, 1) := zsh_g zdk_306 (r := 14) (k := 0) rfl rfl rfl
theorem zd_306_57 : decode prog_8_method_9_code 57 = .ok (.iaload, 1) := zsh_g zdk_306 (r := 14) (k := 1) rfl rfl rfl
theorem zd_306_58 : decode prog_8_method_9_code 58 = .ok (.putfield 150, 3) := zsh_g zdk_306 (r := 14) (k := 2) rfl rfl rfl
theorem zd_306_61 : decode prog_8_method_9_code 61 = .ok (.aload_n 0, 1) := zsh_g zdk_306 (r := 15) (k := 0) rfl rfl rfl
theorem zd_306_62 : decode prog_8_method_9_code 62 = .ok (.getfield 24, 3) := zsh_g zdk_306 (r := 15) (k := 1) rfl rfl rfl
theorem zd_306_65 : decode prog_8_method_9_code 65 = .ok (.iload_n 2, 1) := zsh_g zdk_306 (r := 16) (k := 0) rfl rfl rfl
theorem zd_306_66 : decode prog_8_method_9_code 66 = .ok (.sipush 415, 3) := zsh_g zdk_306 (r := 16) (k := 1) rfl rfl rfl
theorem zd_306_69 : decode prog_8_method_9_code 69 = .ok (.isub, 1) := zsh_g zdk_306 (r := 17) (k := 0) rfl rfl rfl
theorem zd_306_70 : decode prog_8_method_9_code 70 = .ok (.aload_n 0, 1) := zsh_g zdk_306 (r := 17) (k := 1) rfl rfl rfl
theorem zd_306_71 : decode prog_8_method_9_code 71 = .ok (.getfield 24, 3) := zsh_g zdk_306 (r := 17) (k := 2) rfl rfl rfl
theorem zd_306_74 : decode prog_8_method_9_code 74 = .ok (.iload_n 2, 1) := zsh_g zdk_306 (r := 18) (k := 0) rfl rfl rfl
theorem zd_306_75 : decode prog_8_method_9_code 75 = .ok (.sipush 414, 3) := zsh_g zdk_306 (r := 18) (k := 1) rfl rfl rfl
theorem zd_306_78 : decode prog_8_method_9_code 78 = .ok (.iadd, 1) := zsh_g zdk_306 (r := 19) (k := 0) rfl rfl rfl
theorem zd_306_79 : decode prog_8_method_9_code 79 = .ok (.iaload, 1) := zsh_g zdk_306 (r := 19) (k := 1) rfl rfl rfl
theorem zd_306_80 : decode prog_8_method_9_code 80 = .ok (.iadd, 1) := zsh_g zdk_306 (r := 20) (k := 0) rfl rfl rfl
theorem zd_306_81 : decode prog_8_method_9_code 81 = .ok (.iload_n 1, 1) := zsh_g zdk_306 (r := 20) (k := 1) rfl rfl rfl
theorem zd_306_82 : decode prog_8_method_9_code 82 = .ok (.iastore, 1) := zsh_g zdk_306 (r := 20) (k := 2) rfl rfl rfl
def zdl_307 : List (List (Nat × Instr × Nat)) := [[(0, (.aload_n 0), 1), (1, (.getfield 121), 3)], [(0, (.aload_n 0), 1), (1, (.getfield 106), 3)], [(0, (.if_icmp .lt 12), 3), (3, (.aload_n 0), 1)], [(0, (.iconst 0), 1), (1, (.iconst 0), 1), (2, (.invokevirtual 156), 3)], [(1, (.goto 13), 3)], [(0, (.aload_n 0), 1), (1, .dup, 1), (2, (.getfield 121), 3)], [(1, (.iconst 1), 1), (2, .iadd, 1), (3, (.putfield 121), 3)]]
theorem zdk_307 : zsh_all 8 zdl_307 prog_8_method_11_code.data.toList = true := by decide +kernel
theorem zd_307_0 : decode prog_8_method_11_code 0 = .ok (.aload_n 0, 1) := zsh_g zdk_307 (r := 0) (k := 0) rfl rfl rfl
theorem zd_307_1 : decode prog_8_method_11_code 1 = .ok (.getfield 121, 3) := zsh_g zdk_307 (r := 0) (k := 1) rfl rfl rfl
theorem zd_307_4 : decode prog_8_method_11_code 4 = .ok (.aload_n 0, 1) := zsh_g zdk_307 (r := 1) (k := 0) rfl rfl rfl
theorem zd_307_5 : decode prog_8_method_11_code 5 = .ok (.getfield 106, 3) := zsh_g zdk_307 (r := 1) (k := 1) rfl rfl rfl
theorem zd_307_8 : decode prog_8_method_11_code 8 = .ok (.if_icmp .lt 12, 3) := zsh_g zdk_307 (r := 2) (k := 0) rfl rfl rfl
theorem zd_307_11 : decode prog_8_method_11_code 11 = .ok (.aload_n 0, 1) := zsh_g zdk_307 (r := 2) (k := 1) rfl rfl rfl
theorem zd_307_12 : decode prog_8_method_11_code 12 = .ok (.iconst 0, 1) := zsh_g zdk_307 (r := 3) (k := 0) rfl rfl rfl
theorem zd_307_13 : decode prog_8_method_11_code 13 = .ok (.iconst 0, 1) := zsh_g zdk_307 (r := 3) (k := 1) rfl rfl rfl
theorem zd_307_14 : decode prog_8_method_11_code 14 = .ok (.invokevirtual 156, 3) := zsh_g zdk_307 (r := 3) (k := 2) rfl rfl rfl
theorem zd_307_17 : decode prog_8_method_11_code 17 = .ok (.goto 13, 3) := zsh_g zdk_307 (r := 4) (k := 0) rfl rfl rfl
theorem zd_307_20 : decode prog_8_method_11_code 20 = .ok (.aload_n 0, 1) := zsh_g zdk_307 (r := 5) (k := 0) rfl rfl rfl
theorem zd_307_21 : decode prog_8_method_11_code 21 = .ok (.dup, 1) := zsh_g zdk_307 (r := 5) (k := 1) rfl rfl rfl
theorem zd_307_22 : decode prog_8_method_11_code 22 = .ok (.getfield 121, 3) := zsh_g zdk_307 (r := 5) (k := 2) rfl rfl rfl
theorem zd_307_25 : decode prog_8_method_11_code 25 = .ok (.iconst 1, 1) := zsh_g zdk_307 (r := 6) (k := 0) rfl rfl rfl
theorem zd_307_26 : decode prog_8_method_11_code 26 = .ok (.iadd, 1) := zsh_g zdk_307 (r := 6) (k := 1) rfl rfl rfl
theorem zd_307_27 : decode prog_8_method_11_code 27 = .ok (.putfield 121, 3) := zsh_g zdk_307 (r := 6) (k := 2) rfl rfl rfl
def zdl_308 : List (List (Nat × Instr × Nat)) := [[(0, (.aload_n 0), 1), (1, (.getfield 127), 3)], [(0, (.aload_n 0), 1), (1, (.getfield 112), 3)], [(0, (.if_icmp .ge 15), 3), (3, (.aload_n 0), 1)], [(0, (.getfield 127), 3), (3, (.aload_n 0), 1)], [(0, (.getfield 109), 3), (3, .arraylength, 1)], [(0, (.if_icmp .lt 5), 3), (3, (.iconst 0), 1)], [(1, (.aload_n 0), 1), (2, .dup, 1), (3, (.getfield 127), 3)], [(2, (.iconst 1), 1), (3, .iadd, 1)], [(0, (.putfield 127), 3), (3, (.aload_n 0), 1)], [(0, (.getfield 109), 3), (3, (.aload_n 0), 1)], [(0, (.getfield 127), 3), (3, (.iconst 1), 1)], [(0, .isub, 1), (1, .iaload, 1)]]
theorem zdk_308 : zsh_all 8 zdl_308 prog_8_method_12_code.data.toList = true := by decide +kernel
theorem zd_308_0 : decode prog_8_method_12_code 0 = .ok (.aload_n 0, 1) := zsh_g zdk_308 (r := 0) (k := 0) rfl rfl rfl
theorem zd_308_1 : decode prog_8_method_12_code 1 = .ok (.getfield 127, 3) := zsh_g zdk_308 (r := 0) (k := 1) rfl rfl rfl
theorem zd_308_4 : decode prog_8_method_12_code 4 = .ok (.aload_n 0, 1) := zsh_g zdk_308 (r := 1) (k := 0) rfl rfl rfl
theorem zd_308_5 : decode prog_8_method_12_code 5 = .ok (.getfield 112, 3) := zsh_g zdk_308 (r := 1) (k := 1) rfl rfl rfl
theorem zd_308_8 : decode prog_8_method_12_code 8 = .ok (.if_icmp .ge 15, 3) := zsh_g zdk_308 (r := 2) (k := 0) rfl rfl rfl
theorem zd_308_11 : decode prog_8_method_12_code 11 = .ok (.aload_n 0, 1) := zsh_g zdk_308 (r := 2) (k := 1) rfl rfl rfl
theorem zd_308_12 : decode prog_8_method_12_code 12 = .ok (.getfield 127, 3) := zsh_g zdk_308 (r := 3) (k := 0) rfl rfl rfl
theorem zd_308_15 : decode prog_8_method_12_code 15 = .ok (.aload_n 0, 1) := zsh_g zdk_308 (r := 3) (k := 1) rfl rfl rfl
theorem zd_308_16 : decode prog_8_method_12_code 16 = .ok (.getfield 109, 3) := zsh_g zdk_308 (r := 4) (k := 0) rfl rfl rfl
theorem zd_308_19 : decode prog_8_method_12_code 19 = .ok (.arraylength, 1) := zsh_g zdk_308 (r := 4) (k := 1) rfl rfl rfl
theorem zd_308_20 : decode prog_8_method_12_code 20 = .ok (.if_icmp .lt 5, 3) := zsh_g zdk_308 (r := 5) (k := 0) rfl rfl rfl
theorem zd_308_23 : decode prog_8_method_12_code 23 = .ok (.iconst 0, 1) := zsh_g zdk_308 (r := 5) (k := 1) rfl rfl rfl
theorem zd_308_25 : decode prog_8_method_12_code 25 = .ok (.aload_n 0, 1) := zsh_g zdk_308 (r := 6) (k := 0) rfl rfl rfl
theorem zd_308_26 : decode prog_8_method_12_code 26 = .ok (.dup, 1) := zsh_g zdk_308 (r := 6) (k := 1) rfl rfl rfl
theorem zd_308_27 : decode prog_8_method_12_code 27 = .ok (.getfield 127, 3) := zsh_g zdk_308 (r := 6) (k := 2) rfl rfl rfl
theorem zd_308_30 : decode prog_8_method_12_code 30 = .ok (.iconst 1, 1) := zsh_g zdk_308 (r := 7) (k := 0) rfl rfl rfl
theorem zd_308_31 : decode prog_8_method_12_code 31 = .ok (.iadd, 1) := zsh_g zdk_308 (r := 7) (k := 1) rfl rfl rfl
theorem zd_308_32 : decode prog_8_method_12_code 32 = .ok (.putfield 127, 3) := zsh_g zdk_308 (r := 8) (k := 0) rfl rfl rfl
theorem zd_308_35 : decode prog_8_method_12_code 35 = .ok (.aload_n 0, 1) := zsh_g zdk_308 (r := 8) (k := 1) rfl rfl rfl
theorem zd_308_36 : decode prog_8_method_12_code 36 = .ok (.getfield 109, 3) := zsh_g zdk_308 (r := 9) (k := 0) rfl rfl rfl
theorem zd_308_39 : decode prog_8_method_12_code 39 = .ok (.aload_n 0, 1) := zsh_g zdk_308 (r := 9) (k := 1) rfl rfl rfl
theorem zd_308_40 : decode prog_8_method_12_code 40 = .ok (.getfield 127, 3) := zsh_g zdk_308 (r := 10) (k := 0) rfl rfl rfl
theorem zd_308_43 : decode prog_8_method_12_code 43 = .ok (.iconst 1, 1) := zsh_g zdk_308 (r := 10) (k := 1) rfl rfl rfl
theorem zd_308_44 : decode prog_8_method_12_code 44 = .ok (.isub, 1) := zsh_g zdk_308 (r := 11) (k := 0) rfl rfl rfl
theorem zd_308_45 : decode prog_8_method_12_code 45 = .ok (.iaload, 1) := zsh_g zdk_308 (r := 11) (k := 1) rfl rfl rfl
def zdl_309 : List (List (Nat × Instr × Nat)) := [[(0, (.aload_n 0), 1), (1, (.getfield 124), 3)], [(0, (.sipush 200), 3), (3, (.if_icmp .ge 13), 3)], [(2, (.aload_n 0), 1), (3, (.getfield 11), 3)], [(2, (.aload_n 0), 1), (3, (.getfield 124), 3)], [(2, (.iload_n 1), 1), (3, .iastore, 1)], [(0, (.aload_n 0), 1), (1, .dup, 1), (2, (.getfield 124), 3)], [(1, (.iconst 1), 1), (2, .iadd, 1), (3, (.putfield 124), 3)]]
theorem zdk_309 : zsh_all 8 zdl_309 prog_8_method_13_code.data.toList = true := by decide +kernel
theorem zd_309_0 : decode prog_8_method_13_code 0 = .ok (.aload_n 0, 1) := zsh_g zdk_309 (r := 0) (k := 0) rfl rfl rfl
theorem zd_309_1 : decode prog_8_method_13_code 1 = .ok (.getfield 124, 3) := zsh_g zdk_309 (r := 0) (k := 1) rfl rfl rfl
theorem zd_309_4 : decode prog_8_method_13_code 4 = .ok (.sipush 200, 3) := zsh_g zdk_309 (r := 1) (k := 0) rfl rfl rfl
theorem zd_309_7 : decode prog_8_method_13_code 7 = .ok (.if_icmp .ge 13, 3) := zsh_g zdk_309 (r := 1) (k := 1) rfl rfl rfl
theorem zd_309_10 : decode prog_8_method_13_code 10 = .ok (.aload_n 0, 1) := zsh_g zdk_309 (r := 2) (k := 0) rfl rfl rfl
theorem zd_309_11 : decode prog_8_method_13_code 11 = .ok (.getfield 11, 3) := zsh_g zdk_309 (r := 2) (k := 1) rfl rfl rfl
theorem zd_309_14 : decode prog_8_method_13_code 14 = .ok (.aload_n 0, 1) := zsh_g zdk_309 (r := 3) (k := 0) rfl rfl rfl
theorem zd_309_15 : decode prog_8_method_13_code 15 = .ok (.getfield 124, 3) := zsh_g zdk_309 (r := 3) (k := 1) rfl rfl rfl
theorem zd_309_18 : decode prog_8_method_13_code 18 = .ok (.iload_n 1, 1) := zsh_g zdk_309 (r := 4) (k := 0) rfl rfl rfl
theorem zd_309_19 : decode prog_8_method_13_code 19 = .ok (.iastore, 1) := zsh_g zdk_309 (r := 4) (k := 1) rfl rfl rfl
theorem zd_309_20 : decode prog_8_method_13_code 20 = .ok (.aload_n 0, 1) := zsh_g zdk_309 (r := 5) (k := 0) rfl rfl rfl
theorem zd_309_21 : decode prog_8_method_13_code 21 = .ok (.dup, 1) := zsh_g zdk_309 (r := 5) (k := 1) rfl rfl rfl
theorem zd_309_22 : decode prog_8_method_13_code 22 = .ok (.getfield 124, 3) := zsh_g zdk_309 (r := 5) (k := 2) rfl rfl rfl
theorem zd_309_25 : decode prog_8_method_13_code 25 = .ok (.iconst 1, 1) := zsh_g zdk_309 (r := 6) (k := 0) rfl rfl rfl
theorem zd_309_26 : decode prog_8_method_13_code 26 = .ok (.iadd, 1) := zsh_g zdk_309 (r := 6) (k := 1) rfl rfl rfl
theorem zd_309_27 : decode prog_8_method_13_code 27 = .ok (.putfield 124, 3) := zsh_g zdk_309 (r := 6) (k := 2) rfl rfl rfl
def zdl_310 : List (List (Nat × Instr × Nat)) := [[(0, (.iload 4), 2), (2, (.ifCond .lt 10), 3)], [(1, (.aload_n 0), 1), (2, (.getfield 24), 3)], [(1, (.goto 7), 3)], [(0, (.aload_n 0), 1), (1, (.getfield 21), 3)], [(0, (.astore 5), 2), (2, (.iload 4), 2)], [(0, (.ifCond .lt 7), 3), (3, (.iload_n 3), 1)], [(0, (.goto 11), 3), (3, (.aload_n 0), 1)], [(0, (.iconst (-1)), 1), (1, (.iload 4), 2), (3, .isub, 1)], [(0, (.invokevirtual 196), 3), (3, (.istore 6), 2)], [(1, (.iload_n 1), 1)], [], [], [], [], [], [], [], [], [], [], [], [], [(0, (.aload_n 0), 1), (1, (.getfield 24), 3)], [(0, (.iload_n 2), 1), (1, (.aload 5), 2), (3, (.iload 6), 2)], [(1, .iaload, 1), (2, .iastore, 1), (3, (.goto 110), 3)], [(2, (.aload 5), 2)], [(0, (.iload 6), 2), (2, (.aload_n 0), 1), (3, (.getfield 24), 3)], [(2, (.iload_n 2), 1), (3, .iaload, 1)], [(0, .iastore, 1), (1, (.goto 96), 3)], [(0, (.iload 4), 2), (2, (.ifCond .lt 8), 3)], [(1, (.iload 4), 2), (3, (.goto 11), 3)], [(2, (.aload_n 0), 1), (3, (.iconst (-1)), 1)], [(0, (.iload 4), 2), (2, .isub, 1), (3, (.invokevirtual 199), 3)], [(2, (.istore 7), 2)], [(0, (.aload_n 0), 1), (1, (.getfield 24), 3)], [(0, (.iload_n 2), 1), (1, .iaload, 1), (2, (.ifCond .lt 14), 3)], [(1, (.aload_n 0), 1), (2, (.getfield 24), 3)], [(1, (.iload_n 2), 1), (2, .iaload, 1), (3, (.iload 7), 2)], [(1, (.if_icmp .lt 56), 3)], [(0, (.aload_n 0), 1), (1, (.iconst 2), 1), (2, (.iconst 2), 1), (3, (.invokevirtual 156), 3)], [(2, (.goto 47), 3)], [(1, (.aload_n 0), 1), (2, (.getfield 24), 3)], [(1, (.iload_n 2), 1), (2, (.aload 5), 2)], [(0, (.iload 6), 2), (2, (.aload_n 0), 1), (3, (.getfield 24), 3)], [(2, (.iload_n 2), 1), (3, .iaload, 1)], [(0, .iadd, 1), (1, .iaload, 1), (2, .iastore, 1), (3, (.goto 26), 3)], [(2, (.aload 5), 2)], [(0, (.iload 6), 2), (2, (.aload_n 0), 1), (3, (.getfield 24), 3)], [(2, (.iload_n 2), 1), (3, .iaload, 1)], [(0, .iadd, 1), (1, (.aload_n 0), 1), (2, (.getfield 24), 3)], [(1, (.iload_n 2), 1), (2, (.iconst 1), 1), (3, .iadd, 1)], [(0, .iaload, 1), (1, .iastore, 1), (2, (.goto 3), 3)]]
theorem zdk_310 : zsh_all 8 zdl_310 prog_8_method_14_code.data.toList = true := by decide +kernel
theorem zd_310_0 : decode prog_8_method_14_code 0 = .ok (.iload 4, 2) := zsh_g zdk_310 (r := 0) (k := 0) rfl rfl rfl
theorem zd_310_2 : decode prog_8_method_14_code 2 = .ok (.ifCond .lt 10, 3) := zsh_g zdk_310 (r := 0) (k := 1) rfl rfl rfl
theorem zd_310_5 : decode prog_8_method_14_code 5 = .ok (.aload_n 0, 1) := zsh_g zdk_310 (r := 1) (k := 0) rfl rfl rfl
theorem zd_310_6 : decode prog_8_method_14_code 6 = .ok (.getfield 24, 3) := zsh_g zdk_310 (r := 1) (k := 1) rfl rfl rfl
theorem zd_310_9 : decode prog_8_method_14_code 9 = .ok (.goto 7, 3) := zsh_g zdk_310 (r := 2) (k := 0) rfl rfl rfl
theorem zd_310_12 : decode prog_8_method_14_code 12 = .ok (.aload_n 0, 1) := zsh_g zdk_310 (r := 3) (k := 0) rfl rfl rfl
theorem zd_310_13 : decode prog_8_method_14_code 13 = .ok (.getfield 21, 3) := zsh_g zdk_310 (r := 3) (k := 1) rfl rfl rfl
theorem zd_310_16 : decode prog_8_method_14_code 16 = .ok (.astore 5, 2) := zsh_g zdk_310 (r := 4) (k := 0) rfl rfl rfl
theorem zd_310_18 : decode prog_8_method_14_code 18 = .ok (.iload 4, 2) := zsh_g zdk_310 (r := 4) (k := 1) rfl rfl rfl
theorem zd_310_20 : decode prog_8_method_14_code 20 = .ok (.ifCond .lt 7, 3) := zsh_g zdk_310 (r := 5) (k := 0) rfl rfl rfl
theorem zd_310_23 : decode prog_8_method_14_code 23 = .ok (.iload_n 3, 1) := zsh_g zdk_310 (r := 5) (k := 1) rfl rfl rfl
theorem zd_310_24 : decode prog_8_method_14_code 24 = .ok (.goto 11, 3) := zsh_g zdk_310 (r := 6) (k := 0) rfl rfl rfl
theorem zd_310_27 : decode prog_8_method_14_code 27 = .ok (.aload_n 0, 1) := zsh_g zdk_310 (r := 6) (k := 1) rfl rfl rfl
theorem zd_310_28 : decode prog_8_method_14_code 28 = .ok (.iconst (-1), 1) := zsh_g zdk_310 (r := 7) (k := 0) rfl rfl rfl
theorem zd_310_29 : decode prog_8_method_14_code 29 = .ok (.iload 4, 2) := zsh_g zdk_310 (r := 7) (k := 1) rfl rfl rfl
theorem zd_310_31 : decode prog_8_method_14_code 31 = .ok (.isub, 1) := zsh_g zdk_310 (r := 7) (k := 2) rfl rfl rfl
theorem zd_310_32 : decode prog_8_method_14_code 32 = .ok (.invokevirtual 196, 3) := zsh_g zdk_310 (r := 8) (k := 0) rfl rfl rfl
theorem zd_310_35 : decode prog_8_method_14_code 35 = .ok (.istore 6, 2) := zsh_g zdk_310 (r := 8) (k := 1) rfl rfl rfl
theorem zd_310_37 : decode prog_8_method_14_code 37 = .ok (.iload_n 1, 1) := zsh_g zdk_310 (r := 9) (k := 0) rfl rfl rfl
theorem zd_310_88 : decode prog_8_method_14_code 88 = .ok (.aload_n 0, 1) := zsh_g zdk_310 (r := 22) (k := 0) rfl rfl rfl
theorem zd_310_89 : decode prog_8_method_14_code 89 = .ok (.getfield 24, 3) := zsh_g zdk_310 (r := 22) (k := 1) rfl rfl rfl
theorem zd_310_92 : decode prog_8_method_14_code 92 = .ok (.iload_n 2, 1) := zsh_g zdk_310 (r := 23) (k := 0) rfl rfl rfl
theorem zd_310_93 : decode prog_8_method_14_code 93 = .ok (.aload 5, 2) := zsh_g zdk_310 (r := 23) (k := 1) rfl rfl rfl
theorem zd_310_95 : decode prog_8_method_14_code 95 = .ok (.iload 6, 2) := zsh_g zdk_310 (r := 23) (k := 2) rfl rfl rfl
theorem zd_310_97 : decode prog_8_method_14_code 97 = .ok (.iaload, 1) := zsh_g zdk_310 (r := 24) (k := 0) rfl rfl rfl
theorem zd_310_98 : decode prog_8_method_14_code 98 = .ok (.iastore, 1) := zsh_g zdk_310 (r := 24) (k := 1) rfl rfl rfl
theorem zd_310_99 : decode prog_8_method_14_code 99 = .ok (.goto 110, 3) := zsh_g zdk_310 (r := 24) (k := 2) rfl rfl rfl
theorem zd_310_102 : decode prog_8_method_14_code 102 = .ok (.aload 5, 2) := zsh_g zdk_310 (r := 25) (k := 0) rfl rfl rfl
theorem zd_310_104 : decode prog_8_method_14_code 104 = .ok (.iload 6, 2) := zsh_g zdk_310 (r := 26) (k := 0) rfl rfl rfl
theorem zd_310_106 : decode prog_8_method_14_code 106 = .ok (.aload_n 0, 1) := zsh_g zdk_310 (r := 26) (k := 1) rfl rfl rfl
theorem zd_310_107 : decode prog_8_method_14_code 107 = .ok (.getfield 24, 3) := zsh_g zdk_310 (r := 26) (k := 2) rfl rfl rfl
theorem zd_310_110 : decode prog_8_method_14_code 110 = .ok (.iload_n 2, 1) := zsh_g zdk_310 (r := 27) (k := 0) rfl rfl rfl
theorem zd_310_111 : decode prog_8_method_14_code 111 = .ok (.iaload, 1) := zsh_g zdk_310 (r := 27) (k := 1) rfl rfl rfl
theorem zd_310_112 : decode prog_8_method_14_code 112 = .ok (.iastore, 1) := zsh_g zdk_310 (r := 28) (k := 0) rfl rfl rfl
theorem zd_310_113 : decode prog_8_method_14_code 113 = .ok (.goto 96, 3) := zsh_g zdk_310 (r := 28) (k := 1) rfl rfl rfl
theorem zd_310_116 : decode prog_8_method_14_code 116 = .ok (.iload 4, 2) := zsh_g zdk_310 (r := 29) (k := 0) rfl rfl rfl
theorem zd_310_118 : decode prog_8_method_14_code 118 = .ok (.ifCond .lt 8, 3) := zsh_g zdk_310 (r := 29) (k := 1) rfl rfl rfl
theorem zd_310_121 : decode prog_8_method_14_code 121 = .ok (.iload 4, 2) := zsh_g zdk_310 (r := 30) (k := 0) rfl rfl rfl
theorem zd_310_123 : decode prog_8_method_14_code 123 = .ok (.goto 11, 3) := zsh_g zdk_310 (r := 30) (k := 1) rfl rfl rfl
theorem zd_310_126 : decode prog_8_method_14_code 126 = .ok (.aload_n 0, 1) := zsh_g zdk_310 (r := 31) (k := 0) rfl rfl rfl
theorem zd_310_127 : decode prog_8_method_14_code 127 = .ok (.iconst (-1), 1) := zsh_g zdk_310 (r := 31) (k := 1) rfl rfl rfl
theorem zd_310_128 : decode prog_8_method_14_code 128 = .ok (.iload 4, 2) := zsh_g zdk_310 (r := 32) (k := 0) rfl rfl rfl
theorem zd_310_130 : decode prog_8_method_14_code 130 = .ok (.isub, 1) := zsh_g zdk_310 (r := 32) (k := 1) rfl rfl rfl
theorem zd_310_131 : decode prog_8_method_14_code 131 = .ok (.invokevirtual 199, 3) := zsh_g zdk_310 (r := 32) (k := 2) rfl rfl rfl
theorem zd_310_134 : decode prog_8_method_14_code 134 = .ok (.istore 7, 2) := zsh_g zdk_310 (r := 33) (k := 0) rfl rfl rfl
theorem zd_310_136 : decode prog_8_method_14_code 136 = .ok (.aload_n 0, 1) := zsh_g zdk_310 (r := 34) (k := 0) rfl rfl rfl
theorem zd_310_137 : decode prog_8_method_14_code 137 = .ok (.getfield 24, 3) := zsh_g zdk_310 (r := 34) (k := 1) rfl rfl rfl
theorem zd_310_140 : decode prog_8_method_14_code 140 = .ok (.iload_n 2, 1) := zsh_g zdk_310 (r := 35) (k := 0) rfl rfl rfl
theorem zd_310_141 : decode prog_8_method_14_code 141 = .ok (.iaload, 1) := zsh_g zdk_310 (r := 35) (k := 1) rfl rfl rfl
theorem zd_310_142 : decode prog_8_method_14_code 142 = .ok (.ifCond .lt 14, 3) := zsh_g zdk_310 (r := 35) (k := 2) rfl rfl rfl
theorem zd_310_145 : decode prog_8_method_14_code 145 = .ok (.aload_n 0, 1) := zsh_g zdk_310 (r := 36) (k := 0) rfl rfl rfl
theorem zd_310_146 : decode prog_8_method_14_code 146 = .ok (.getfield 24, 3) := zsh_g zdk_310 (r := 36) (k := 1) rfl rfl rfl
theorem zd_310_149 : decode prog_8_method_14_code 149 = .ok (.iload_n 2, 1) := zsh_g zdk_310 (r := 37) (k := 0) rfl rfl rfl
theorem zd_310_150 : decode prog_8_method_14_code 150 = .ok (.iaload, 1) := zsh_g zdk_310 (r := 37) (k := 1) rfl rfl rfl
theorem zd_310_151 : decode prog_8_method_14_code 151 = .ok (.iload 7, 2) := zsh_g zdk_310 (r := 37) (k := 2) rfl rfl rfl
theorem zd_310_153 : decode prog_8_method_14_code 153 = .ok (.if_icmp .lt 56, 3) := zsh_g zdk_310 (r := 38) (k := 0) rfl rfl rfl
theorem zd_310_156 : decode prog_8_method_14_code 156 = .ok (.aload_n 0, 1) := zsh_g zdk_310 (r := 39) (k := 0) rfl rfl rfl
theorem zd_310_157 : decode prog_8_method_14_code 157 = .ok (.iconst 2, 1) := zsh_g zdk_310 (r := 39) (k := 1) rfl rfl rfl
theorem zd_310_158 : decode prog_8_method_14_code 158 = .ok (.iconst 2, 1) := zsh_g zdk_310 (r := 39) (k := 2) rfl rfl rfl
theorem zd_310_159 : decode prog_8_method_14_code 159 = .ok (.invokevirtual 156, 3) := zsh_g zdk_310 (r := 39) (k := 3) rfl rfl rfl
theorem zd_310_162 : decode prog_8_method_14_code 162 = .ok (.goto 47, 3) := zsh_g zdk_310 (r := 40) (k := 0) rfl rfl rfl
theorem zd_310_165 : decode prog_8_method_14_code 165 = .ok (.aload_n 0, 1) := zsh_g zdk_310 (r := 41) (k := 0) rfl rfl rfl
theorem zd_310_166 : decode prog_8_method_14_code 166 = .ok (.getfield 24, 3) := zsh_g zdk_310 (r := 41) (k := 1) rfl rfl rfl
theorem zd_310_169 : decode prog_8_method_14_code 169 = .ok (.iload_n 2, 1) := zsh_g zdk_310 (r := 42) (k := 0) rfl rfl rfl
theorem zd_310_170 : decode prog_8_method_14_code 170 = .ok (.aload 5, 2) := zsh_g zdk_310 (r := 42) (k := 1) rfl rfl rfl
theorem zd_310_172 : decode prog_8_method_14_code 172 = .ok (.iload 6, 2) := zsh_g zdk_310 (r := 43) (k := 0) rfl rfl rfl
theorem zd_310_174 : decode prog_8_method_14_code 174 = .ok (.aload_n 0, 1) := zsh_g zdk_310 (r := 43) (k := 1) rfl rfl rfl
theorem zd_310_175 : decode prog_8_method_14_code 175 = .ok (.getfield 24, 3) := zsh_g zdk_310 (r := 43) (k := 2) rfl rfl rfl
theorem zd_310_178 : decode prog_8_method_14_code 178 = .ok (.iload_n 2, 1) := zsh_g zdk_310 (r := 44) (k := 0) rfl rfl rfl
theorem zd_310_179 : decode prog_8_method_14_code 179 = .ok (.iaload, 1) := zsh_g zdk_310 (r := 44) (k := 1) rfl rfl rfl
theorem zd_310_180 : decode prog_8_method_14_code 180 = .ok (.iadd, 1) := zsh_g zdk_310 (r := 45) (k := 0) rfl rfl rfl
theorem zd_310_181 : decode prog_8_method_14_code 181 = .ok (.iaload, 1) := zsh_g zdk_310 (r := 45) (k := 1) rfl rfl rfl
theorem zd_310_182 : decode prog_8_method_14_code 182 = .ok (.iastore, 1) := zsh_g zdk_310 (r := 45) (k := 2) rfl rfl rfl
theorem zd_310_183 : decode prog_8_method_14_code 183 = .ok (.goto 26, 3) := zsh_g zdk_310 (r := 45) (k := 3) rfl rfl rfl
theorem zd_310_186 : decode prog_8_method_14_code 186 = .ok (.aload 5, 2) := zsh_g zdk_310 (r := 46) (k := 0) rfl rfl rfl
theorem zd_310_188 : decode prog_8_method_14_code 188 = .ok (.iload 6, 2) := zsh_g zdk_310 (r := 47) (k := 0) rfl rfl rfl
theorem zd_310_190 : decode prog_8_method_14_code 190 = .ok (.aload_n 0, 1) := zsh_g zdk_310 (r := 47) (k := 1) rfl rfl rfl
theorem zd_310_191 : decode prog_8_method_14_code 191 = .ok (.getfield 24, 3) := zsh_g zdk_310 (r := 47) (k := 2) rfl rfl rfl
theorem zd_310_194 : decode prog_8_method_14_code 194 = .ok (.iload_n 2, 1) := zsh_g zdk_310 (r := 48) (k := 0) rfl rfl rfl
theorem zd_310_195 : decode prog_8_method_14_code 195 = .ok (.iaload, 1) := zsh_g zdk_310 (r := 48) (k := 1) rfl rfl rfl
theorem zd_310_196 : decode prog_8_method_14_code 196 = .ok (.iadd, 1) := zsh_g zdk_310 (r := 49) (k := 0) rfl rfl rfl
theorem zd_310_197 : decode prog_8_method_14_code 197 = .ok (.aload_n 0, 1) := zsh_g zdk_310 (r := 49) (k := 1) rfl rfl rfl
theorem zd_310_198 : decode prog_8_method_14_code 198 = .ok (.getfield 24, 3) := zsh_g zdk_310 (r := 49) (k := 2) rfl rfl rfl
theorem zd_310_201 : decode prog_8_method_14_code 201 = .ok (.iload_n 2, 1) := zsh_g zdk_310 (r := 50) (k := 0) rfl rfl rfl
theorem zd_310_202 : decode prog_8_method_14_code 202 = .ok (.iconst 1, 1) := zsh_g zdk_310 (r := 50) (k := 1) rfl rfl rfl
theorem zd_310_203 : decode prog_8_method_14_code 203 = .ok (.iadd, 1) := zsh_g zdk_310 (r := 50) (k := 2) rfl rfl rfl
theorem zd_310_204 : decode prog_8_method_14_code 204 = .ok (.iaload, 1) := zsh_g zdk_310 (r := 51) (k := 0) rfl rfl rfl
theorem zd_310_205 : decode prog_8_method_14_code 205 = .ok (.iastore, 1) := zsh_g zdk_310 (r := 51) (k := 1) rfl rfl rfl
theorem zd_310_206 : decode prog_8_method_14_code 206 = .ok (.goto 3, 3) := zsh_g zdk_310 (r := 51) (k := 2) rfl rfl rfl
theorem zd_310_38 : decode prog_8_method_14_code 38 = .ok (.lookupswitch 171 #[(7, 50), (8, 78), (9, 127), (29, 64), (30, 148)], 50) := by decide +kernel
def zdl_311 : List (List (Nat × Instr × Nat)) := [[(0, (.iload_n 1), 1), (1, (.ifCond .ge 7), 3)], [(0, (.iload_n 1), 1), (1, (.goto 9), 3)], [(0, (.aload_n 0), 1), (1, (.getfield 169), 3)], [(0, (.iload_n 1), 1), (1, .iaload, 1)]]
theorem zdk_311 : zsh_all 8 zdl_311 prog_14_method_12_code.data.toList = true := by decide +kernel
theorem zd_311_0 : decode prog_14_method_12_code 0 = .ok (.iload_n 1, 1) := zsh_g zdk_311 (r := 0) (k := 0) rfl rfl rfl
theorem zd_311_1 : decode prog_14_method_12_code 1 = .ok (.ifCond .ge 7, 3) := zsh_g zdk_311 (r := 0) (k := 1) rfl rfl rfl
theorem zd_311_4 : decode prog_14_method_12_code 4 = .ok (.iload_n 1, 1) := zsh_g zdk_311 (r := 1) (k := 0) rfl rfl rfl
theorem zd_311_5 : decode prog_14_method_12_code 5 = .ok (.goto 9, 3) := zsh_g zdk_311 (r := 1) (k := 1) rfl rfl rfl
theorem zd_311_8 : decode prog_14_method_12_code 8 = .ok (.aload_n 0, 1) := zsh_g zdk_311 (r := 2) (k := 0) rfl rfl rfl
theorem zd_311_9 : decode prog_14_method_12_code 9 = .ok (.getfield 169, 3) := zsh_g zdk_311 (r := 2) (k := 1) rfl rfl rfl
theorem zd_311_12 : decode prog_14_method_12_code 12 = .ok (.iload_n 1, 1) := zsh_g zdk_311 (r := 3) (k := 0) rfl rfl rfl
theorem zd_311_13 : decode prog_14_method_12_code 13 = .ok (.iaload, 1) := zsh_g zdk_311 (r := 3) (k := 1) rfl rfl rfl
def zdl_312 : List (List (Nat × Instr × Nat)) := [[(0, (.aload_n 0), 1), (1, .dup, 1), (2, (.getfield 601), 3)], [(1, (.iconst 1), 1), (2, .iadd, 1), (3, (.putfield 601), 3)], [(2, (.aload_n 0), 1), (3, (.getfield 601), 3)], [(2, (.bipush 20), 2)], [(0, (.if_icmp .le 7), 3), (3, (.aload_n 0), 1)], [(0, (.invokevirtual 586), 3)]]
theorem zdk_312 : zsh_all 8 zdl_312 prog_14_method_29_code.data.toList = true := by decide +kernel
theorem zd_312_0 : decode prog_14_method_29_code 0 = .ok (.aload_n 0, 1) := zsh_g zdk_312 (r := 0) (k := 0) rfl rfl rfl
theorem zd_312_1 : decode prog_14_method_29_code 1 = .ok (.dup, 1) := zsh_g zdk_312 (r := 0) (k := 1) rfl rfl rfl
theorem zd_312_2 : decode prog_14_method_29_code 2 = .ok (.getfield 601, 3) := zsh_g zdk_312 (r := 0) (k := 2) rfl rfl rfl
theorem zd_312_5 : decode prog_14_method_29_code 5 = .ok (.iconst 1, 1) := zsh_g zdk_312 (r := 1) (k := 0) rfl rfl rfl
theorem zd_312_6 : decode prog_14_method_29_code 6 = .ok (.iadd, 1) := zsh_g zdk_312 (r := 1) (k := 1) rfl rfl rfl
theorem zd_312_7 : decode prog_14_method_29_code 7 = .ok (.putfield 601, 3) := zsh_g zdk_312 (r := 1) (k := 2) rfl rfl rfl
theorem zd_312_10 : decode prog_14_method_29_code 10 = .ok (.aload_n 0, 1) := zsh_g zdk_312 (r := 2) (k := 0) rfl rfl rfl
theorem zd_312_11 : decode prog_14_method_29_code 11 = .ok (.getfield 601, 3) := zsh_g zdk_312 (r := 2) (k := 1) rfl rfl rfl
theorem zd_312_14 : decode prog_14_method_29_code 14 = .ok (.bipush 20, 2) := zsh_g zdk_312 (r := 3) (k := 0) rfl rfl rfl
theorem zd_312_16 : decode prog_14_method_29_code 16 = .ok (.if_icmp .le 7, 3) := zsh_g zdk_312 (r := 4) (k := 0) rfl rfl rfl
theorem zd_312_19 : decode prog_14_method_29_code 19 = .ok (.aload_n 0, 1) := zsh_g zdk_312 (r := 4) (k := 1) rfl rfl rfl
theorem zd_312_20 : decode prog_14_method_29_code 20 = .ok (.invokevirtual 586, 3) := zsh_g zdk_312 (r := 5) (k := 0) rfl rfl rfl
def zdl_313 : List (List (Nat × Instr × Nat)) := [[(0, (.iconst (-1)), 1), (1, (.istore_n 2), 1), (2, (.iconst 0), 1), (3, (.istore_n 3), 1)], [(0, (.iload_n 3), 1), (1, (.aload_n 0), 1), (2, (.getfield 592), 3)], [(1, (.if_icmp .ge 35), 3)], [(0, (.aload_n 0), 1), (1, (.getfield 184), 3)], [(0, (.aload_n 0), 1), (1, (.getfield 193), 3)], [(0, (.iload_n 3), 1), (1, .iaload, 1), (2, .iaload, 1), (3, (.iload_n 1), 1)], [(0, (.if_icmp .ne 12), 3), (3, (.aload_n 0), 1)], [(0, (.getfield 193), 3), (3, (.iload_n 3), 1)], [(0, .iaload, 1), (1, (.goto 4), 3)], [(0, (.iload_n 2), 1), (1, (.istore_n 2), 1), (2, (.iinc 3 1), 3)], [(1, (.goto (-37)), 3)], [(0, (.iload_n 2), 1)]]
theorem zdk_313 : zsh_all 8 zdl_313 prog_14_method_25_code.data.toList = true := by decide +kernel
theorem zd_313_0 : decode prog_14_method_25_code 0 = .ok (.iconst (-1), 1) := zsh_g zdk_313 (r := 0) (k := 0) rfl rfl rfl
theorem zd_313_1 : decode prog_14_method_25_code 1 = .ok (.istore_n 2, 1) := zsh_g zdk_313 (r := 0) (k := 1) rfl rfl rfl
theorem zd_313_2 : decode prog_14_method_25_code 2 = .ok (.iconst 0, 1) := zsh_g zdk_313 (r := 0) (k := 2) rfl rfl rfl
theorem zd_313_3 : decode prog_14_method_25_code 3 = .ok (.istore_n 3, 1) := zsh_g zdk_313 (r := 0) (k := 3) rfl rfl rfl
theorem zd_313_4 : decode prog_14_method_25_code 4 = .ok (.iload_n 3, 1) := zsh_g zdk_313 (r := 1) (k := 0) rfl rfl rfl
theorem zd_313_5 : decode prog_14_method_25_code 5 = .ok (.aload_n 0, 1) := zsh_g zdk_313 (r := 1) (k := 1) rfl rfl rfl
theorem zd_313_6 : decode prog_14_method_25_code 6 = .ok (.getfield 592, 3) := zsh_g zdk_313 (r := 1) (k := 2) rfl rfl rfl
theorem zd_313_9 : decode prog_14_method_25_code 9 = .ok (.if_icmp .ge 35, 3) := zsh_g zdk_313 (r := 2) (k := 0) rfl rfl rfl
theorem zd_313_12 : decode prog_14_method_25_code 12 = .ok (.aload_n 0, 1) := zsh_g zdk_313 (r := 3) (k := 0) rfl rfl rfl
theorem zd_313_13 : decode prog_14_method_25_code 13 = .ok (.getfield 184, 3) := zsh_g zdk_313 (r := 3) (k := 1) rfl rfl rfl
theorem zd_313_16 : decode prog_14_method_25_code 16 = .ok (.aload_n 0, 1) := zsh_g zdk_313 (r := 4) (k := 0) rfl rfl rfl
theorem zd_313_17 : decode prog_14_method_25_code 17 = .ok (.getfield 193, 3) := zsh_g zdk_313 (r := 4) (k := 1) rfl rfl rfl
theorem zd_313_20 : decode prog_14_method_25_code 20 = .ok (.iload_n 3, 1) := zsh_g zdk_313 (r := 5) (k := 0) rfl rfl rfl
theorem zd_313_21 : decode prog_14_method_25_code 21 = .ok (.iaload, 1) := zsh_g zdk_313 (r := 5) (k := 1) rfl rfl rfl
theorem zd_313_22 : decode prog_14_method_25_code 22 = .ok (.iaload, 1) := zsh_g zdk_313 (r := 5) (k := 2) rfl rfl rfl
theorem zd_313_23 : decode prog_14_method_25_code 23 = .ok (.iload_n 1, 1) := zsh_g zdk_313 (r := 5) (k := 3) rfl rfl rfl
theorem zd_313_24 : decode prog_14_method_25_code 24 = .ok (.if_icmp .ne 12, 3) := zsh_g zdk_313 (r := 6) (k := 0) rfl rfl rfl
theorem zd_313_27 : decode prog_14_method_25_code 27 = .ok (.aload_n 0, 1) := zsh_g zdk_313 (r := 6) (k := 1) rfl rfl rfl
theorem zd_313_28 : decode prog_14_method_25_code 28 = .ok (.getfield 193, 3) := zsh_g zdk_313 (r := 7) (k := 0) rfl rfl rfl
theorem zd_313_31 : decode prog_14_method_25_code 31 = .ok (.iload_n 3, 1) := zsh_g zdk_313 (r := 7) (k := 1) rfl rfl rfl
theorem zd_313_32 : decode prog_14_method_25_code 32 = .ok (.iaload, 1) := zsh_g zdk_313 (r := 8) (k := 0) rfl rfl rfl
theorem zd_313_33 : decode prog_14_method_25_code 33 = .ok (.goto 4, 3) := zsh_g zdk_313 (r := 8) (k := 1) rfl rfl rfl
theorem zd_313_36 : decode prog_14_method_25_code 36 = .ok (.iload_n 2, 1) := zsh_g zdk_313 (r := 9) (k := 0) rfl rfl rfl
theorem zd_313_37 : decode prog_14_method_25_code 37 = .ok (.istore_n 2, 1) := zsh_g zdk_313 (r := 9) (k := 1) rfl rfl rfl
theorem zd_313_38 : decode prog_14_method_25_code 38 = .ok (.iinc 3 1, 3) := zsh_g zdk_313 (r := 9) (k := 2) rfl rfl rfl
theorem zd_313_41 : decode prog_14_method_25_code 41 = .ok (.goto (-37), 3) := zsh_g zdk_313 (r := 10) (k := 0) rfl rfl rfl
theorem zd_313_44 : decode prog_14_method_25_code 44 = .ok (.iload_n 2, 1) := zsh_g zdk_313 (r := 11) (k := 0) rfl rfl rfl
def zdl_314 : List (List (Nat × Instr × Nat)) := [[(0, (.aload_n 0), 1), (1, (.getfield 184), 3)], [(0, (.aload_n 0), 1), (1, (.getfield 677), 3)], [(0, (.iload_n 1), 1), (1, .iastore, 1), (2, (.aload_n 0), 1), (3, (.getfield 187), 3)], [(2, (.aload_n 0), 1), (3, (.getfield 677), 3)], [(2, (.iload_n 2), 1), (3, .iastore, 1)], [(0, (.aload_n 0), 1), (1, (.getfield 193), 3)], [(0, (.aload_n 0), 1), (1, (.getfield 592), 3)], [(0, (.aload_n 0), 1), (1, (.getfield 677), 3)], [(0, .iastore, 1), (1, (.aload_n 0), 1), (2, .dup, 1), (3, (.getfield 592), 3)], [(2, (.iconst 1), 1), (3, .iadd, 1)], [(0, (.putfield 592), 3), (3, (.aload_n 0), 1)], [(0, .dup, 1), (1, (.getfield 677), 3)], [(0, (.iconst 1), 1), (1, .iadd, 1), (2, (.putfield 677), 3)]]
theorem zdk_314 : zsh_all 8 zdl_314 prog_14_method_45_code.data.toList = true := by decide +kernel
theorem zd_314_0 : decode prog_14_method_45_code 0 = .ok (.aload_n 0, 1) := zsh_g zdk_314 (r := 0) (k := 0) rfl rfl rfl
theorem zd_314_1 : decode prog_14_method_45_code 1 = .ok (.getfield 184, 3) := zsh_g zdk_314 (r := 0) (k := 1) rfl rfl rfl
theorem zd_314_4 : decode prog_14_method_45_code 4 = .ok (.aload_n 0, 1) := zsh_g zdk_314 (r := 1) (k := 0) rfl rfl rfl
theorem zd_314_5 : decode prog_14_method_45_code 5 = .ok (.getfield 677, 3) := zsh_g zdk_314 (r := 1) (k := 1) rfl rfl rfl
theorem zd_314_8 : decode prog_14_method_45_code 8 = .ok (.iload_n 1, 1) := zsh_g zdk_314 (r := 2) (k := 0) rfl rfl rfl
theorem zd_314_9 : decode prog_14_method_45_code 9 = .ok (.iastore, 1) := zsh_g zdk_314 (r := 2) (k := 1) rfl rfl rfl
theorem zd_314_10 : decode prog_14_method_45_code 10 = .ok (.aload_n 0, 1) := zsh_g zdk_314 (r := 2) (k := 2) rfl rfl rfl
theorem zd_314_11 : decode prog_14_method_45_code 11 = .ok (.getfield 187, 3) := zsh_g zdk_314 (r := 2) (k := 3) rfl rfl rfl
theorem zd_314_14 : decode prog_14_method_45_code 14 = .ok (.aload_n 0, 1) := zsh_g zdk_314 (r := 3) (k := 0) rfl rfl rfl
theorem zd_314_15 : decode prog_14_method_45_code 15 = .ok (.getfield 677, 3) := zsh_g zdk_314 (r := 3) (k := 1) rfl rfl rfl
theorem zd_314_18 : decode prog_14_method_45_code 18 = .ok (.iload_n 2, 1) := zsh_g zdk_314 (r := 4) (k := 0) rfl rfl rfl
theorem zd_314_19 : decode prog_14_method_45_code 19 = .ok (.iastore, 1) := zsh_g zdk_314 (r := 4) (k := 1) rfl rfl rfl
theorem zd_314_20 : decode prog_14_method_45_code 20 = .ok (.aload_n 0, 1) := zsh_g zdk_314 (r := 5) (k := 0) rfl rfl rfl
theorem zd_314_21 : decode prog_14_method_45_code 21 = .ok (.getfield 193, 3) := zsh_g zdk_314 (r := 5) (k := 1) rfl rfl rfl
theorem zd_314_24 : decode prog_14_method_45_code 24 = .ok (.aload_n 0, 1) := zsh_g zdk_314 (r := 6) (k := 0) rfl rfl rfl
theorem zd_314_25 : decode prog_14_method_45_code 25 = .ok (.getfield 592, 3) := zsh_g zdk_314 (r := 6) (k := 1) rfl rfl rfl
theorem zd_314_28 : decode prog_14_method_45_code 28 = .ok (.aload_n 0, 1) := zsh_g zdk_314 (r := 7) (k := 0) rfl rfl rfl
theorem zd_314_29 : decode prog_14_method_45_code 29 = .ok (.getfield 677, 3) := zsh_g zdk_314 (r := 7) (k := 1) rfl rfl rfl
theorem zd_314_32 : decode prog_14_method_45_code 32 = .ok (.iastore, 1) := zsh_g zdk_314 (r := 8) (k := 0) rfl rfl rfl
theorem zd_314_33 : decode prog_14_method_45_code 33 = .ok (.aload_n 0, 1) := zsh_g zdk_314 (r := 8) (k := 1) rfl rfl rfl
theorem zd_314_34 : decode prog_14_method_45_code 34 = .ok (.dup, 1) := zsh_g zdk_314 (r := 8) (k := 2) rfl rfl rfl
theorem zd_314_35 : decode prog_14_method_45_code 35 = .ok (.getfield 592, 3) := zsh_g zdk_314 (r := 8) (k := 3) rfl rfl rfl
theorem zd_314_38 : decode prog_14_method_45_code 38 = .ok (.iconst 1, 1) := zsh_g zdk_314 (r := 9) (k := 0) rfl rfl rfl
theorem zd_314_39 : decode prog_14_method_45_code 39 = .ok (.iadd, 1) := zsh_g zdk_314 (r := 9) (k := 1) rfl rfl rfl
theorem zd_314_40 : decode prog_14_method_45_code 40 = .ok (.putfield 592, 3) := zsh_g zdk_314 (r := 10) (k := 0) rfl rfl rfl
theorem zd_314_43 : decode prog_14_method_45_code 43 = .ok (.aload_n 0, 1) := zsh_g zdk_314 (r := 10) (k := 1) rfl rfl rfl
theorem zd_314_44 : decode prog_14_method_45_code 44 = .ok (.dup, 1) := zsh_g zdk_314 (r := 11) (k := 0) rfl rfl rfl
theorem zd_314_45 : decode prog_14_method_45_code 45 = .ok (.getfield 677, 3) := zsh_g zdk_314 (r := 11) (k := 1) rfl rfl rfl
theorem zd_314_48 : decode prog_14_method_45_code 48 = .ok (.iconst 1, 1) := zsh_g zdk_314 (r := 12) (k := 0) rfl rfl rfl
theorem zd_314_49 : decode prog_14_method_45_code 49 = .ok (.iadd, 1) := zsh_g zdk_314 (r := 12) (k := 1) rfl rfl rfl
theorem zd_314_50 : decode prog_14_method_45_code 50 = .ok (.putfield 677, 3) := zsh_g zdk_314 (r := 12) (k := 2) rfl rfl rfl
def zdl_315 : List (List (Nat × Instr × Nat)) := [[(0, (.sipush 8000), 3), (3, (.aload_n 0), 1)], [(0, (.getfield 589), 3), (3, .imul, 1)], [(0, (.aload_n 0), 1), (1, (.getfield 129), 3)], [(0, (.aload_n 0), 1), (1, (.getfield 589), 3)], [(0, .iaload, 1), (1, .iadd, 1), (2, (.istore 6), 2)], [(0, (.aload_n 0), 1), (1, (.getfield 133), 3)], [(0, (.iload 6), 2), (2, (.iload_n 1), 1), (3, .iastore, 1)], [(0, (.aload_n 0), 1), (1, (.getfield 136), 3)], [(0, (.iload 6), 2), (2, (.iload_n 2), 1), (3, .iastore, 1)], [(0, (.aload_n 0), 1), (1, (.getfield 139), 3)], [(0, (.iload 6), 2), (2, (.iload_n 3), 1), (3, .iastore, 1)], [(0, (.aload_n 0), 1), (1, (.getfield 142), 3)], [(0, (.iload 6), 2), (2, (.iload 4), 2)], [(0, .iastore, 1), (1, (.aload_n 0), 1), (2, (.getfield 145), 3)], [(1, (.iload 6), 2), (3, (.iload 5), 2)], [(1, .iastore, 1), (2, (.aload_n 0), 1), (3, (.getfield 129), 3)], [(2, (.aload_n 0), 1), (3, (.getfield 589), 3)], [(2, .dup2, 1), (3, .iaload, 1)], [(0, (.iconst 1), 1), (1, .iadd, 1), (2, .iastore, 1)]]
theorem zdk_315 : zsh_all 8 zdl_315 prog_14_method_24_code.data.toList = true := by decide +kernel
theorem zd_315_0 : decode prog_14_method_24_code 0 = .ok (.sipush 8000, 3) := zsh_g zdk_315 (r := 0) (k := 0) rfl rfl rfl
theorem zd_315_3 : decode prog_14_method_24_code 3 = .ok (.aload_n 0, 1) := zsh_g zdk_315 (r := 0) (k := 1) rfl rfl rfl
theorem zd_315_4 : decode prog_14_method_24_code 4 = .ok (.getfield 589, 3) := zsh_g zdk_315 (r := 1) (k := 0) rfl rfl rfl
theorem zd_315_7 : decode prog_14_method_24_code 7 = .ok (.imul, 1) := zsh_g zdk_315 (r := 1) (k := 1) rfl rfl rfl
theorem zd_315_8 : decode prog_14_method_24_code 8 = .ok (.aload_n 0, 1) := zsh_g zdk_315 (r := 2) (k := 0) rfl rfl rfl
theorem zd_315_9 : decode prog_14_method_24_code 9 = .ok (.getfield 129, 3) := zsh_g zdk_315 (r := 2) (k := 1) rfl rfl rfl
theorem zd_315_12 : decode prog_14_method_24_code 12 = .ok (.aload_n 0, 1) := zsh_g zdk_315 (r := 3) (k := 0) rfl rfl rfl
theorem zd_315_13 : decode prog_14_method_24_code 13 = .ok (.getfield 589, 3) := zsh_g zdk_315 (r := 3) (k := 1) rfl rfl rfl
theorem zd_315_16 : decode prog_14_method_24_code 16 = .ok (.iaload, 1) := zsh_g zdk_315 (r := 4) (k := 0) rfl rfl rfl
theorem zd_315_17 : decode prog_14_method_24_code 17 = .ok (.iadd, 1) := zsh_g zdk_315 (r := 4) (k := 1) rfl rfl rfl
theorem zd_315_18 : decode prog_14_method_24_code 18 = .ok (.istore 6, 2) := zsh_g zdk_315 (r := 4) (k := 2) rfl rfl rfl
theorem zd_315_20 : decode prog_14_method_24_code 20 = .ok (.aload_n 0, 1) := zsh_g zdk_315 (r := 5) (k := 0) rfl rfl rfl
theorem zd_315_21 : decode prog_14_method_24_code 21 = .ok (.getfield 133, 3) := zsh_g zdk_315 (r := 5) (k := 1) rfl rfl rfl
theorem zd_315_24 : decode prog_14_method_24_code 24 = .ok (.iload 6, 2) := zsh_g zdk_315 (r := 6) (k := 0) rfl rfl rfl
theorem zd_315_26 : decode prog_14_method_24_code 26 = .ok (.iload_n 1, 1) := zsh_g zdk_315 (r := 6) (k := 1) rfl rfl rfl
theorem zd_315_27 : decode prog_14_method_24_code 27 = .ok (.iastore, 1) := zsh_g zdk_315 (r := 6) (k := 2) rfl rfl rfl
theorem zd_315_28 : decode prog_14_method_24_code 28 = .ok (.aload_n 0, 1) := zsh_g zdk_315 (r := 7) (k := 0) rfl rfl rfl
theorem zd_315_29 : decode prog_14_method_24_code 29 = .ok (.getfield 136, 3) := zsh_g zdk_315 (r := 7) (k := 1) rfl rfl rfl
theorem zd_315_32 : decode prog_14_method_24_code 32 = .ok (.iload 6, 2) := zsh_g zdk_315 (r := 8) (k := 0) rfl rfl rfl
theorem zd_315_34 : decode prog_14_method_24_code 34 = .ok (.iload_n 2, 1) := zsh_g zdk_315 (r := 8) (k := 1) rfl rfl rfl
theorem zd_315_35 : decode prog_14_method_24_code 35 = .ok (.iastore, 1) := zsh_g zdk_315 (r := 8) (k := 2) rfl rfl rfl
theorem zd_315_36 : decode prog_14_method_24_code 36 = .ok (.aload_n 0, 1) := zsh_g zdk_315 (r := 9) (k := 0) rfl rfl rfl
theorem zd_315_37 : decode prog_14_method_24_code 37 = .ok (.getfield 139, 3) := zsh_g zdk_315 (r := 9) (k := 1) rfl rfl rfl
theorem zd_315_40 : decode prog_14_method_24_code 40 = .ok (.iload 6, 2) := zsh_g zdk_315 (r := 10) (k := 0) rfl rfl rfl
theorem zd_315_42 : decode prog_14_method_24_code 42 = .ok (.iload_n 3, 1) := zsh_g zdk_315 (r := 10) (k := 1) rfl rfl rfl
theorem zd_315_43 : decode prog_14_method_24_code 43 = .ok (.iastore, 1) := zsh_g zdk_315 (r := 10) (k := 2) rfl rfl rfl
theorem zd_315_44 : decode prog_14_method_24_code 44 = .ok (.aload_n 0, 1) := zsh_g zdk_315 (r := 11) (k := 0) rfl rfl rfl
theorem zd_315_45 : decode prog_14_method_24_code 45 = .ok (.getfield 142, 3) := zsh_g zdk_315 (r := 11) (k := 1) rfl rfl rfl
theorem zd_315_48 : decode prog_14_method_24_code 48 = .ok (.iload 6, 2) := zsh_g zdk_315 (r := 12) (k := 0) rfl rfl rfl
theorem zd_315_50 : decode prog_14_method_24_code 50 = .ok (.iload 4, 2) := zsh_g zdk_315 (r := 12) (k := 1) rfl rfl rfl
theorem zd_315_52 : decode prog_14_method_24_code 52 = .ok (.iastore, 1) := zsh_g zdk_315 (r := 13) (k := 0) rfl rfl rfl
theorem zd_315_53 : decode prog_14_method_24_code 53 = .ok (.aload_n 0, 1) := zsh_g zdk_315 (r := 13) (k := 1) rfl rfl rfl
theorem zd_315_54 : decode prog_14_method_24_code 54 = .ok (.getfield 145, 3) := zsh_g zdk_315 (r := 13) (k := 2) rfl rfl rfl
theorem zd_315_57 : decode prog_14_method_24_code 57 = .ok (.iload 6, 2) := zsh_g zdk_315 (r := 14) (k := 0) rfl rfl rfl
theorem zd_315_59 : decode prog_14_method_24_code 59 = .ok (.iload 5, 2) := zsh_g zdk_315 (r := 14) (k := 1) rfl rfl rfl
theorem zd_315_61 : decode prog_14_method_24_code 61 = .ok (.iastore, 1) := zsh_g zdk_315 (r := 15) (k := 0) rfl rfl rfl
theorem zd_315_62 : decode prog_14_method_24_code 62 = .ok (.aload_n 0, 1) := zsh_g zdk_315 (r := 15) (k := 1) rfl rfl rfl
theorem zd_315_63 : decode prog_14_method_24_code 63 = .ok (.getfield 129, 3) := zsh_g zdk_315 (r := 15) (k := 2) rfl rfl rfl
theorem zd_315_66 : decode prog_14_method_24_code 66 = .ok (.aload_n 0, 1) := zsh_g zdk_315 (r := 16) (k := 0) rfl rfl rfl
theorem zd_315_67 : decode prog_14_method_24_code 67 = .ok (.getfield 589, 3) := zsh_g zdk_315 (r := 16) (k := 1) rfl rfl rfl
theorem zd_315_70 : decode prog_14_method_24_code 70 = .ok (.dup2, 1) := zsh_g zdk_315 (r := 17) (k := 0) rfl rfl rfl
theorem zd_315_71 : decode prog_14_method_24_code 71 = .ok (.iaload, 1) := zsh_g zdk_315 (r := 17) (k := 1) rfl rfl rfl
theorem zd_315_72 : decode prog_14_method_24_code 72 = .ok (.iconst 1, 1) := zsh_g zdk_315 (r := 18) (k := 0) rfl rfl rfl
theorem zd_315_73 : decode prog_14_method_24_code 73 = .ok (.iadd, 1) := zsh_g zdk_315 (r := 18) (k := 1) rfl rfl rfl
theorem zd_315_74 : decode prog_14_method_24_code 74 = .ok (.iastore, 1) := zsh_g zdk_315 (r := 18) (k := 2) rfl rfl rfl
def zdl_316 : List (List (Nat × Instr × Nat)) := [[(0, (.aload_n 0), 1), (1, (.bipush 123), 2), (3, (.invokevirtual 583), 3)], [(2, (.ifCond .eq 7), 3)], [(1, (.aload_n 0), 1), (2, (.invokevirtual 628), 3)], [(1, (.aload_n 0), 1), (2, (.bipush 123), 2)], [(0, (.invokevirtual 631), 3), (3, (.aload_n 0), 1)], [(0, (.getfield 271), 3), (3, (.aload_n 0), 1)], [(0, (.getfield 674), 3), (3, (.iload_n 1), 1)], [(0, .iastore, 1), (1, (.aload_n 0), 1), (2, (.getfield 274), 3)], [(1, (.aload_n 0), 1), (2, (.getfield 674), 3)], [(1, (.aload_n 0), 1), (2, (.getfield 592), 3)], [(1, .iastore, 1), (2, (.aload_n 0), 1), (3, .dup, 1)], [(0, (.getfield 674), 3), (3, (.iconst 1), 1)], [(0, .iadd, 1), (1, (.putfield 674), 3)]]
theorem zdk_316 : zsh_all 8 zdl_316 prog_14_method_43_code.data.toList = true := by decide +kernel
theorem zd_316_0 : decode prog_14_method_43_code 0 = .ok (.aload_n 0, 1) := zsh_g zdk_316 (r := 0) (k := 0) rfl rfl rfl
theorem zd_316_1 : decode prog_14_method_43_code 1 = .ok (.bipush 123, 2) := zsh_g zdk_316 (r := 0) (k := 1) rfl rfl rfl
theorem zd_316_3 : decode prog_14_method_43_code 3 = .ok (.invokevirtual 583, 3) := zsh_g zdk_316 (r := 0) (k := 2) rfl rfl rfl
theorem zd_316_6 : decode prog_14_method_43_code 6 = .ok (.ifCond .eq 7, 3) := zsh_g zdk_316 (r := 1) (k := 0) rfl rfl rfl
theorem zd_316_9 : decode prog_14_method_43_code 9 = .ok (.aload_n 0, 1) := zsh_g zdk_316 (r := 2) (k := 0) rfl rfl rfl
theorem zd_316_10 : decode prog_14_method_43_code 10 = .ok (.invokevirtual 628, 3) := zsh_g zdk_316 (r := 2) (k := 1) rfl rfl rfl
theorem zd_316_13 : decode prog_14_method_43_code 13 = .ok (.aload_n 0, 1) := zsh_g zdk_316 (r := 3) (k := 0) rfl rfl rfl
theorem zd_316_14 : decode prog_14_method_43_code 14 = .ok (.bipush 123, 2) := zsh_g zdk_316 (r := 3) (k := 1) rfl rfl rfl
theorem zd_316_16 : decode prog_14_method_43_code 16 = .ok (.invokevirtual 631, 3) := zsh_g zdk_316 (r := 4) (k := 0) rfl rfl rfl
theorem zd_316_19 : decode prog_14_method_43_code 19 = .ok (.aload_n 0, 1) := zsh_g zdk_316 (r := 4) (k := 1) rfl rfl rfl
theorem zd_316_20 : decode prog_14_method_43_code 20 = .ok (.getfield 271, 3) := zsh_g zdk_316 (r := 5) (k := 0) rfl rfl rfl
theorem zd_316_23 : decode prog_14_method_43_code 23 = .ok (.aload_n 0, 1) := zsh_g zdk_316 (r := 5) (k := 1) rfl rfl rfl
theorem zd_316_24 : decode prog_14_method_43_code 24 = .ok (.getfield 674, 3) := zsh_g zdk_316 (r := 6) (k := 0) rfl rfl rfl
theorem zd_316_27 : decode prog_14_method_43_code 27 = .ok (.iload_n 1, 1) := zsh_g zdk_316 (r := 6) (k := 1) rfl rfl rfl
theorem zd_316_28 : decode prog_14_method_43_code 28 = .ok (.iastore, 1) := zsh_g zdk_316 (r := 7) (k := 0) rfl rfl rfl
theorem zd_316_29 : decode prog_14_method_43_code 29 = .ok (.aload_n 0, 1) := zsh_g zdk_316 (r := 7) (k := 1) rfl rfl rfl
theorem zd_316_30 : decode prog_14_method_43_code 30 = .ok (.getfield 274, 3) := zsh_g zdk_316 (r := 7) (k := 2) rfl rfl rfl
theorem zd_316_33 : decode prog_14_method_43_code 33 = .ok (.aload_n 0, 1) := zsh_g zdk_316 (r := 8) (k := 0) rfl rfl rfl
theorem zd_316_34 : decode prog_14_method_43_code 34 = .ok (.getfield 674, 3) := zsh_g zdk_316 (r := 8) (k := 1) rfl rfl rfl
theorem zd_316_37 : decode prog_14_method_43_code 37 = .ok (.aload_n 0, 1) := zsh_g zdk_316 (r := 9) (k := 0) rfl rfl rfl
theorem zd_316_38 : decode prog_14_method_43_code 38 = .ok (.getfield 592, 3) := zsh_g zdk_316 (r := 9) (k := 1) rfl rfl rfl
theorem zd_316_41 : decode prog_14_method_43_code 41 = .ok (.iastore, 1) := zsh_g zdk_316 (r := 10) (k := 0) rfl rfl rfl
theorem zd_316_42 : decode prog_14_method_43_code 42 = .ok (.aload_n 0, 1) := zsh_g zdk_316 (r := 10) (k := 1) rfl rfl rfl
theorem zd_316_43 : decode prog_14_method_43_code 43 = .ok (.dup, 1) := zsh_g zdk_316 (r := 10) (k := 2) rfl rfl rfl
theorem zd_316_44 : decode prog_14_method_43_code 44 = .ok (.getfield 674, 3) := zsh_g zdk_316 (r := 11) (k := 0) rfl rfl rfl
theorem zd_316_47 : decode prog_14_method_43_code 47 = .ok (.iconst 1, 1) := zsh_g zdk_316 (r := 11) (k := 1) rfl rfl rfl
theorem zd_316_48 : decode prog_14_method_43_code 48 = .ok (.iadd, 1) := zsh_g zdk_316 (r := 12) (k := 0) rfl rfl rfl
theorem zd_316_49 : decode prog_14_method_43_code 49 = .ok (.putfield 674, 3) := zsh_g zdk_316 (r := 12) (k := 1) rfl rfl rfl
def zdl_317 : List (List (Nat × Instr × Nat)) := [[(0, (.aload_n 0), 1), (1, .dup, 1), (2, (.getfield 576), 3)], [(1, (.iconst 1), 1), (2, .iadd, 1), (3, (.putfield 576), 3)], [(2, (.aload_n 0), 1), (3, .dup, 1)], [(0, (.getfield 601), 3), (3, (.iconst 1), 1)], [(0, .isub, 1), (1, (.putfield 601), 3)], [(0, (.aload_n 0), 1), (1, .dup, 1), (2, (.getfield 674), 3)], [(1, (.iconst 1), 1), (2, .isub, 1), (3, (.putfield 674), 3)], [(2, (.aload_n 0), 1), (3, (.aload_n 0), 1)], [(0, (.getfield 274), 3), (3, (.aload_n 0), 1)], [(0, (.getfield 674), 3), (3, .iaload, 1)], [(0, (.putfield 592), 3), (3, (.aload_n 0), 1)], [(0, (.getfield 271), 3), (3, (.aload_n 0), 1)], [(0, (.getfield 674), 3), (3, .iaload, 1)], [], [], [], [], [], [], [], [(0, (.iconst 0), 1), (2, (.aload_n 0), 1), (3, (.sipush 143), 3)], [(2, (.invokevirtual 583), 3)], [(1, (.ifCond .eq 31), 3)], [(0, (.aload_n 0), 1), (1, .dup, 1), (2, (.getfield 576), 3)], [(1, (.iconst 1), 1), (2, .iadd, 1), (3, (.putfield 576), 3)], [(2, (.aload_n 0), 1), (3, (.bipush 14), 2)], [(1, (.iconst 0), 1), (2, (.iconst 0), 1), (3, (.iconst 0), 1)], [(0, (.iconst 0), 1), (1, (.invokevirtual 620), 3)], [(0, (.aload_n 0), 1), (1, (.iconst 2), 1), (2, (.invokevirtual 692), 3)], [(1, (.goto 13), 3)], [(0, (.aload_n 0), 1), (1, (.bipush 15), 2), (3, (.iconst 0), 1)], [(0, (.iconst 0), 1), (1, (.iconst 0), 1), (2, (.iconst 0), 1), (3, (.invokevirtual 620), 3)], [(2, (.iconst 1), 1)], [(0, (.aload_n 0), 1), (1, (.bipush 15), 2), (3, (.iconst 1), 1)], [(0, (.iconst 0), 1), (1, (.iconst 0), 1), (2, (.iconst 0), 1), (3, (.invokevirtual 620), 3)], [(2, (.iconst 1), 1)], [(0, (.aload_n 0), 1), (1, (.bipush 18), 2), (3, (.iconst 0), 1)], [(0, (.iconst 0), 1), (1, (.iconst 0), 1), (2, (.iconst 0), 1), (3, (.invokevirtual 620), 3)], [(2, (.iconst 1), 1)]]
theorem zdk_317 : zsh_all 8 zdl_317 prog_14_method_49_code.data.toList = true := by decide +kernel
theorem zd_317_0 : decode prog_14_method_49_code 0 = .ok (.aload_n 0, 1) := zsh_g zdk_317 (r := 0) (k := 0) rfl rfl rfl
theorem zd_317_1 : decode prog_14_method_49_code 1 = .ok (.dup, 1) := zsh_g zdk_317 (r := 0) (k := 1) rfl rfl rfl
theorem zd_317_2 : decode prog_14_method_49_code 2 = .ok (.getfield 576, 3) := zsh_g zdk_317 (r := 0) (k := 2) rfl rfl rfl
theorem zd_317_5 : decode prog_14_method_49_code 5 = .ok (.iconst 1, 1) := zsh_g zdk_317 (r := 1) (k := 0) rfl rfl rfl
theorem zd_317_6 : decode prog_14_method_49_code 6 = .ok (.iadd, 1) := zsh_g zdk_317 (r := 1) (k := 1) rfl rfl rfl
theorem zd_317_7 : decode prog_14_method_49_code 7 = .ok (.putfield 576, 3) := zsh_g zdk_317 (r := 1) (k := 2) rfl rfl rfl
theorem zd_317_10 : decode prog_14_method_49_code 10 = .ok (.aload_n 0, 1) := zsh_g zdk_317 (r := 2) (k := 0) rfl rfl rfl
theorem zd_317_11 : decode prog_14_method_49_code 11 = .ok (.dup, 1) := zsh_g zdk_317 (r := 2) (k := 1) rfl rfl rfl
theorem zd_317_12 : decode prog_14_method_49_code 12 = .ok (.getfield 601, 3) := zsh_g zdk_317 (r := 3) (k := 0) rfl rfl rfl
theorem zd_317_15 : decode prog_14_method_49_code 15 = .ok (.iconst 1, 1) := zsh_g zdk_317 (r := 3) (k := 1) rfl rfl rfl
theorem zd_317_16 : decode prog_14_method_49_code 16 = .ok (.isub, 1) := zsh_g zdk_317 (r := 4) (k := 0) rfl rfl rfl
theorem zd_317_17 : decode prog_14_method_49_code 17 = .ok (.putfield 601, 3) := zsh_g zdk_317 (r := 4) (k := 1) rfl rfl rfl
theorem zd_317_20 : decode prog_14_method_49_code 20 = .ok (.aload_n 0, 1) := zsh_g zdk_317 (r := 5) (k := 0) rfl rfl rfl
theorem zd_317_21 : decode prog_14_method_49_code 21 = .ok (.dup, 1) := zsh_g zdk_317 (r := 5) (k := 1) rfl rfl rfl
theorem zd_317_22 : decode prog_14_method_49_code 22 = .ok (.getfield 674, 3) := zsh_g zdk_317 (r := 5) (k := 2) rfl rfl rfl
theorem zd_317_25 : decode prog_14_method_49_code 25 = .ok (.iconst 1, 1) := zsh_g zdk_317 (r := 6) (k := 0) rfl rfl rfl
theorem zd_317_26 : decode prog_14_method_49_code 26 = .ok (.isub, 1) := zsh_g zdk_317 (r := 6) (k := 1) rfl rfl rfl
theorem zd_317_27 : decode prog_14_method_49_code 27 = .ok (.putfield 674, 3) := zsh_g zdk_317 (r := 6) (k := 2) rfl rfl rfl
theorem zd_317_30 : decode prog_14_method_49_code 30 = .ok (.aload_n 0, 1) := zsh_g zdk_317 (r := 7) (k := 0) rfl rfl rfl
theorem zd_317_31 : decode prog_14_method_49_code 31 = .ok (.aload_n 0, 1) := zsh_g zdk_317 (r := 7) (k := 1) rfl rfl rfl
theorem zd_317_32 : decode prog_14_method_49_code 32 = .ok (.getfield 274, 3) := zsh_g zdk_317 (r := 8) (k := 0) rfl rfl rfl
theorem zd_317_35 : decode prog_14_method_49_code 35 = .ok (.aload_n 0, 1) := zsh_g zdk_317 (r := 8) (k := 1) rfl rfl rfl
theorem zd_317_36 : decode prog_14_method_49_code 36 = .ok (.getfield 674, 3) := zsh_g zdk_317 (r := 9) (k := 0) rfl rfl rfl
theorem zd_317_39 : decode prog_14_method_49_code 39 = .ok (.iaload, 1) := zsh_g zdk_317 (r := 9) (k := 1) rfl rfl rfl
theorem zd_317_40 : decode prog_14_method_49_code 40 = .ok (.putfield 592, 3) := zsh_g zdk_317 (r := 10) (k := 0) rfl rfl rfl
theorem zd_317_43 : decode prog_14_method_49_code 43 = .ok (.aload_n 0, 1) := zsh_g zdk_317 (r := 10) (k := 1) rfl rfl rfl
theorem zd_317_44 : decode prog_14_method_49_code 44 = .ok (.getfield 271, 3) := zsh_g zdk_317 (r := 11) (k := 0) rfl rfl rfl
theorem zd_317_47 : decode prog_14_method_49_code 47 = .ok (.aload_n 0, 1) := zsh_g zdk_317 (r := 11) (k := 1) rfl rfl rfl
theorem zd_317_48 : decode prog_14_method_49_code 48 = .ok (.getfield 674, 3) := zsh_g zdk_317 (r := 12) (k := 0) rfl rfl rfl
theorem zd_317_51 : decode prog_14_method_49_code 51 = .ok (.iaload, 1) := zsh_g zdk_317 (r := 12) (k := 1) rfl rfl rfl
theorem zd_317_80 : decode prog_14_method_49_code 80 = .ok (.iconst 0, 1) := zsh_g zdk_317 (r := 20) (k := 0) rfl rfl rfl
theorem zd_317_82 : decode prog_14_method_49_code 82 = .ok (.aload_n 0, 1) := zsh_g zdk_317 (r := 20) (k := 1) rfl rfl rfl
theorem zd_317_83 : decode prog_14_method_49_code 83 = .ok (.sipush 143, 3) := zsh_g zdk_317 (r := 20) (k := 2) rfl rfl rfl
theorem zd_317_86 : decode prog_14_method_49_code 86 = .ok (.invokevirtual 583, 3) := zsh_g zdk_317 (r := 21) (k := 0) rfl rfl rfl
theorem zd_317_89 : decode prog_14_method_49_code 89 = .ok (.ifCond .eq 31, 3) := zsh_g zdk_317 (r := 22) (k := 0) rfl rfl rfl
theorem zd_317_92 : decode prog_14_method_49_code 92 = .ok (.aload_n 0, 1) := zsh_g zdk_317 (r := 23) (k := 0) rfl rfl rfl
theorem zd_317_93 : decode prog_14_method_49_code 93 = .ok (.dup, 1) := zsh_g zdk_317 (r := 23) (k := 1) rfl rfl rfl
theorem zd_317_94 : decode prog_14_method_49_code 94 = .ok (.getfield 576, 3) := zsh_g zdk_317 (r := 23) (k := 2) rfl rfl rfl
theorem zd_317_97 : decode prog_14_method_49_code 97 = .ok (.iconst 1, 1) := zsh_g zdk_317 (r := 24) (k := 0) rfl rfl rfl
theorem zd_317_98 : decode prog_14_method_49_code 98 = .ok (.iadd, 1) := zsh_g zdk_317 (r := 24) (k := 1) rfl rfl rfl
theorem zd_317_99 : decode prog_14_method_49_code 99 = .ok (.putfield 576, 3) := zsh_g zdk_317 (r := 24) (k := 2) rfl rfl rfl
theorem zd_317_102 : decode prog_14_method_49_code 102 = .ok (.aload_n 0, 1) := zsh_g zdk_317 (r := 25) (k := 0) rfl rfl rfl
theorem zd_317_103 : decode prog_14_method_49_code 103 = .ok (.bipush 14, 2) := zsh_g zdk_317 (r := 25) (k := 1) rfl rfl rfl
theorem zd_317_105 : decode prog_14_method_49_code 105 = .ok (.iconst 0, 1) := zsh_g zdk_317 (r := 26) (k := 0) rfl rfl rfl
theorem zd_317_106 : decode prog_14_method_49_code 106 = .ok (.iconst 0, 1) := zsh_g zdk_317 (r := 26) (k := 1) rfl rfl rfl
theorem zd_317_107 : decode prog_14_method_49_code 107 = .ok (.iconst 0, 1) := zsh_g zdk_317 (r := 26) (k := 2) rfl rfl rfl
theorem zd_317_108 : decode prog_14_method_49_code 108 = .ok (.iconst 0, 1) := zsh_g zdk_317 (r := 27) (k := 0) rfl rfl rfl
theorem zd_317_109 : decode prog_14_method_49_code 109 = .ok (.invokevirtual 620, 3) := zsh_g zdk_317 (r := 27) (k := 1) rfl rfl rfl
theorem zd_317_112 : decode prog_14_method_49_code 112 = .ok (.aload_n 0, 1) := zsh_g zdk_317 (r := 28) (k := 0) rfl rfl rfl
theorem zd_317_113 : decode prog_14_method_49_code 113 = .ok (.iconst 2, 1) := zsh_g zdk_317 (r := 28) (k := 1) rfl rfl rfl
theorem zd_317_114 : decode prog_14_method_49_code 114 = .ok (.invokevirtual 692, 3) := zsh_g zdk_317 (r := 28) (k := 2) rfl rfl rfl
theorem zd_317_117 : decode prog_14_method_49_code 117 = .ok (.goto 13, 3) := zsh_g zdk_317 (r := 29) (k := 0) rfl rfl rfl
theorem zd_317_120 : decode prog_14_method_49_code 120 = .ok (.aload_n 0, 1) := zsh_g zdk_317 (r := 30) (k := 0) rfl rfl rfl
theorem zd_317_121 : decode prog_14_method_49_code 121 = .ok (.bipush 15, 2) := zsh_g zdk_317 (r := 30) (k := 1) rfl rfl rfl
theorem zd_317_123 : decode prog_14_method_49_code 123 = .ok (.iconst 0, 1) := zsh_g zdk_317 (r := 30) (k := 2) rfl rfl rfl
theorem zd_317_124 : decode prog_14_method_49_code 124 = .ok (.iconst 0, 1) := zsh_g zdk_317 (r := 31) (k := 0) rfl rfl rfl
theorem zd_317_125 : decode prog_14_method_49_code 125 = .ok (.iconst 0, 1) := zsh_g zdk_317 (r := 31) (k := 1) rfl rfl rfl
theorem zd_317_126 : decode prog_14_method_49_code 126 = .ok (.iconst 0, 1) := zsh_g zdk_317 (r := 31) (k := 2) rfl rfl rfl
theorem zd_317_127 : decode prog_14_method_49_code 127 = .ok (.invokevirtual 620, 3) := zsh_g zdk_317 (r := 31) (k := 3) rfl rfl rfl
theorem zd_317_130 : decode prog_14_method_49_code 130 = .ok (.iconst 1, 1) := zsh_g zdk_317 (r := 32) (k := 0) rfl rfl rfl
theorem zd_317_132 : decode prog_14_method_49_code 132 = .ok (.aload_n 0, 1) := zsh_g zdk_317 (r := 33) (k := 0) rfl rfl rfl
theorem zd_317_133 : decode prog_14_method_49_code 133 = .ok (.bipush 15, 2) := zsh_g zdk_317 (r := 33) (k := 1) rfl rfl rfl
theorem zd_317_135 : decode prog_14_method_49_code 135 = .ok (.iconst 1, 1) := zsh_g zdk_317 (r := 33) (k := 2) rfl rfl rfl
theorem zd_317_136 : decode prog_14_method_49_code 136 = .ok (.iconst 0, 1) := zsh_g zdk_317 (r := 34) (k := 0) rfl rfl rfl
theorem zd_317_137 : decode prog_14_method_49_code 137 = .ok (.iconst 0, 1) := zsh_g zdk_317 (r := 34) (k := 1) rfl rfl rfl
theorem zd_317_138 : decode prog_14_method_49_code 138 = .ok (.iconst 0, 1) := zsh_g zdk_317 (r := 34) (k := 2) rfl rfl rfl
theorem zd_317_139 : decode prog_14_method_49_code 139 = .ok (.invokevirtual 620, 3) := zsh_g zdk_317 (r := 34) (k := 3) rfl rfl rfl
theorem zd_317_142 : decode prog_14_method_49_code 142 = .ok (.iconst 1, 1) := zsh_g zdk_317 (r := 35) (k := 0) rfl rfl rfl
theorem zd_317_144 : decode prog_14_method_49_code 144 = .ok (.aload_n 0, 1) := zsh_g zdk_317 (r := 36) (k := 0) rfl rfl rfl
theorem zd_317_145 : decode prog_14_method_49_code 145 = .ok (.bipush 18, 2) := zsh_g zdk_317 (r := 36) (k := 1) rfl rfl rfl
theorem zd_317_147 : decode prog_14_method_49_code 147 = .ok (.iconst 0, 1) := zsh_g zdk_317 (r := 36) (k := 2) rfl rfl rfl
theorem zd_317_148 : decode prog_14_method_49_code 148 = .ok (.iconst 0, 1) := zsh_g zdk_317 (r := 37) (k := 0) rfl rfl rfl
theorem zd_317_149 : decode prog_14_method_49_code 149 = .ok (.iconst 0, 1) := zsh_g zdk_317 (r := 37) (k := 1) rfl rfl rfl
theorem zd_317_150 : decode prog_14_method_49_code 150 = .ok (.iconst 0, 1) := zsh_g zdk_317 (r := 37) (k := 2) rfl rfl rfl
theorem zd_317_151 : decode prog_14_method_49_code 151 = .ok (.invokevirtual 620, 3) := zsh_g zdk_317 (r := 37) (k := 3) rfl rfl rfl
theorem zd_317_154 : decode prog_14_method_49_code 154 = .ok (.iconst 1, 1) := zsh_g zdk_317 (r := 38) (k := 0) rfl rfl rfl
theorem zd_317_52 : decode prog_14_method_49_code 52 = .ok (.tableswitch 92 0 2 #[28, 30, 80], 28) := by decide +kernel
def zdl_318 : List (List (Nat × Instr × Nat)) := [[(0, (.aload_n 0), 1), (1, (.sipush 140), 3)], [(0, (.invokevirtual 583), 3), (3, (.ifCond .eq 11), 3)], [(2, (.aload_n 0), 1), (3, (.iload_n 1), 1)], [(0, (.invokevirtual 695), 3), (3, (.goto 209), 3)], [(2, (.aload_n 0), 1), (3, (.iconst 1), 1)], [(0, (.invokevirtual 583), 3), (3, (.ifCond .eq 10), 3)], [(2, (.aload_n 0), 1), (3, (.invokevirtual 698), 3)], [(2, (.goto 194), 3)], [(1, (.aload_n 0), 1), (2, (.sipush 142), 3)], [(1, (.invokevirtual 583), 3)], [(0, (.ifCond .eq 34), 3), (3, (.aload_n 0), 1)], [(0, (.iconst 2), 1), (1, (.iconst 0), 1), (2, (.iconst 0), 1), (3, (.iconst 0), 1)], [(0, (.iconst 0), 1), (1, (.invokevirtual 620), 3)], [(0, (.aload_n 0), 1), (1, (.invokevirtual 701), 3)], [(0, (.aload_n 0), 1), (1, (.bipush 13), 2), (3, (.iconst 0), 1)], [(0, (.iconst 0), 1), (1, (.iconst 0), 1), (2, (.iconst 0), 1), (3, (.invokevirtual 620), 3)], [(2, (.aload_n 0), 1), (3, (.iconst 1), 1)], [(0, (.invokevirtual 692), 3), (3, (.goto 153), 3)], [(2, (.aload_n 0), 1), (3, (.sipush 144), 3)], [(2, (.invokevirtual 583), 3)], [(1, (.ifCond .eq 44), 3)], [(0, (.aload_n 0), 1), (1, (.iconst 2), 1), (2, (.iconst 0), 1), (3, (.iconst 0), 1)], [(0, (.iconst 0), 1), (1, (.iconst 0), 1), (2, (.invokevirtual 620), 3)], [(1, (.aload_n 0), 1), (2, (.bipush 16), 2)], [(0, (.iconst 0), 1), (1, (.iconst 0), 1), (2, (.iconst 0), 1), (3, (.iconst 0), 1)], [(0, (.invokevirtual 620), 3), (3, (.aload_n 0), 1)], [(0, (.invokevirtual 701), 3), (3, (.aload_n 0), 1)], [(0, (.bipush 17), 2), (2, (.iconst 0), 1), (3, (.iconst 0), 1)], [(0, (.iconst 0), 1), (1, (.iconst 0), 1), (2, (.invokevirtual 620), 3)], [(1, (.aload_n 0), 1), (2, (.iconst 3), 1), (3, (.invokevirtual 692), 3)], [(2, (.goto 102), 3)], [(1, (.aload_n 0), 1), (2, (.sipush 145), 3)], [(1, (.invokevirtual 583), 3)], [(0, (.ifCond .eq 46), 3), (3, (.aload_n 0), 1)], [(0, (.iconst 2), 1), (1, (.iconst 0), 1), (2, (.iconst 0), 1), (3, (.iconst 0), 1)], [(0, (.iconst 0), 1), (1, (.invokevirtual 620), 3)], [(0, (.aload_n 0), 1), (1, .dup, 1), (2, (.getfield 576), 3)], [(1, (.iconst 1), 1), (2, .iadd, 1), (3, (.putfield 576), 3)], [(2, (.aload_n 0), 1), (3, (.iconst 0), 1)], [(0, (.invokevirtual 689), 3), (3, (.aload_n 0), 1)], [(0, (.bipush 59), 2), (2, (.invokevirtual 631), 3)], [(1, (.aload_n 0), 1), (2, (.bipush 19), 2)], [(0, (.iconst 0), 1), (1, (.iconst 0), 1), (2, (.iconst 0), 1), (3, (.iconst 0), 1)], [(0, (.invokevirtual 620), 3), (3, (.goto 49), 3)], [(2, (.aload_n 0), 1), (3, (.sipush 146), 3)], [(2, (.invokevirtual 583), 3)], [(1, (.ifCond .eq 35), 3)], [(0, (.aload_n 0), 1), (1, (.iconst 2), 1), (2, (.iconst 0), 1), (3, (.iconst 0), 1)], [(0, (.iconst 0), 1), (1, (.iconst 0), 1), (2, (.invokevirtual 620), 3)], [(1, (.aload_n 0), 1), (2, (.invokevirtual 701), 3)], [(1, (.aload_n 0), 1), (2, (.bipush 59), 2)], [(0, (.invokevirtual 631), 3), (3, (.aload_n 0), 1)], [(0, (.bipush 20), 2), (2, (.iconst 0), 1), (3, (.iconst 0), 1)], [(0, (.iconst 0), 1), (1, (.iconst 0), 1), (2, (.invokevirtual 620), 3)], [(1, (.goto 7), 3)], [(0, (.aload_n 0), 1), (1, (.invokevirtual 586), 3)]]
theorem zdk_318 : zsh_all 8 zdl_318 prog_14_method_50_code.data.toList = true := by decide +kernel
theorem zd_318_0 : decode prog_14_method_50_code 0 = .ok (.aload_n 0, 1) := zsh_g zdk_318 (r := 0) (k := 0) rfl rfl rfl
theorem zd_318_1 : decode prog_14_method_50_code 1 = .ok (.sipush 140, 3) := zsh_g zdk_318 (r := 0) (k := 1) rfl rfl rfl
theorem zd_318_4 : decode prog_14_method_50_code 4 = .ok (.invokevirtual 583, 3) := zsh_g zdk_318 (r := 1) (k := 0) rfl rfl rfl
theorem zd_318_7 : decode prog_14_method_50_code 7 = .ok (.ifCond .eq 11, 3) := zsh_g zdk_318 (r := 1) (k := 1) rfl rfl rfl
theorem zd_318_10 : decode prog_14_method_50_code 10 = .ok (.aload_n 0, 1) := zsh_g zdk_318 (r := 2) (k := 0) rfl rfl rfl
theorem zd_318_11 : decode prog_14_method_50_code 11 = .ok (.iload_n 1, 1) := zsh_g zdk_318 (r := 2) (k := 1) rfl rfl rfl
theorem zd_318_12 : decode prog_14_method_50_code 12 = .ok (.invokevirtual 695, 3) := zsh_g zdk_318 (r := 3) (k := 0) rfl rfl rfl
theorem zd_318_15 : decode prog_14_method_50_code 15 = .ok (.goto 209, 3) := zsh_g zdk_318 (r := 3) (k := 1) rfl rfl rfl
theorem zd_318_18 : decode prog_14_method_50_code 18 = .ok (.aload_n 0, 1) := zsh_g zdk_318 (r := 4) (k := 0) rfl rfl rfl
theorem zd_318_19 : decode prog_14_method_50_code 19 = .ok (.iconst 1, 1) := zsh_g zdk_318 (r := 4) (k := 1) rfl rfl rfl
theorem zd_318_20 : decode prog_14_method_50_code 20 = .ok (.invokevirtual 583, 3) := zsh_g zdk_318 (r := 5) (k := 0) rfl rfl rfl
theorem zd_318_23 : decode prog_14_method_50_code 23 = .ok (.ifCond .eq 10, 3) := zsh_g zdk_318 (r := 5) (k := 1) rfl rfl rfl
theorem zd_318_26 : decode prog_14_method_50_code 26 = .ok (.aload_n 0, 1) := zsh_g zdk_318 (r := 6) (k := 0) rfl rfl rfl
theorem zd_318_27 : decode prog_14_method_50_code 27 = .ok (.invokevirtual 698, 3) := zsh_g zdk_318 (r := 6) (k := 1) rfl rfl rfl
theorem zd_318_30 : decode prog_14_method_50_code 30 = .ok (.goto 194, 3) := zsh_g zdk_318 (r := 7) (k := 0) rfl rfl rfl
theorem zd_318_33 : decode prog_14_method_50_code 33 = .ok (.aload_n 0, 1) := zsh_g zdk_318 (r := 8) (k := 0) rfl rfl rfl
theorem zd_318_34 : decode prog_14_method_50_code 34 = .ok (.sipush 142, 3) := zsh_g zdk_318 (r := 8) (k := 1) rfl rfl rfl
theorem zd_318_37 : decode prog_14_method_50_code 37 = .ok (.invokevirtual 583, 3) := zsh_g zdk_318 (r := 9) (k := 0) rfl rfl rfl
theorem zd_318_40 : decode prog_14_method_50_code 40 = .ok (.ifCond .eq 34, 3) := zsh_g zdk_318 (r := 10) (k := 0) rfl rfl rfl
theorem zd_318_43 : decode prog_14_method_50_code 43 = .ok (.aload_n 0, 1) := zsh_g zdk_318 (r := 10) (k := 1) rfl rfl rfl
theorem zd_318_44 : decode prog_14_method_50_code 44 = .ok (.iconst 2, 1) := zsh_g zdk_318 (r := 11) (k := 0) rfl rfl rfl
theorem zd_318_45 : decode prog_14_method_50_code 45 = .ok (.iconst 0, 1) := zsh_g zdk_318 (r := 11) (k := 1) rfl rfl rfl
theorem zd_318_46 : decode prog_14_method_50_code 46 = .ok (.iconst 0, 1) := zsh_g zdk_318 (r := 11) (k := 2) rfl rfl rfl
theorem zd_318_47 : decode prog_14_method_50_code 47 = .ok (.iconst 0, 1) := zsh_g zdk_318 (r := 11) (k := 3) rfl rfl rfl
theorem zd_318_48 : decode prog_14_method_50_code 48 = .ok (.iconst 0, 1) := zsh_g zdk_318 (r := 12) (k := 0) rfl rfl rfl
theorem zd_318_49 : decode prog_14_method_50_code 49 = .ok (.invokevirtual 620, 3) := zsh_g zdk_318 (r := 12) (k := 1) rfl rfl rfl
theorem zd_318_52 : decode prog_14_method_50_code 52 = .ok (.aload_n 0, 1) := zsh_g zdk_318 (r := 13) (k := 0) rfl rfl rfl
theorem zd_318_53 : decode prog_14_method_50_code 53 = .ok (.invokevirtual 701, 3) := zsh_g zdk_318 (r := 13) (k := 1) rfl rfl rfl
theorem zd_318_56 : decode prog_14_method_50_code 56 = .ok (.aload_n 0, 1) := zsh_g zdk_318 (r := 14) (k := 0) rfl rfl rfl
theorem zd_318_57 : decode prog_14_method_50_code 57 = .ok (.bipush 13, 2) := zsh_g zdk_318 (r := 14) (k := 1) rfl rfl rfl
theorem zd_318_59 : decode prog_14_method_50_code 59 = .ok (.iconst 0, 1) := zsh_g zdk_318 (r := 14) (k := 2) rfl rfl rfl
theorem zd_318_60 : decode prog_14_method_50_code 60 = .ok (.iconst 0, 1) := zsh_g zdk_318 (r := 15) (k := 0) rfl rfl rfl
theorem zd_318_61 : decode prog_14_method_50_code 61 = .ok (.iconst 0, 1) := zsh_g zdk_318 (r := 15) (k := 1) rfl rfl rfl
theorem zd_318_62 : decode prog_14_method_50_code 62 = .ok (.iconst 0, 1) := zsh_g zdk_318 (r := 15) (k := 2) rfl rfl rfl
theorem zd_318_63 : decode prog_14_method_50_code 63 = .ok (.invokevirtual 620, 3) := zsh_g zdk_318 (r := 15) (k := 3) rfl rfl rfl
theorem zd_318_66 : decode prog_14_method_50_code 66 = .ok (.aload_n 0, 1) := zsh_g zdk_318 (r := 16) (k := 0) rfl rfl rfl
theorem zd_318_67 : decode prog_14_method_50_code 67 = .ok (.iconst 1, 1) := zsh_g zdk_318 (r := 16) (k := 1) rfl rfl rfl
theorem zd_318_68 : decode prog_14_method_50_code 68 = .ok (.invokevirtual 692, 3) := zsh_g zdk_318 (r := 17) (k := 0) rfl rfl rfl
theorem zd_318_71 : decode prog_14_method_50_code 71 = .ok (.goto 153, 3) := zsh_g zdk_318 (r := 17) (k := 1) rfl rfl rfl
theorem zd_318_74 : decode prog_14_method_50_code 74 = .ok (.aload_n 0, 1) := zsh_g zdk_318 (r := 18) (k := 0) rfl rfl rfl
theorem zd_318_75 : decode prog_14_method_50_code 75 = .ok (.sipush 144, 3) := zsh_g zdk_318 (r := 18) (k := 1) rfl rfl rfl
theorem zd_318_78 : decode prog_14_method_50_code 78 = .ok (.invokevirtual 583, 3) := zsh_g zdk_318 (r := 19) (k := 0) rfl rfl rfl
theorem zd_318_81 : decode prog_14_method_50_code 81 = .ok (.ifCond .eq 44, 3) := zsh_g zdk_318 (r := 20) (k := 0) rfl rfl rfl
theorem zd_318_84 : decode prog_14_method_50_code 84 = .ok (.aload_n 0, 1) := zsh_g zdk_318 (r := 21) (k := 0) rfl rfl rfl
theorem zd_318_85 : decode prog_14_method_50_code 85 = .ok (.iconst 2, 1) := zsh_g zdk_318 (r := 21) (k := 1) rfl rfl rfl
theorem zd_318_86 : decode prog_14_method_50_code 86 = .ok (.iconst 0, 1) := zsh_g zdk_318 (r := 21) (k := 2) rfl rfl rfl
theorem zd_318_87 : decode prog_14_method_50_code 87 = .ok (.iconst 0, 1) := zsh_g zdk_318 (r := 21) (k := 3) rfl rfl rfl
theorem zd_318_88 : decode prog_14_method_50_code 88 = .ok (.iconst 0, 1) := zsh_g zdk_318 (r := 22) (k := 0) rfl rfl rfl
theorem zd_318_89 : decode prog_14_method_50_code 89 = .ok (.iconst 0, 1) := zsh_g zdk_318 (r := 22) (k := 1) rfl rfl rfl
theorem zd_318_90 : decode prog_14_method_50_code 90 = .ok (.invokevirtual 620, 3) := zsh_g zdk_318 (r := 22) (k := 2) rfl rfl rfl
theorem zd_318_93 : decode prog_14_method_50_code 93 = .ok (.aload_n 0, 1) := zsh_g zdk_318 (r := 23) (k := 0) rfl rfl rfl
theorem zd_318_94 : decode prog_14_method_50_code 94 = .ok (.bipush 16, 2) := zsh_g zdk_318 (r := 23) (k := 1) rfl rfl rfl
theorem zd_318_96 : decode prog_14_method_50_code 96 = .ok (.iconst 0, 1) := zsh_g zdk_318 (r := 24) (k := 0) rfl rfl rfl
theorem zd_318_97 : decode prog_14_method_50_code 97 = .ok (.iconst 0, 1) := zsh_g zdk_318 (r := 24) (k := 1) rfl rfl rfl
theorem zd_318_98 : decode prog_14_method_50_code 98 = .ok (.iconst 0, 1) := zsh_g zdk_318 (r := 24) (k := 2) rfl rfl rfl
theorem zd_318_99 : decode prog_14_method_50_code 99 = .ok (.iconst 0, 1) := zsh_g zdk_318 (r := 24) (k := 3) rfl rfl rfl
theorem zd_318_100 : decode prog_14_method_50_code 100 = .ok (.invokevirtual 620, 3) := zsh_g zdk_318 (r := 25) (k := 0) rfl rfl rfl
theorem zd_318_103 : decode prog_14_method_50_code 103 = .ok (.aload_n 0, 1) := zsh_g zdk_318 (r := 25) (k := 1) rfl rfl rfl
theorem zd_318_104 : decode prog_14_method_50_code 104 = .ok (.invokevirtual 701, 3) := zsh_g zdk_318 (r := 26) (k := 0) rfl rfl rfl
theorem zd_318_107 : decode prog_14_method_50_code 107 = .ok (.aload_n 0, 1) := zsh_g zdk_318 (r := 26) (k := 1) rfl rfl rfl
theorem zd_318_108 : decode prog_14_method_50_code 108 = .ok (.bipush 17, 2) := zsh_g zdk_318 (r := 27) (k := 0) rfl rfl rfl
theorem zd_318_110 : decode prog_14_method_50_code 110 = .ok (.iconst 0, 1) := zsh_g zdk_318 (r := 27) (k := 1) rfl rfl rfl
theorem zd_318_111 : decode prog_14_method_50_code 111 = .ok (.iconst 0, 1) := zsh_g zdk_318 (r := 27) (k := 2) rfl rfl rfl
theorem zd_318_112 : decode prog_14_method_50_code 112 = .ok (.iconst 0, 1) := zsh_g zdk_318 (r := 28) (k := 0) rfl rfl rfl
theorem zd_318_113 : decode prog_14_method_50_code 113 = .ok (.iconst 0, 1) := zsh_g zdk_318 (r := 28) (k := 1) rfl rfl rfl
theorem zd_318_114 : decode prog_14_method_50_code 114 = .ok (.invokevirtual 620, 3) := zsh_g zdk_318 (r := 28) (k := 2) rfl rfl rfl
theorem zd_318_117 : decode prog_14_method_50_code 117 = .ok (.aload_n 0, 1) := zsh_g zdk_318 (r := 29) (k := 0) rfl rfl rfl
theorem zd_318_118 : decode prog_14_method_50_code 118 = .ok (.iconst 3, 1) := zsh_g zdk_318 (r := 29) (k := 1) rfl rfl rfl
theorem zd_318_119 : decode prog_14_method_50_code 119 = .ok (.invokevirtual 692, 3) := zsh_g zdk_318 (r := 29) (k := 2) rfl rfl rfl
theorem zd_318_122 : decode prog_14_method_50_code 122 = .ok (.goto 102, 3) := zsh_g zdk_318 (r := 30) (k := 0) rfl rfl rfl
theorem zd_318_125 : decode prog_14_method_50_code 125 = .ok (.aload_n 0, 1) := zsh_g zdk_318 (r := 31) (k := 0) rfl rfl rfl
theorem zd_318_126 : decode prog_14_method_50_code 126 = .ok (.sipush 145, 3) := zsh_g zdk_318 (r := 31) (k := 1) rfl rfl rfl
theorem zd_318_129 : decode prog_14_method_50_code 129 = .ok (.invokevirtual 583, 3) := zsh_g zdk_318 (r := 32) (k := 0) rfl rfl rfl
theorem zd_318_132 : decode prog_14_method_50_code 132 = .ok (.ifCond .eq 46, 3) := zsh_g zdk_318 (r := 33) (k := 0) rfl rfl rfl
theorem zd_318_135 : decode prog_14_method_50_code 135 = .ok (.aload_n 0, 1) := zsh_g zdk_318 (r := 33) (k := 1) rfl rfl rfl
theorem zd_318_136 : decode prog_14_method_50_code 136 = .ok (.iconst 2, 1) := zsh_g zdk_318 (r := 34) (k := 0) rfl rfl rfl
theorem zd_318_137 : decode prog_14_method_50_code 137 = .ok (.iconst 0, 1) := zsh_g zdk_318 (r := 34) (k := 1) rfl rfl rfl
theorem zd_318_138 : decode prog_14_method_50_code 138 = .ok (.iconst 0, 1) := zsh_g zdk_318 (r := 34) (k := 2) rfl rfl rfl
theorem zd_318_139 : decode prog_14_method_50_code 139 = .ok (.iconst 0, 1) := zsh_g zdk_318 (r := 34) (k := 3) rfl rfl rfl
theorem zd_318_140 : decode prog_14_method_50_code 140 = .ok (.iconst 0, 1) := zsh_g zdk_318 (r := 35) (k := 0) rfl rfl rfl
theorem zd_318_141 : decode prog_14_method_50_code 141 = .ok (.invokevirtual 620, 3) := zsh_g zdk_318 (r := 35) (k := 1) rfl rfl rfl
theorem zd_318_144 : decode prog_14_method_50_code 144 = .ok (.aload_n 0, 1) := zsh_g zdk_318 (r := 36) (k := 0) rfl rfl rfl
theorem zd_318_145 : decode prog_14_method_50_code 145 = .ok (.dup, 1) := zsh_g zdk_318 (r := 36) (k := 1) rfl rfl rfl
theorem zd_318_146 : decode prog_14_method_50_code 146 = .ok (.getfield 576, 3) := zsh_g zdk_318 (r := 36) (k := 2) rfl rfl rfl
theorem zd_318_149 : decode prog_14_method_50_code 149 = .ok (.iconst 1, 1) := zsh_g zdk_318 (r := 37) (k := 0) rfl rfl rfl
theorem zd_318_150 : decode prog_14_method_50_code 150 = .ok (.iadd, 1) := zsh_g zdk_318 (r := 37) (k := 1) rfl rfl rfl
theorem zd_318_151 : decode prog_14_method_50_code 151 = .ok (.putfield 576, 3) := zsh_g zdk_318 (r := 37) (k := 2) rfl rfl rfl
theorem zd_318_154 : decode prog_14_method_50_code 154 = .ok (.aload_n 0, 1) := zsh_g zdk_318 (r := 38) (k := 0) rfl rfl rfl
theorem zd_318_155 : decode prog_14_method_50_code 155 = .ok (.iconst 0, 1) := zsh_g zdk_318 (r := 38) (k := 1) rfl rfl rfl
theorem zd_318_156 : decode prog_14_method_50_code 156 = .ok (.invokevirtual 689, 3) := zsh_g zdk_318 (r := 39) (k := 0) rfl rfl rfl
theorem zd_318_159 : decode prog_14_method_50_code 159 = .ok (.aload_n 0, 1) := zsh_g zdk_318 (r := 39) (k := 1) rfl rfl rfl
theorem zd_318_160 : decode prog_14_method_50_code 160 = .ok (.bipush 59, 2) := zsh_g zdk_318 (r := 40) (k := 0) rfl rfl rfl
theorem zd_318_162 : decode prog_14_method_50_code 162 = .ok (.invokevirtual 631, 3) := zsh_g zdk_318 (r := 40) (k := 1) rfl rfl rfl
theorem zd_318_165 : decode prog_14_method_50_code 165 = .ok (.aload_n 0, 1) := zsh_g zdk_318 (r := 41) (k := 0) rfl rfl rfl
theorem zd_318_166 : decode prog_14_method_50_code 166 = .ok (.bipush 19, 2) := zsh_g zdk_318 (r := 41) (k := 1) rfl rfl rfl
theorem zd_318_168 : decode prog_14_method_50_code 168 = .ok (.iconst 0, 1) := zsh_g zdk_318 (r := 42) (k := 0) rfl rfl rfl
theorem zd_318_169 : decode prog_14_method_50_code 169 = .ok (.iconst 0, 1) := zsh_g zdk_318 (r := 42) (k := 1) rfl rfl rfl
theorem zd_318_170 : decode prog_14_method_50_code 170 = .ok (.iconst 0, 1) := zsh_g zdk_318 (r := 42) (k := 2) rfl rfl rfl
theorem zd_318_171 : decode prog_14_method_50_code 171 = .ok (.iconst 0, 1) := zsh_g zdk_318 (r := 42) (k := 3) rfl rfl rfl
theorem zd_318_172 : decode prog_14_method_50_code 172 = .ok (.invokevirtual 620, 3) := zsh_g zdk_318 (r := 43) (k := 0) rfl rfl rfl
theorem zd_318_175 : decode prog_14_method_50_code 175 = .ok (.goto 49, 3) := zsh_g zdk_318 (r := 43) (k := 1) rfl rfl rfl
theorem zd_318_178 : decode prog_14_method_50_code 178 = .ok (.aload_n 0, 1) := zsh_g zdk_318 (r := 44) (k := 0) rfl rfl rfl
theorem zd_318_179 : decode prog_14_method_50_code 179 = .ok (.sipush 146, 3) := zsh_g zdk_318 (r := 44) (k := 1) rfl rfl rfl
theorem zd_318_182 : decode prog_14_method_50_code 182 = .ok (.invokevirtual 583, 3) := zsh_g zdk_318 (r := 45) (k := 0) rfl rfl rfl
theorem zd_318_185 : decode prog_14_method_50_code 185 = .ok (.ifCond .eq 35, 3) := zsh_g zdk_318 (r := 46) (k := 0) rfl rfl rfl
theorem zd_318_188 : decode prog_14_method_50_code 188 = .ok (.aload_n 0, 1) := zsh_g zdk_318 (r := 47) (k := 0) rfl rfl rfl
theorem zd_318_189 : decode prog_14_method_50_code 189 = .ok (.iconst 2, 1) := zsh_g zdk_318 (r := 47) (k := 1) rfl rfl rfl
theorem zd_318_190 : decode prog_14_method_50_code 190 = .ok (.iconst 0, 1) := zsh_g zdk_318 (r := 47) (k := 2) rfl rfl rfl
theorem zd_318_191 : decode prog_14_method_50_code 191 = .ok (.iconst 0, 1) := zsh_g zdk_318 (r := 47) (k := 3) rfl rfl rfl
theorem zd_318_192 : decode prog_14_method_50_code 192 = .ok (.iconst 0, 1) := zsh_g zdk_318 (r := 48) (k := 0) rfl rfl rfl
theorem zd_318_193 : decode prog_14_method_50_code 193 = .ok (.iconst 0, 1) := zsh_g zdk_318 (r := 48) (k := 1) rfl rfl rfl
theorem zd_318_194 : decode prog_14_method_50_code 194 = .ok (.invokevirtual 620, 3) := zsh_g zdk_318 (r := 48) (k := 2) rfl rfl rfl
theorem zd_318_197 : decode prog_14_method_50_code 197 = .ok (.aload_n 0, 1) := zsh_g zdk_318 (r := 49) (k := 0) rfl rfl rfl
theorem zd_318_198 : decode prog_14_method_50_code 198 = .ok (.invokevirtual 701, 3) := zsh_g zdk_318 (r := 49) (k := 1) rfl rfl rfl
theorem zd_318_201 : decode prog_14_method_50_code 201 = .ok (.aload_n 0, 1) := zsh_g zdk_318 (r := 50) (k := 0) rfl rfl rfl
theorem zd_318_202 : decode prog_14_method_50_code 202 = .ok (.bipush 59, 2) := zsh_g zdk_318 (r := 50) (k := 1) rfl rfl rfl
theorem zd_318_204 : decode prog_14_method_50_code 204 = .ok (.invokevirtual 631, 3) := zsh_g zdk_318 (r := 51) (k := 0) rfl rfl rfl
theorem zd_318_207 : decode prog_14_method_50_code 207 = .ok (.aload_n 0, 1) := zsh_g zdk_318 (r := 51) (k := 1) rfl rfl rfl
theorem zd_318_208 : decode prog_14_method_50_code 208 = .ok (.bipush 20, 2) := zsh_g zdk_318 (r := 52) (k := 0) rfl rfl rfl
theorem zd_318_210 : decode prog_14_method_50_code 210 = .ok (.iconst 0, 1) := zsh_g zdk_318 (r := 52) (k := 1) rfl rfl rfl
theorem zd_318_211 : decode prog_14_method_50_code 211 = .ok (.iconst 0, 1) := zsh_g zdk_318 (r := 52) (k := 2) rfl rfl rfl
theorem zd_318_212 : decode prog_14_method_50_code 212 = .ok (.iconst 0, 1) := zsh_g zdk_318 (r := 53) (k := 0) rfl rfl rfl
theorem zd_318_213 : decode prog_14_method_50_code 213 = .ok (.iconst 0, 1) := zsh_g zdk_318 (r := 53) (k := 1) rfl rfl rfl
theorem zd_318_214 : decode prog_14_method_50_code 214 = .ok (.invokevirtual 620, 3) := zsh_g zdk_318 (r := 53) (k := 2) rfl rfl rfl
theorem zd_318_217 : decode prog_14_method_50_code 217 = .ok (.goto 7, 3) := zsh_g zdk_318 (r := 54) (k := 0) rfl rfl rfl
theorem zd_318_220 : decode prog_14_method_50_code 220 = .ok (.aload_n 0, 1) := zsh_g zdk_318 (r := 55) (k := 0) rfl rfl rfl
theorem zd_318_221 : decode prog_14_method_50_code 221 = .ok (.invokevirtual 586, 3) := zsh_g zdk_318 (r := 55) (k := 1) rfl rfl rfl
def zdl_319 : List (List (Nat × Instr × Nat)) := [[(0, (.lload_n 1), 1), (1, (.lstore_n 3), 1), (2, (.lload_n 3), 1), (3, (.lconst 0), 1)], [(0, .lcmp, 1), (1, (.ifCond .le 21), 3)], [(0, (.aload_n 0), 1), (1, (.lload_n 3), 1), (2, (.ldc2_w 523), 3)], [(1, .land, 1), (2, .l2i, 1), (3, (.invokevirtual 731), 3)], [(2, (.lload_n 3), 1), (3, (.bipush 8), 2)], [(1, .lshr, 1), (2, (.lstore_n 3), 1), (3, (.goto (-21)), 3)]]
theorem zdk_319 : zsh_all 8 zdl_319 prog_14_method_58_code.data.toList = true := by decide +kernel
theorem zd_319_0 : decode prog_14_method_58_code 0 = .ok (.lload_n 1, 1) := zsh_g zdk_319 (r := 0) (k := 0) rfl rfl rfl
theorem zd_319_1 : decode prog_14_method_58_code 1 = .ok (.lstore_n 3, 1) := zsh_g zdk_319 (r := 0) (k := 1) rfl rfl rfl
theorem zd_319_2 : decode prog_14_method_58_code 2 = .ok (.lload_n 3, 1) := zsh_g zdk_319 (r := 0) (k := 2) rfl rfl rfl
theorem zd_319_3 : decode prog_14_method_58_code 3 = .ok (.lconst 0, 1) := zsh_g zdk_319 (r := 0) (k := 3) rfl rfl rfl
theorem zd_319_4 : decode prog_14_method_58_code 4 = .ok (.lcmp, 1) := zsh_g zdk_319 (r := 1) (k := 0) rfl rfl rfl
theorem zd_319_5 : decode prog_14_method_58_code 5 = .ok (.ifCond .le 21, 3) := zsh_g zdk_319 (r := 1) (k := 1) rfl rfl rfl
theorem zd_319_8 : decode prog_14_method_58_code 8 = .ok (.aload_n 0, 1) := zsh_g zdk_319 (r := 2) (k := 0) rfl rfl rfl
theorem zd_319_9 : decode prog_14_method_58_code 9 = .ok (.lload_n 3, 1) := zsh_g zdk_319 (r := 2) (k := 1) rfl rfl rfl
theorem zd_319_10 : decode prog_14_method_58_code 10 = .ok (.ldc2_w 523, 3) := zsh_g zdk_319 (r := 2) (k := 2) rfl rfl rfl
theorem zd_319_13 : decode prog_14_method_58_code 13 = .ok (.land, 1) := zsh_g zdk_319 (r := 3) (k := 0) rfl rfl rfl
theorem zd_319_14 : decode prog_14_method_58_code 14 = .ok (.l2i, 1) := zsh_g zdk_319 (r := 3) (k := 1) rfl rfl rfl
theorem zd_319_15 : decode prog_14_method_58_code 15 = .ok (.invokevirtual 731, 3) := zsh_g zdk_319 (r := 3) (k := 2) rfl rfl rfl
theorem zd_319_18 : decode prog_14_method_58_code 18 = .ok (.lload_n 3, 1) := zsh_g zdk_319 (r := 4) (k := 0) rfl rfl rfl
theorem zd_319_19 : decode prog_14_method_58_code 19 = .ok (.bipush 8, 2) := zsh_g zdk_319 (r := 4) (k := 1) rfl rfl rfl
theorem zd_319_21 : decode prog_14_method_58_code 21 = .ok (.lshr, 1) := zsh_g zdk_319 (r := 5) (k := 0) rfl rfl rfl
theorem zd_319_22 : decode prog_14_method_58_code 22 = .ok (.lstore_n 3, 1) := zsh_g zdk_319 (r := 5) (k := 1) rfl rfl rfl
theorem zd_319_23 : decode prog_14_method_58_code 23 = .ok (.goto (-21), 3) := zsh_g zdk_319 (r := 5) (k := 2) rfl rfl rfl
def zdl_320 : List (List (Nat × Instr × Nat)) := [[(0, (.aload_n 0), 1), (1, (.iload_n 1), 1), (2, (.putfield 781), 3)], [(1, (.aload_n 0), 1), (2, (.aload_n 0), 1), (3, (.getfield 208), 3)], [(2, (.iload_n 1), 1), (3, .iaload, 1)], [(0, (.iconst 0), 1), (1, (.iconst 0), 1), (2, (.invokevirtual 784), 3)], [(1, (.aload_n 0), 1), (2, (.aload_n 0), 1), (3, (.getfield 208), 3)], [(2, (.iload_n 1), 1), (3, .iaload, 1)], [(0, (.aload_n 0), 1), (1, (.getfield 211), 3)], [(0, (.iload_n 1), 1), (1, .iaload, 1), (2, (.invokevirtual 788), 3)], [(1, (.aload_n 0), 1), (2, (.invokevirtual 750), 3)], [(1, (.aload_n 0), 1), (2, (.aload_n 0), 1), (3, (.invokevirtual 791), 3)], [(2, (.putfield 794), 3)], [(1, (.aload_n 0), 1), (2, (.getfield 211), 3)], [(1, (.iload_n 1), 1), (2, .iaload, 1), (3, (.iconst 3), 1)], [(0, .isub, 1), (1, (.istore_n 2), 1), (2, (.aload_n 0), 1), (3, (.getfield 220), 3)], [(2, (.iload_n 1), 1), (3, .iaload, 1)], [(0, (.istore_n 3), 1), (1, (.aload_n 0), 1), (2, (.iload_n 1), 1), (3, (.invokevirtual 797), 3)], [(2, (.istore 4), 2)], [(0, (.aload_n 0), 1), (1, (.ldc2_w 800), 3)], [(0, (.invokevirtual 761), 3), (3, (.aload_n 0), 1)], [(0, (.ldc2_w 756), 3), (3, (.invokevirtual 758), 3)], [(2, (.aload_n 0), 1), (3, (.invokevirtual 767), 3)], [(2, (.aload_n 0), 1), (3, (.ldc2_w 756), 3)], [(2, (.invokevirtual 758), 3)], [(1, (.aload_n 0), 1), (2, (.invokevirtual 767), 3)], [(1, (.aload_n 0), 1), (2, (.iload 4), 2)], [(0, .ineg, 1), (1, (.invokevirtual 744), 3)], [(0, (.aload_n 0), 1), (1, (.invokevirtual 750), 3)], [(0, (.aload_n 0), 1), (1, (.ldc2_w 802), 3)], [(0, (.invokevirtual 761), 3), (3, (.aload_n 0), 1)], [(0, (.ldc2_w 804), 3), (3, (.invokevirtual 758), 3)], [(2, (.aload_n 0), 1), (3, (.invokevirtual 767), 3)], [(2, (.aload_n 0), 1), (3, (.ldc2_w 756), 3)], [(2, (.invokevirtual 758), 3)], [(1, (.aload_n 0), 1), (2, (.invokevirtual 767), 3)], [(1, (.aload_n 0), 1), (2, (.ldc2_w 806), 3)], [(1, (.invokevirtual 758), 3)], [(0, (.aload_n 0), 1), (1, (.invokevirtual 750), 3)], [(0, (.aload_n 0), 1), (1, (.ldc2_w 808), 3)], [(0, (.invokevirtual 761), 3), (3, (.aload_n 0), 1)], [(0, (.ldc2_w 804), 3), (3, (.invokevirtual 758), 3)], [(2, (.aload_n 0), 1), (3, (.invokevirtual 767), 3)], [(2, (.aload_n 0), 1), (3, (.ldc2_w 810), 3)], [(2, (.invokevirtual 740), 3)], [(1, (.aload_n 0), 1), (2, (.invokevirtual 750), 3)], [(1, (.aload_n 0), 1), (2, (.ldc2_w 812), 3)], [(1, (.invokevirtual 761), 3)], [(0, (.aload_n 0), 1), (1, (.ldc2_w 814), 3)], [(0, (.invokevirtual 758), 3), (3, (.aload_n 0), 1)], [(0, (.invokevirtual 767), 3), (3, (.aload_n 0), 1)], [(0, (.iload 4), 2), (2, (.iconst 4), 1), (3, .isub, 1)], [(0, (.invokevirtual 816), 3), (3, (.iconst 0), 1)], [(0, (.istore 5), 2), (2, (.iload 5), 2)], [(0, (.iload_n 2), 1), (1, (.if_icmp .ge 34), 3)], [(0, (.aload_n 0), 1), (1, (.ldc2_w 812), 3)], [(0, (.invokevirtual 761), 3), (3, (.aload_n 0), 1)], [(0, (.iload 5), 2), (2, (.invokevirtual 819), 3)], [(1, (.aload_n 0), 1), (2, (.invokevirtual 767), 3)], [(1, (.aload_n 0), 1), (2, (.iconst 4), 1), (3, (.iload 5), 2)], [(1, .imul, 1), (2, (.invokevirtual 816), 3)], [(1, (.iinc 5 1), 3)], [(0, (.goto (-34)), 3), (3, (.iload_n 3), 1)], [(0, (.ifCond .le 210), 3), (3, (.aload_n 0), 1)], [(0, (.invokevirtual 791), 3), (3, (.istore 5), 2)], [(1, (.aload_n 0), 1), (2, (.ldc2_w 800), 3)], [(1, (.invokevirtual 761), 3)], [(0, (.aload_n 0), 1), (1, (.ldc2_w 822), 3)], [(0, (.invokevirtual 758), 3), (3, (.aload_n 0), 1)], [(0, (.invokevirtual 767), 3), (3, (.aload_n 0), 1)], [(0, (.ldc2_w 756), 3), (3, (.invokevirtual 758), 3)], [(2, (.aload_n 0), 1), (3, (.invokevirtual 767), 3)], [(2, (.aload_n 0), 1), (3, (.iconst 4), 1)], [(0, (.iload_n 2), 1), (1, .imul, 1), (2, (.invokevirtual 744), 3)], [(1, (.aload_n 0), 1), (2, (.invokevirtual 750), 3)], [(1, (.aload_n 0), 1), (2, (.ldc2_w 800), 3)], [(1, (.invokevirtual 761), 3)], [(0, (.aload_n 0), 1), (1, (.ldc2_w 804), 3)], [(0, (.invokevirtual 758), 3), (3, (.aload_n 0), 1)], [(0, (.invokevirtual 767), 3), (3, (.aload_n 0), 1)], [(0, (.ldc2_w 756), 3), (3, (.invokevirtual 758), 3)], [(2, (.aload_n 0), 1), (3, (.invokevirtual 767), 3)], [(2, (.aload_n 0), 1), (3, (.iconst 4), 1)], [(0, (.iload_n 2), 1), (1, (.iload_n 3), 1), (2, .iadd, 1), (3, .imul, 1)], [(0, (.invokevirtual 744), 3), (3, (.aload_n 0), 1)], [(0, (.invokevirtual 750), 3), (3, (.aload_n 0), 1)], [(0, (.iload 5), 2), (2, (.invokevirtual 824), 3)], [(1, (.aload_n 0), 1), (2, (.ldc2_w 812), 3)], [(1, (.invokevirtual 761), 3)], [(0, (.aload_n 0), 1), (1, (.ldc2_w 826), 3)], [(0, (.invokevirtual 758), 3), (3, (.aload_n 0), 1)], [(0, (.ldc2_w 828), 3), (3, (.invokevirtual 740), 3)], [(2, (.aload_n 0), 1), (3, (.ldc2_w 822), 3)], [(2, (.invokevirtual 758), 3)], [(1, (.aload_n 0), 1), (2, (.bipush 41), 2)], [(0, (.invokevirtual 731), 3), (3, (.aload_n 0), 1)], [(0, (.invokevirtual 750), 3), (3, (.aload_n 0), 1)], [(0, (.ldc2_w 800), 3), (3, (.invokevirtual 761), 3)], [(2, (.aload_n 0), 1), (3, (.ldc2_w 822), 3)], [(2, (.invokevirtual 758), 3)], [(1, (.aload_n 0), 1), (2, (.invokevirtual 767), 3)], [(1, (.aload_n 0), 1), (2, (.ldc2_w 822), 3)], [(1, (.invokevirtual 758), 3)], [(0, (.aload_n 0), 1), (1, (.ldc2_w 830), 3)], [(0, (.invokevirtual 740), 3), (3, (.aload_n 0), 1)], [(0, (.invokevirtual 750), 3), (3, (.aload_n 0), 1)], [(0, (.ldc2_w 832), 3), (3, (.invokevirtual 761), 3)], [(2, (.aload_n 0), 1), (3, (.ldc2_w 822), 3)], [(2, (.invokevirtual 758), 3)], [(1, (.aload_n 0), 1), (2, (.invokevirtual 767), 3)], [(1, (.aload_n 0), 1), (2, (.ldc2_w 804), 3)], [(1, (.invokevirtual 758), 3)], [(0, (.aload_n 0), 1), (1, (.invokevirtual 767), 3)], [(0, (.aload_n 0), 1), (1, (.iload 5), 2), (3, (.invokevirtual 747), 3)], [(2, (.aload_n 0), 1), (3, (.invokevirtual 750), 3)]]
theorem zdk_320 : zsh_all 8 zdl_320 prog_14_method_75_code.data.toList = true := by decide +kernel
theorem zd_320_0 : decode prog_14_method_75_code 0 = .ok (.aload_n 0, 1) := zsh_g zdk_320 (r := 0) (k := 0) rfl rfl rfl
theorem zd_320_1 : decode prog_14_method_75_code 1 = .ok (.iload_n 1, 1) := zsh_g zdk_320 (r := 0) (k := 1) rfl rfl rfl
theorem zd_320_2 : decode prog_14_method_75_code 2 = .ok (.putfield 781, 3) := zsh_g zdk_320 (r := 0) (k := 2) rfl rfl rfl
theorem zd_320_5 : decode prog_14_method_75_code 5 = .ok (.aload_n 0, 1) := zsh_g zdk_320 (r := 1) (k := 0) rfl rfl rfl
theorem zd_320_6 : decode prog_14_method_75_code 6 = .ok (.aload_n 0, 1) := zsh_g zdk_320 (r := 1) (k := 1) rfl rfl rfl
theorem zd_320_7 : decode prog_14_method_75_code 7 = .ok (.getfield 208, 3) := zsh_g zdk_320 (r := 1) (k := 2) rfl rfl rfl
theorem zd_320_10 : decode prog_14_method_75_code 10 = .ok (.iload_n 1, 1) := zsh_g zdk_320 (r := 2) (k := 0) rfl rfl rfl
theorem zd_320_11 : decode prog_14_method_75_code 11 = .ok (.iaload, 1) := zsh_g zdk_320 (r := 2) (k := 1) rfl rfl rfl
theorem zd_320_12 : decode prog_14_method_75_code 12 = .ok (.iconst 0, 1) := zsh_g zdk_320 (r := 3) (k := 0) rfl rfl rfl
theorem zd_320_13 : decode prog_14_method_75_code 13 = .ok (.iconst 0, 1) := zsh_g zdk_320 (r := 3) (k := 1) rfl rfl rfl
theorem zd_320_14 : decode prog_14_method_75_code 14 = .ok (.invokevirtual 784, 3) := zsh_g zdk_320 (r := 3) (k := 2) rfl rfl rfl
theorem zd_320_17 : decode prog_14_method_75_code 17 = .ok (.aload_n 0, 1) := zsh_g zdk_320 (r := 4) (k := 0) rfl rfl rfl
theorem zd_320_18 : decode prog_14_method_75_code 18 = .ok (.aload_n 0, 1) := zsh_g zdk_320 (r := 4) (k := 1) rfl rfl rfl
theorem zd_320_19 : decode prog_14_method_75_code 19 = .ok (.getfield 208, 3) := zsh_g zdk_320 (r := 4) (k := 2) rfl rfl rfl
theorem zd_320_22 : decode prog_14_method_75_code 22 = .ok (.iload_n 1, 1) := zsh_g zdk_320 (r := 5) (k := 0) rfl rfl rfl
theorem zd_320_23 : decode prog_14_method_75_code 23 = .ok (.iaload, 1) := zsh_g zdk_320 (r := 5) (k := 1) rfl rfl rfl
theorem zd_320_24 : decode prog_14_method_75_code 24 = .ok (.aload_n 0, 1) := zsh_g zdk_320 (r := 6) (k := 0) rfl rfl rfl
theorem zd_320_25 : decode prog_14_method_75_code 25 = .ok (.getfield 211, 3) := zsh_g zdk_320 (r := 6) (k := 1) rfl rfl rfl
theorem zd_320_28 : decode prog_14_method_75_code 28 = .ok (.iload_n 1, 1) := zsh_g zdk_320 (r := 7) (k := 0) rfl rfl rfl
theorem zd_320_29 : decode prog_14_method_75_code 29 = .ok (.iaload, 1) := zsh_g zdk_320 (r := 7) (k := 1) rfl rfl rfl
theorem zd_320_30 : decode prog_14_method_75_code 30 = .ok (.invokevirtual 788, 3) := zsh_g zdk_320 (r := 7) (k := 2) rfl rfl rfl
theorem zd_320_33 : decode prog_14_method_75_code 33 = .ok (.aload_n 0, 1) := zsh_g zdk_320 (r := 8) (k := 0) rfl rfl rfl
theorem zd_320_34 : decode prog_14_method_75_code 34 = .ok (.invokevirtual 750, 3) := zsh_g zdk_320 (r := 8) (k := 1) rfl rfl rfl
theorem zd_320_37 : decode prog_14_method_75_code 37 = .ok (.aload_n 0, 1) := zsh_g zdk_320 (r := 9) (k := 0) rfl rfl rfl
theorem zd_320_38 : decode prog_14_method_75_code 38 = .ok (.aload_n 0, 1) := zsh_g zdk_320 (r := 9) (k := 1) rfl rfl rfl
theorem zd_320_39 : decode prog_14_method_75_code 39 = .ok (.invokevirtual 791, 3) := zsh_g zdk_320 (r := 9) (k := 2) rfl rfl rfl
theorem zd_320_42 : decode prog_14_method_75_code 42 = .ok (.putfield 794, 3) := zsh_g zdk_320 (r := 10) (k := 0) rfl rfl rfl
theorem zd_320_45 : decode prog_14_method_75_code 45 = .ok (.aload_n 0, 1) := zsh_g zdk_320 (r := 11) (k := 0) rfl rfl rfl
theorem zd_320_46 : decode prog_14_method_75_code 46 = .ok (.getfield 211, 3) := zsh_g zdk_320 (r := 11) (k := 1) rfl rfl rfl
theorem zd_320_49 : decode prog_14_method_75_code 49 = .ok (.iload_n 1, 1) := zsh_g zdk_320 (r := 12) (k := 0) rfl rfl rfl
theorem zd_320_50 : decode prog_14_method_75_code 50 = .ok (.iaload, 1) := zsh_g zdk_320 (r := 12) (k := 1) rfl rfl rfl
theorem zd_320_51 : decode prog_14_method_75_code 51 = .ok (.iconst 3, 1) := zsh_g zdk_320 (r := 12) (k := 2) rfl rfl rfl
theorem zd_320_52 : decode prog_14_method_75_code 52 = .ok (.isub, 1) := zsh_g zdk_320 (r := 13) (k := 0) rfl rfl rfl
theorem zd_320_53 : decode prog_14_method_75_code 53 = .ok (.istore_n 2, 1) := zsh_g zdk_320 (r := 13) (k := 1) rfl rfl rfl
theorem zd_320_54 : decode prog_14_method_75_code 54 = .ok (.aload_n 0, 1) := zsh_g zdk_320 (r := 13) (k := 2) rfl rfl rfl
theorem zd_320_55 : decode prog_14_method_75_code 55 = .ok (.getfield 220, 3) := zsh_g zdk_320 (r := 13) (k := 3) rfl rfl rfl
theorem zd_320_58 : decode prog_14_method_75_code 58 = .ok (.iload_n 1, 1) := zsh_g zdk_320 (r := 14) (k := 0) rfl rfl rfl
theorem zd_320_59 : decode prog_14_method_75_code 59 = .ok (.iaload, 1) := zsh_g zdk_320 (r := 14) (k := 1) rfl rfl rfl
theorem zd_320_60 : decode prog_14_method_75_code 60 = .ok (.istore_n 3, 1) := zsh_g zdk_320 (r := 15) (k := 0) rfl rfl rfl
theorem zd_320_61 : decode prog_14_method_75_code 61 = .ok (.aload_n 0, 1) := zsh_g zdk_320 (r := 15) (k := 1) rfl rfl rfl
theorem zd_320_62 : decode prog_14_method_75_code 62 = .ok (.iload_n 1, 1) := zsh_g zdk_320 (r := 15) (k := 2) rfl rfl rfl
theorem zd_320_63 : decode prog_14_method_75_code 63 = .ok (.invokevirtual 797, 3) := zsh_g zdk_320 (r := 15) (k := 3) rfl rfl rfl
theorem zd_320_66 : decode prog_14_method_75_code 66 = .ok (.istore 4, 2) := zsh_g zdk_320 (r := 16) (k := 0) rfl rfl rfl
theorem zd_320_68 : decode prog_14_method_75_code 68 = .ok (.aload_n 0, 1) := zsh_g zdk_320 (r := 17) (k := 0) rfl rfl rfl
theorem zd_320_69 : decode prog_14_method_75_code 69 = .ok (.ldc2_w 800, 3) := zsh_g zdk_320 (r := 17) (k := 1) rfl rfl rfl
theorem zd_320_72 : decode prog_14_method_75_code 72 = .ok (.invokevirtual 761, 3) := zsh_g zdk_320 (r := 18) (k := 0) rfl rfl rfl
theorem zd_320_75 : decode prog_14_method_75_code 75 = .ok (.aload_n 0, 1) := zsh_g zdk_320 (r := 18) (k := 1) rfl rfl rfl
theorem zd_320_76 : decode prog_14_method_75_code 76 = .ok (.ldc2_w 756, 3) := zsh_g zdk_320 (r := 19) (k := 0) rfl rfl rfl
theorem zd_320_79 : decode prog_14_method_75_code 79 = .ok (.invokevirtual 758, 3) := zsh_g zdk_320 (r := 19) (k := 1) rfl rfl rfl
theorem zd_320_82 : decode prog_14_method_75_code 82 = .ok (.aload_n 0, 1) := zsh_g zdk_320 (r := 20) (k := 0) rfl rfl rfl
theorem zd_320_83 : decode prog_14_method_75_code 83 = .ok (.invokevirtual 767, 3) := zsh_g zdk_320 (r := 20) (k := 1) rfl rfl rfl
theorem zd_320_86 : decode prog_14_method_75_code 86 = .ok (.aload_n 0, 1) := zsh_g zdk_320 (r := 21) (k := 0) rfl rfl rfl
theorem zd_320_87 : decode prog_14_method_75_code 87 = .ok (.ldc2_w 756, 3) := zsh_g zdk_320 (r := 21) (k := 1) rfl rfl rfl
theorem zd_320_90 : decode prog_14_method_75_code 90 = .ok (.invokevirtual 758, 3) := zsh_g zdk_320 (r := 22) (k := 0) rfl rfl rfl
theorem zd_320_93 : decode prog_14_method_75_code 93 = .ok (.aload_n 0, 1) := zsh_g zdk_320 (r := 23) (k := 0) rfl rfl rfl
theorem zd_320_94 : decode prog_14_method_75_code 94 = .ok (.invokevirtual 767, 3) := zsh_g zdk_320 (r := 23) (k := 1) rfl rfl rfl
theorem zd_320_97 : decode prog_14_method_75_code 97 = .ok (.aload_n 0, 1) := zsh_g zdk_320 (r := 24) (k := 0) rfl rfl rfl
theorem zd_320_98 : decode prog_14_method_75_code 98 = .ok (.iload 4, 2) := zsh_g zdk_320 (r := 24) (k := 1) rfl rfl rfl
theorem zd_320_100 : decode prog_14_method_75_code 100 = .ok (.ineg, 1) := zsh_g zdk_320 (r := 25) (k := 0) rfl rfl rfl
theorem zd_320_101 : decode prog_14_method_75_code 101 = .ok (.invokevirtual 744, 3) := zsh_g zdk_320 (r := 25) (k := 1) rfl rfl rfl
theorem zd_320_104 : decode prog_14_method_75_code 104 = .ok (.aload_n 0, 1) := zsh_g zdk_320 (r := 26) (k := 0) rfl rfl rfl
theorem zd_320_105 : decode prog_14_method_75_code 105 = .ok (.invokevirtual 750, 3) := zsh_g zdk_320 (r := 26) (k := 1) rfl rfl rfl
theorem zd_320_108 : decode prog_14_method_75_code 108 = .ok (.aload_n 0, 1) := zsh_g zdk_320 (r := 27) (k := 0) rfl rfl rfl
theorem zd_320_109 : decode prog_14_method_75_code 109 = .ok (.ldc2_w 802, 3) := zsh_g zdk_320 (r := 27) (k := 1) rfl rfl rfl
theorem zd_320_112 : decode prog_14_method_75_code 112 = .ok (.invokevirtual 761, 3) := zsh_g zdk_320 (r := 28) (k := 0) rfl rfl rfl
theorem zd_320_115 : decode prog_14_method_75_code 115 = .ok (.aload_n 0, 1) := zsh_g zdk_320 (r := 28) (k := 1) rfl rfl rfl
theorem zd_320_116 : decode prog_14_method_75_code 116 = .ok (.ldc2_w 804, 3) := zsh_g zdk_320 (r := 29) (k := 0) rfl rfl rfl
theorem zd_320_119 : decode prog_14_method_75_code 119 = .ok (.invokevirtual 758, 3) := zsh_g zdk_320 (r := 29) (k := 1) rfl rfl rfl
theorem zd_320_122 : decode prog_14_method_75_code 122 = .ok (.aload_n 0, 1) := zsh_g zdk_320 (r := 30) (k := 0) rfl rfl rfl
theorem zd_320_123 : decode prog_14_method_75_code 123 = .ok (.invokevirtual 767, 3) := zsh_g zdk_320 (r := 30) (k := 1) rfl rfl rfl
theorem zd_320_126 : decode prog_14_method_75_code 126 = .ok (.aload_n 0, 1) := zsh_g zdk_320 (r := 31) (k := 0) rfl rfl rfl
theorem zd_320_127 : decode prog_14_method_75_code 127 = .ok (.ldc2_w 756, 3) := zsh_g zdk_320 (r := 31) (k := 1) rfl rfl rfl
theorem zd_320_130 : decode prog_14_method_75_code 130 = .ok (.invokevirtual 758, 3) := zsh_g zdk_320 (r := 32) (k := 0) rfl rfl rfl
theorem zd_320_133 : decode prog_14_method_75_code 133 = .ok (.aload_n 0, 1) := zsh_g zdk_320 (r := 33) (k := 0) rfl rfl rfl
theorem zd_320_134 : decode prog_14_method_75_code 134 = .ok (.invokevirtual 767, 3) := zsh_g zdk_320 (r := 33) (k := 1) rfl rfl rfl
theorem zd_320_137 : decode prog_14_method_75_code 137 = .ok (.aload_n 0, 1) := zsh_g zdk_320 (r := 34) (k := 0) rfl rfl rfl
theorem zd_320_138 : decode prog_14_method_75_code 138 = .ok (.ldc2_w 806, 3) := zsh_g zdk_320 (r := 34) (k := 1) rfl rfl rfl
theorem zd_320_141 : decode prog_14_method_75_code 141 = .ok (.invokevirtual 758, 3) := zsh_g zdk_320 (r := 35) (k := 0) rfl rfl rfl
theorem zd_320_144 : decode prog_14_method_75_code 144 = .ok (.aload_n 0, 1) := zsh_g zdk_320 (r := 36) (k := 0) rfl rfl rfl
theorem zd_320_145 : decode prog_14_method_75_code 145 = .ok (.invokevirtual 750, 3) := zsh_g zdk_320 (r := 36) (k := 1) rfl rfl rfl
theorem zd_320_148 : decode prog_14_method_75_code 148 = .ok (.aload_n 0, 1) := zsh_g zdk_320 (r := 37) (k := 0) rfl rfl rfl
theorem zd_320_149 : decode prog_14_method_75_code 149 = .ok (.ldc2_w 808, 3) := zsh_g zdk_320 (r := 37) (k := 1) rfl rfl rfl
theorem zd_320_152 : decode prog_14_method_75_code 152 = .ok (.invokevirtual 761, 3) := zsh_g zdk_320 (r := 38) (k := 0) rfl rfl rfl
theorem zd_320_155 : decode prog_14_method_75_code 155 = .ok (.aload_n 0, 1) := zsh_g zdk_320 (r := 38) (k := 1) rfl rfl rfl
theorem zd_320_156 : decode prog_14_method_75_code 156 = .ok (.ldc2_w 804, 3) := zsh_g zdk_320 (r := 39) (k := 0) rfl rfl rfl
theorem zd_320_159 : decode prog_14_method_75_code 159 = .ok (.invokevirtual 758, 3) := zsh_g zdk_320 (r := 39) (k := 1) rfl rfl rfl
theorem zd_320_162 : decode prog_14_method_75_code 162 = .ok (.aload_n 0, 1) := zsh_g zdk_320 (r := 40) (k := 0) rfl rfl rfl
theorem zd_320_163 : decode prog_14_method_75_code 163 = .ok (.invokevirtual 767, 3) := zsh_g zdk_320 (r := 40) (k := 1) rfl rfl rfl
theorem zd_320_166 : decode prog_14_method_75_code 166 = .ok (.aload_n 0, 1) := zsh_g zdk_320 (r := 41) (k := 0) rfl rfl rfl
theorem zd_320_167 : decode prog_14_method_75_code 167 = .ok (.ldc2_w 810, 3) := zsh_g zdk_320 (r := 41) (k := 1) rfl rfl rfl
theorem zd_320_170 : decode prog_14_method_75_code 170 = .ok (.invokevirtual 740, 3) := zsh_g zdk_320 (r := 42) (k := 0) rfl rfl rfl
theorem zd_320_173 : decode prog_14_method_75_code 173 = .ok (.aload_n 0, 1) := zsh_g zdk_320 (r := 43) (k := 0) rfl rfl rfl
theorem zd_320_174 : decode prog_14_method_75_code 174 = .ok (.invokevirtual 750, 3) := zsh_g zdk_320 (r := 43) (k := 1) rfl rfl rfl
theorem zd_320_177 : decode prog_14_method_75_code 177 = .ok (.aload_n 0, 1) := zsh_g zdk_320 (r := 44) (k := 0) rfl rfl rfl
theorem zd_320_178 : decode prog_14_method_75_code 178 = .ok (.ldc2_w 812, 3) := zsh_g zdk_320 (r := 44) (k := 1) rfl rfl rfl
theorem zd_320_181 : decode prog_14_method_75_code 181 = .ok (.invokevirtual 761, 3) := zsh_g zdk_320 (r := 45) (k := 0) rfl rfl rfl
theorem zd_320_184 : decode prog_14_method_75_code 184 = .ok (.aload_n 0, 1) := zsh_g zdk_320 (r := 46) (k := 0) rfl rfl rfl
theorem zd_320_185 : decode prog_14_method_75_code 185 = .ok (.ldc2_w 814, 3) := zsh_g zdk_320 (r := 46) (k := 1) rfl rfl rfl
theorem zd_320_188 : decode prog_14_method_75_code 188 = .ok (.invokevirtual 758, 3) := zsh_g zdk_320 (r := 47) (k := 0) rfl rfl rfl
theorem zd_320_191 : decode prog_14_method_75_code 191 = .ok (.aload_n 0, 1) := zsh_g zdk_320 (r := 47) (k := 1) rfl rfl rfl
theorem zd_320_192 : decode prog_14_method_75_code 192 = .ok (.invokevirtual 767, 3) := zsh_g zdk_320 (r := 48) (k := 0) rfl rfl rfl
theorem zd_320_195 : decode prog_14_method_75_code 195 = .ok (.aload_n 0, 1) := zsh_g zdk_320 (r := 48) (k := 1) rfl rfl rfl
theorem zd_320_196 : decode prog_14_method_75_code 196 = .ok (.iload 4, 2) := zsh_g zdk_320 (r := 49) (k := 0) rfl rfl rfl
theorem zd_320_198 : decode prog_14_method_75_code 198 = .ok (.iconst 4, 1) := zsh_g zdk_320 (r := 49) (k := 1) rfl rfl rfl
theorem zd_320_199 : decode prog_14_method_75_code 199 = .ok (.isub, 1) := zsh_g zdk_320 (r := 49) (k := 2) rfl rfl rfl
theorem zd_320_200 : decode prog_14_method_75_code 200 = .ok (.invokevirtual 816, 3) := zsh_g zdk_320 (r := 50) (k := 0) rfl rfl rfl
theorem zd_320_203 : decode prog_14_method_75_code 203 = .ok (.iconst 0, 1) := zsh_g zdk_320 (r := 50) (k := 1) rfl rfl rfl
theorem zd_320_204 : decode prog_14_method_75_code 204 = .ok (.istore 5, 2) := zsh_g zdk_320 (r := 51) (k := 0) rfl rfl rfl
theorem zd_320_206 : decode prog_14_method_75_code 206 = .ok (.iload 5, 2) := zsh_g zdk_320 (r := 51) (k := 1) rfl rfl rfl
theorem zd_320_208 : decode prog_14_method_75_code 208 = .ok (.iload_n 2, 1) := zsh_g zdk_320 (r := 52) (k := 0) rfl rfl rfl
theorem zd_320_209 : decode prog_14_method_75_code 209 = .ok (.if_icmp .ge 34, 3) := zsh_g zdk_320 (r := 52) (k := 1) rfl rfl rfl
theorem zd_320_212 : decode prog_14_method_75_code 212 = .ok (.aload_n 0, 1) := zsh_g zdk_320 (r := 53) (k := 0) rfl rfl rfl
theorem zd_320_213 : decode prog_14_method_75_code 213 = .ok (.ldc2_w 812, 3) := zsh_g zdk_320 (r := 53) (k := 1) rfl rfl rfl
theorem zd_320_216 : decode prog_14_method_75_code 216 = .ok (.invokevirtual 761, 3) := zsh_g zdk_320 (r := 54) (k := 0) rfl rfl rfl
theorem zd_320_219 : decode prog_14_method_75_code 219 = .ok (.aload_n 0, 1) := zsh_g zdk_320 (r := 54) (k := 1) rfl rfl rfl
theorem zd_320_220 : decode prog_14_method_75_code 220 = .ok (.iload 5, 2) := zsh_g zdk_320 (r := 55) (k := 0) rfl rfl rfl
theorem zd_320_222 : decode prog_14_method_75_code 222 = .ok (.invokevirtual 819, 3) := zsh_g zdk_320 (r := 55) (k := 1) rfl rfl rfl
theorem zd_320_225 : decode prog_14_method_75_code 225 = .ok (.aload_n 0, 1) := zsh_g zdk_320 (r := 56) (k := 0) rfl rfl rfl
theorem zd_320_226 : decode prog_14_method_75_code 226 = .ok (.invokevirtual 767, 3) := zsh_g zdk_320 (r := 56) (k := 1) rfl rfl rfl
theorem zd_320_229 : decode prog_14_method_75_code 229 = .ok (.aload_n 0, 1) := zsh_g zdk_320 (r := 57) (k := 0) rfl rfl rfl
theorem zd_320_230 : decode prog_14_method_75_code 230 = .ok (.iconst 4, 1) := zsh_g zdk_320 (r := 57) (k := 1) rfl rfl rfl
theorem zd_320_231 : decode prog_14_method_75_code 231 = .ok (.iload 5, 2) := zsh_g zdk_320 (r := 57) (k := 2) rfl rfl rfl
theorem zd_320_233 : decode prog_14_method_75_code 233 = .ok (.imul, 1) := zsh_g zdk_320 (r := 58) (k := 0) rfl rfl rfl
theorem zd_320_234 : decode prog_14_method_75_code 234 = .ok (.invokevirtual 816, 3) := zsh_g zdk_320 (r := 58) (k := 1) rfl rfl rfl
theorem zd_320_237 : decode prog_14_method_75_code 237 = .ok (.iinc 5 1, 3) := zsh_g zdk_320 (r := 59) (k := 0) rfl rfl rfl
theorem zd_320_240 : decode prog_14_method_75_code 240 = .ok (.goto (-34), 3) := zsh_g zdk_320 (r := 60) (k := 0) rfl rfl rfl
theorem zd_320_243 : decode prog_14_method_75_code 243 = .ok (.iload_n 3, 1) := zsh_g zdk_320 (r := 60) (k := 1) rfl rfl rfl
theorem zd_320_244 : decode prog_14_method_75_code 244 = .ok (.ifCond .le 210, 3) := zsh_g zdk_320 (r := 61) (k := 0) rfl rfl rfl
theorem zd_320_247 : decode prog_14_method_75_code 247 = .ok (.aload_n 0, 1) := zsh_g zdk_320 (r := 61) (k := 1) rfl rfl rfl
theorem zd_320_248 : decode prog_14_method_75_code 248 = .ok (.invokevirtual 791, 3) := zsh_g zdk_320 (r := 62) (k := 0) rfl rfl rfl
theorem zd_320_251 : decode prog_14_method_75_code 251 = .ok (.istore 5, 2) := zsh_g zdk_320 (r := 62) (k := 1) rfl rfl rfl
theorem zd_320_253 : decode prog_14_method_75_code 253 = .ok (.aload_n 0, 1) := zsh_g zdk_320 (r := 63) (k := 0) rfl rfl rfl
theorem zd_320_254 : decode prog_14_method_75_code 254 = .ok (.ldc2_w 800, 3) := zsh_g zdk_320 (r := 63) (k := 1) rfl rfl rfl
theorem zd_320_257 : decode prog_14_method_75_code 257 = .ok (.invokevirtual 761, 3) := zsh_g zdk_320 (r := 64) (k := 0) rfl rfl rfl
theorem zd_320_260 : decode prog_14_method_75_code 260 = .ok (.aload_n 0, 1) := zsh_g zdk_320 (r := 65) (k := 0) rfl rfl rfl
theorem zd_320_261 : decode prog_14_method_75_code 261 = .ok (.ldc2_w 822, 3) := zsh_g zdk_320 (r := 65) (k := 1) rfl rfl rfl
theorem zd_320_264 : decode prog_14_method_75_code 264 = .ok (.invokevirtual 758, 3) := zsh_g zdk_320 (r := 66) (k := 0) rfl rfl rfl
theorem zd_320_267 : decode prog_14_method_75_code 267 = .ok (.aload_n 0, 1) := zsh_g zdk_320 (r := 66) (k := 1) rfl rfl rfl
theorem zd_320_268 : decode prog_14_method_75_code 268 = .ok (.invokevirtual 767, 3) := zsh_g zdk_320 (r := 67) (k := 0) rfl rfl rfl
theorem zd_320_271 : decode prog_14_method_75_code 271 = .ok (.aload_n 0, 1) := zsh_g zdk_320 (r := 67) (k := 1) rfl rfl rfl
theorem zd_320_272 : decode prog_14_method_75_code 272 = .ok (.ldc2_w 756, 3) := zsh_g zdk_320 (r := 68) (k := 0) rfl rfl rfl
theorem zd_320_275 : decode prog_14_method_75_code 275 = .ok (.invokevirtual 758, 3) := zsh_g zdk_320 (r := 68) (k := 1) rfl rfl rfl
theorem zd_320_278 : decode prog_14_method_75_code 278 = .ok (.aload_n 0, 1) := zsh_g zdk_320 (r := 69) (k := 0) rfl rfl rfl
theorem zd_320_279 : decode prog_14_method_75_code 279 = .ok (.invokevirtual 767, 3) := zsh_g zdk_320 (r := 69) (k := 1) rfl rfl rfl
theorem zd_320_282 : decode prog_14_method_75_code 282 = .ok (.aload_n 0, 1) := zsh_g zdk_320 (r := 70) (k := 0) rfl rfl rfl
theorem zd_320_283 : decode prog_14_method_75_code 283 = .ok (.iconst 4, 1) := zsh_g zdk_320 (r := 70) (k := 1) rfl rfl rfl
theorem zd_320_284 : decode prog_14_method_75_code 284 = .ok (.iload_n 2, 1) := zsh_g zdk_320 (r := 71) (k := 0) rfl rfl rfl
theorem zd_320_285 : decode prog_14_method_75_code 285 = .ok (.imul, 1) := zsh_g zdk_320 (r := 71) (k := 1) rfl rfl rfl
theorem zd_320_286 : decode prog_14_method_75_code 286 = .ok (.invokevirtual 744, 3) := zsh_g zdk_320 (r := 71) (k := 2) rfl rfl rfl
theorem zd_320_289 : decode prog_14_method_75_code 289 = .ok (.aload_n 0, 1) := zsh_g zdk_320 (r := 72) (k := 0) rfl rfl rfl
theorem zd_320_290 : decode prog_14_method_75_code 290 = .ok (.invokevirtual 750, 3) := zsh_g zdk_320 (r := 72) (k := 1) rfl rfl rfl
theorem zd_320_293 : decode prog_14_method_75_code 293 = .ok (.aload_n 0, 1) := zsh_g zdk_320 (r := 73) (k := 0) rfl rfl rfl
theorem zd_320_294 : decode prog_14_method_75_code 294 = .ok (.ldc2_w 800, 3) := zsh_g zdk_320 (r := 73) (k := 1) rfl rfl rfl
theorem zd_320_297 : decode prog_14_method_75_code 297 = .ok (.invokevirtual 761, 3) := zsh_g zdk_320 (r := 74) (k := 0) rfl rfl rfl
theorem zd_320_300 : decode prog_14_method_75_code 300 = .ok (.aload_n 0, 1) := zsh_g zdk_320 (r := 75) (k := 0) rfl rfl rfl
theorem zd_320_301 : decode prog_14_method_75_code 301 = .ok (.ldc2_w 804, 3) := zsh_g zdk_320 (r := 75) (k := 1) rfl rfl rfl
theorem zd_320_304 : decode prog_14_method_75_code 304 = .ok (.invokevirtual 758, 3) := zsh_g zdk_320 (r := 76) (k := 0) rfl rfl rfl
theorem zd_320_307 : decode prog_14_method_75_code 307 = .ok (.aload_n 0, 1) := zsh_g zdk_320 (r := 76) (k := 1) rfl rfl rfl
theorem zd_320_308 : decode prog_14_method_75_code 308 = .ok (.invokevirtual 767, 3) := zsh_g zdk_320 (r := 77) (k := 0) rfl rfl rfl
theorem zd_320_311 : decode prog_14_method_75_code 311 = .ok (.aload_n 0, 1) := zsh_g zdk_320 (r := 77) (k := 1) rfl rfl rfl
theorem zd_320_312 : decode prog_14_method_75_code 312 = .ok (.ldc2_w 756, 3) := zsh_g zdk_320 (r := 78) (k := 0) rfl rfl rfl
theorem zd_320_315 : decode prog_14_method_75_code 315 = .ok (.invokevirtual 758, 3) := zsh_g zdk_320 (r := 78) (k := 1) rfl rfl rfl
theorem zd_320_318 : decode prog_14_method_75_code 318 = .ok (.aload_n 0, 1) := zsh_g zdk_320 (r := 79) (k := 0) rfl rfl rfl
theorem zd_320_319 : decode prog_14_method_75_code 319 = .ok (.invokevirtual 767, 3) := zsh_g zdk_320 (r := 79) (k := 1) rfl rfl rfl
theorem zd_320_322 : decode prog_14_method_75_code 322 = .ok (.aload_n 0, 1) := zsh_g zdk_320 (r := 80) (k := 0) rfl rfl rfl
theorem zd_320_323 : decode prog_14_method_75_code 323 = .ok (.iconst 4, 1) := zsh_g zdk_320 (r := 80) (k := 1) rfl rfl rfl
theorem zd_320_324 : decode prog_14_method_75_code 324 = .ok (.iload_n 2, 1) := zsh_g zdk_320 (r := 81) (k := 0) rfl rfl rfl
theorem zd_320_325 : decode prog_14_method_75_code 325 = .ok (.iload_n 3, 1) := zsh_g zdk_320 (r := 81) (k := 1) rfl rfl rfl
theorem zd_320_326 : decode prog_14_method_75_code 326 = .ok (.iadd, 1) := zsh_g zdk_320 (r := 81) (k := 2) rfl rfl rfl
theorem zd_320_327 : decode prog_14_method_75_code 327 = .ok (.imul, 1) := zsh_g zdk_320 (r := 81) (k := 3) rfl rfl rfl
theorem zd_320_328 : decode prog_14_method_75_code 328 = .ok (.invokevirtual 744, 3) := zsh_g zdk_320 (r := 82) (k := 0) rfl rfl rfl
theorem zd_320_331 : decode prog_14_method_75_code 331 = .ok (.aload_n 0, 1) := zsh_g zdk_320 (r := 82) (k := 1) rfl rfl rfl
theorem zd_320_332 : decode prog_14_method_75_code 332 = .ok (.invokevirtual 750, 3) := zsh_g zdk_320 (r := 83) (k := 0) rfl rfl rfl
theorem zd_320_335 : decode prog_14_method_75_code 335 = .ok (.aload_n 0, 1) := zsh_g zdk_320 (r := 83) (k := 1) rfl rfl rfl
theorem zd_320_336 : decode prog_14_method_75_code 336 = .ok (.iload 5, 2) := zsh_g zdk_320 (r := 84) (k := 0) rfl rfl rfl
theorem zd_320_338 : decode prog_14_method_75_code 338 = .ok (.invokevirtual 824, 3) := zsh_g zdk_320 (r := 84) (k := 1) rfl rfl rfl
theorem zd_320_341 : decode prog_14_method_75_code 341 = .ok (.aload_n 0, 1) := zsh_g zdk_320 (r := 85) (k := 0) rfl rfl rfl
theorem zd_320_342 : decode prog_14_method_75_code 342 = .ok (.ldc2_w 812, 3) := zsh_g zdk_320 (r := 85) (k := 1) rfl rfl rfl
theorem zd_320_345 : decode prog_14_method_75_code 345 = .ok (.invokevirtual 761, 3) := zsh_g zdk_320 (r := 86) (k := 0) rfl rfl rfl
theorem zd_320_348 : decode prog_14_method_75_code 348 = .ok (.aload_n 0, 1) := zsh_g zdk_320 (r := 87) (k := 0) rfl rfl rfl
theorem zd_320_349 : decode prog_14_method_75_code 349 = .ok (.ldc2_w 826, 3) := zsh_g zdk_320 (r := 87) (k := 1) rfl rfl rfl
theorem zd_320_352 : decode prog_14_method_75_code 352 = .ok (.invokevirtual 758, 3) := zsh_g zdk_320 (r := 88) (k := 0) rfl rfl rfl
theorem zd_320_355 : decode prog_14_method_75_code 355 = .ok (.aload_n 0, 1) := zsh_g zdk_320 (r := 88) (k := 1) rfl rfl rfl
theorem zd_320_356 : decode prog_14_method_75_code 356 = .ok (.ldc2_w 828, 3) := zsh_g zdk_320 (r := 89) (k := 0) rfl rfl rfl
theorem zd_320_359 : decode prog_14_method_75_code 359 = .ok (.invokevirtual 740, 3) := zsh_g zdk_320 (r := 89) (k := 1) rfl rfl rfl
theorem zd_320_362 : decode prog_14_method_75_code 362 = .ok (.aload_n 0, 1) := zsh_g zdk_320 (r := 90) (k := 0) rfl rfl rfl
theorem zd_320_363 : decode prog_14_method_75_code 363 = .ok (.ldc2_w 822, 3) := zsh_g zdk_320 (r := 90) (k := 1) rfl rfl rfl
theorem zd_320_366 : decode prog_14_method_75_code 366 = .ok (.invokevirtual 758, 3) := zsh_g zdk_320 (r := 91) (k := 0) rfl rfl rfl
theorem zd_320_369 : decode prog_14_method_75_code 369 = .ok (.aload_n 0, 1) := zsh_g zdk_320 (r := 92) (k := 0) rfl rfl rfl
theorem zd_320_370 : decode prog_14_method_75_code 370 = .ok (.bipush 41, 2) := zsh_g zdk_320 (r := 92) (k := 1) rfl rfl rfl
theorem zd_320_372 : decode prog_14_method_75_code 372 = .ok (.invokevirtual 731, 3) := zsh_g zdk_320 (r := 93) (k := 0) rfl rfl rfl
theorem zd_320_375 : decode prog_14_method_75_code 375 = .ok (.aload_n 0, 1) := zsh_g zdk_320 (r := 93) (k := 1) rfl rfl rfl
theorem zd_320_376 : decode prog_14_method_75_code 376 = .ok (.invokevirtual 750, 3) := zsh_g zdk_320 (r := 94) (k := 0) rfl rfl rfl
theorem zd_320_379 : decode prog_14_method_75_code 379 = .ok (.aload_n 0, 1) := zsh_g zdk_320 (r := 94) (k := 1) rfl rfl rfl
theorem zd_320_380 : decode prog_14_method_75_code 380 = .ok (.ldc2_w 800, 3) := zsh_g zdk_320 (r := 95) (k := 0) rfl rfl rfl
theorem zd_320_383 : decode prog_14_method_75_code 383 = .ok (.invokevirtual 761, 3) := zsh_g zdk_320 (r := 95) (k := 1) rfl rfl rfl
theorem zd_320_386 : decode prog_14_method_75_code 386 = .ok (.aload_n 0, 1) := zsh_g zdk_320 (r := 96) (k := 0) rfl rfl rfl
theorem zd_320_387 : decode prog_14_method_75_code 387 = .ok (.ldc2_w 822, 3) := zsh_g zdk_320 (r := 96) (k := 1) rfl rfl rfl
theorem zd_320_390 : decode prog_14_method_75_code 390 = .ok (.invokevirtual 758, 3) := zsh_g zdk_320 (r := 97) (k := 0) rfl rfl rfl
theorem zd_320_393 : decode prog_14_method_75_code 393 = .ok (.aload_n 0, 1) := zsh_g zdk_320 (r := 98) (k := 0) rfl rfl rfl
theorem zd_320_394 : decode prog_14_method_75_code 394 = .ok (.invokevirtual 767, 3) := zsh_g zdk_320 (r := 98) (k := 1) rfl rfl rfl
theorem zd_320_397 : decode prog_14_method_75_code 397 = .ok (.aload_n 0, 1) := zsh_g zdk_320 (r := 99) (k := 0) rfl rfl rfl
theorem zd_320_398 : decode prog_14_method_75_code 398 = .ok (.ldc2_w 822, 3) := zsh_g zdk_320 (r := 99) (k := 1) rfl rfl rfl
theorem zd_320_401 : decode prog_14_method_75_code 401 = .ok (.invokevirtual 758, 3) := zsh_g zdk_320 (r := 100) (k := 0) rfl rfl rfl
theorem zd_320_404 : decode prog_14_method_75_code 404 = .ok (.aload_n 0, 1) := zsh_g zdk_320 (r := 101) (k := 0) rfl rfl rfl
theorem zd_320_405 : decode prog_14_method_75_code 405 = .ok (.ldc2_w 830, 3) := zsh_g zdk_320 (r := 101) (k := 1) rfl rfl rfl
theorem zd_320_408 : decode prog_14_method_75_code 408 = .ok (.invokevirtual 740, 3) := zsh_g zdk_320 (r := 102) (k := 0) rfl rfl rfl
theorem zd_320_411 : decode prog_14_method_75_code 411 = .ok (.aload_n 0, 1) := zsh_g zdk_320 (r := 102) (k := 1) rfl rfl rfl
theorem zd_320_412 : decode prog_14_method_75_code 412 = .ok (.invokevirtual 750, 3) := zsh_g zdk_320 (r := 103) (k := 0) rfl rfl rfl
theorem zd_320_415 : decode prog_14_method_75_code 415 = .ok (.aload_n 0, 1) := zsh_g zdk_320 (r := 103) (k := 1) rfl rfl rfl
theorem zd_320_416 : decode prog_14_method_75_code 416 = .ok (.ldc2_w 832, 3) := zsh_g zdk_320 (r := 104) (k := 0) rfl rfl rfl
theorem zd_320_419 : decode prog_14_method_75_code 419 = .ok (.invokevirtual 761, 3) := zsh_g zdk_320 (r := 104) (k := 1) rfl rfl rfl
theorem zd_320_422 : decode prog_14_method_75_code 422 = .ok (.aload_n 0, 1) := zsh_g zdk_320 (r := 105) (k := 0) rfl rfl rfl
theorem zd_320_423 : decode prog_14_method_75_code 423 = .ok (.ldc2_w 822, 3) := zsh_g zdk_320 (r := 105) (k := 1) rfl rfl rfl
theorem zd_320_426 : decode prog_14_method_75_code 426 = .ok (.invokevirtual 758, 3) := zsh_g zdk_320 (r := 106) (k := 0) rfl rfl rfl
theorem zd_320_429 : decode prog_14_method_75_code 429 = .ok (.aload_n 0, 1) := zsh_g zdk_320 (r := 107) (k := 0) rfl rfl rfl
theorem zd_320_430 : decode prog_14_method_75_code 430 = .ok (.invokevirtual 767, 3) := zsh_g zdk_320 (r := 107) (k := 1) rfl rfl rfl
theorem zd_320_433 : decode prog_14_method_75_code 433 = .ok (.aload_n 0, 1) := zsh_g zdk_320 (r := 108) (k := 0) rfl rfl rfl
theorem zd_320_434 : decode prog_14_method_75_code 434 = .ok (.ldc2_w 804, 3) := zsh_g zdk_320 (r := 108) (k := 1) rfl rfl rfl
theorem zd_320_437 : decode prog_14_method_75_code 437 = .ok (.invokevirtual 758, 3) := zsh_g zdk_320 (r := 109) (k := 0) rfl rfl rfl
theorem zd_320_440 : decode prog_14_method_75_code 440 = .ok (.aload_n 0, 1) := zsh_g zdk_320 (r := 110) (k := 0) rfl rfl rfl
theorem zd_320_441 : decode prog_14_method_75_code 441 = .ok (.invokevirtual 767, 3) := zsh_g zdk_320 (r := 110) (k := 1) rfl rfl rfl
theorem zd_320_444 : decode prog_14_method_75_code 444 = .ok (.aload_n 0, 1) := zsh_g zdk_320 (r := 111) (k := 0) rfl rfl rfl
theorem zd_320_445 : decode prog_14_method_75_code 445 = .ok (.iload 5, 2) := zsh_g zdk_320 (r := 111) (k := 1) rfl rfl rfl
theorem zd_320_447 : decode prog_14_method_75_code 447 = .ok (.invokevirtual 747, 3) := zsh_g zdk_320 (r := 111) (k := 2) rfl rfl rfl
theorem zd_320_450 : decode prog_14_method_75_code 450 = .ok (.aload_n 0, 1) := zsh_g zdk_320 (r := 112) (k := 0) rfl rfl rfl
theorem zd_320_451 : decode prog_14_method_75_code 451 = .ok (.invokevirtual 750, 3) := zsh_g zdk_320 (r := 112) (k := 1) rfl rfl rfl
def zdl_321 : List (List (Nat × Instr × Nat)) := [[(0, (.aload_n 0), 1), (1, (.aload_n 0), 1), (2, (.getfield 781), 3)], [(1, (.invokevirtual 797), 3)], [(0, (.istore_n 1), 1), (1, (.aload_n 0), 1), (2, (.ldc2_w 834), 3)], [(1, (.invokevirtual 761), 3)], [(0, (.aload_n 0), 1), (1, (.ldc2_w 836), 3)], [(0, (.invokevirtual 758), 3), (3, (.aload_n 0), 1)], [(0, (.invokevirtual 767), 3), (3, (.aload_n 0), 1)], [(0, (.ldc2_w 826), 3), (3, (.invokevirtual 758), 3)], [(2, (.aload_n 0), 1), (3, (.invokevirtual 750), 3)], [(2, (.aload_n 0), 1), (3, (.aload_n 0), 1)], [(0, (.getfield 794), 3), (3, (.invokevirtual 824), 3)], [(2, (.aload_n 0), 1), (3, (.ldc2_w 838), 3)], [(2, (.invokevirtual 761), 3)], [(1, (.aload_n 0), 1), (2, (.ldc2_w 814), 3)], [(1, (.invokevirtual 758), 3)], [(0, (.aload_n 0), 1), (1, (.invokevirtual 767), 3)], [(0, (.aload_n 0), 1), (1, (.iload_n 1), 1), (2, (.iconst 4), 1), (3, .isub, 1)], [(0, (.invokevirtual 816), 3), (3, (.aload_n 0), 1)], [(0, (.ldc2_w 800), 3), (3, (.invokevirtual 761), 3)], [(2, (.aload_n 0), 1), (3, (.ldc2_w 756), 3)], [(2, (.invokevirtual 758), 3)], [(1, (.aload_n 0), 1), (2, (.invokevirtual 767), 3)], [(1, (.aload_n 0), 1), (2, (.ldc2_w 756), 3)], [(1, (.invokevirtual 758), 3)], [(0, (.aload_n 0), 1), (1, (.invokevirtual 767), 3)], [(0, (.aload_n 0), 1), (1, (.iload_n 1), 1), (2, (.invokevirtual 744), 3)], [(1, (.aload_n 0), 1), (2, (.invokevirtual 750), 3)], [(1, (.aload_n 0), 1), (2, (.ldc2_w 840), 3)], [(1, (.invokevirtual 761), 3)], [(0, (.aload_n 0), 1), (1, (.ldc2_w 814), 3)], [(0, (.invokevirtual 758), 3), (3, (.aload_n 0), 1)], [(0, (.invokevirtual 750), 3)]]
theorem zdk_321 : zsh_all 8 zdl_321 prog_14_method_76_code.data.toList = true := by decide +kernel
theorem zd_321_0 : decode prog_14_method_76_code 0 = .ok (.aload_n 0, 1) := zsh_g zdk_321 (r := 0) (k := 0) rfl rfl rfl
theorem zd_321_1 : decode prog_14_method_76_code 1 = .ok (.aload_n 0, 1) := zsh_g zdk_321 (r := 0) (k := 1) rfl rfl rfl
theorem zd_321_2 : decode prog_14_method_76_code 2 = .ok (.getfield 781, 3) := zsh_g zdk_321 (r := 0) (k := 2) rfl rfl rfl
theorem zd_321_5 : decode prog_14_method_76_code 5 = .ok (.invokevirtual 797, 3) := zsh_g zdk_321 (r := 1) (k := 0) rfl rfl rfl
theorem zd_321_8 : decode prog_14_method_76_code 8 = .ok (.istore_n 1, 1) := zsh_g zdk_321 (r := 2) (k := 0) rfl rfl rfl
theorem zd_321_9 : decode prog_14_method_76_code 9 = .ok (.aload_n 0, 1) := zsh_g zdk_321 (r := 2) (k := 1) rfl rfl rfl
theorem zd_321_10 : decode prog_14_method_76_code 10 = .ok (.ldc2_w 834, 3) := zsh_g zdk_321 (r := 2) (k := 2) rfl rfl rfl
theorem zd_321_13 : decode prog_14_method_76_code 13 = .ok (.invokevirtual 761, 3) := zsh_g zdk_321 (r := 3) (k := 0) rfl rfl rfl
theorem zd_321_16 : decode prog_14_method_76_code 16 = .ok (.aload_n 0, 1) := zsh_g zdk_321 (r := 4) (k := 0) rfl rfl rfl
theorem zd_321_17 : decode prog_14_method_76_code 17 = .ok (.ldc2_w 836, 3) := zsh_g zdk_321 (r := 4) (k := 1) rfl rfl rfl
theorem zd_321_20 : decode prog_14_method_76_code 20 = .ok (.invokevirtual 758, 3) := zsh_g zdk_321 (r := 5) (k := 0) rfl rfl rfl
theorem zd_321_23 : decode prog_14_method_76_code 23 = .ok (.aload_n 0, 1) := zsh_g zdk_321 (r := 5) (k := 1) rfl rfl rfl
theorem zd_321_24 : decode prog_14_method_76_code 24 = .ok (.invokevirtual 767, 3) := zsh_g zdk_321 (r := 6) (k := 0) rfl rfl rfl
theorem zd_321_27 : decode prog_14_method_76_code 27 = .ok (.aload_n 0, 1) := zsh_g zdk_321 (r := 6) (k := 1) rfl rfl rfl
theorem zd_321_28 : decode prog_14_method_76_code 28 = .ok (.ldc2_w 826, 3) := zsh_g zdk_321 (r := 7) (k := 0) rfl rfl rfl
theorem zd_321_31 : decode prog_14_method_76_code 31 = .ok (.invokevirtual 758, 3) := zsh_g zdk_321 (r := 7) (k := 1) rfl rfl rfl
theorem zd_321_34 : decode prog_14_method_76_code 34 = .ok (.aload_n 0, 1) := zsh_g zdk_321 (r := 8) (k := 0) rfl rfl rfl
theorem zd_321_35 : decode prog_14_method_76_code 35 = .ok (.invokevirtual 750, 3) := zsh_g zdk_321 (r := 8) (k := 1) rfl rfl rfl
theorem zd_321_38 : decode prog_14_method_76_code 38 = .ok (.aload_n 0, 1) := zsh_g zdk_321 (r := 9) (k := 0) rfl rfl rfl
theorem zd_321_39 : decode prog_14_method_76_code 39 = .ok (.aload_n 0, 1) := zsh_g zdk_321 (r := 9) (k := 1) rfl rfl rfl
theorem zd_321_40 : decode prog_14_method_76_code 40 = .ok (.getfield 794, 3) := zsh_g zdk_321 (r := 10) (k := 0) rfl rfl rfl
theorem zd_321_43 : decode prog_14_method_76_code 43 = .ok (.invokevirtual 824, 3) := zsh_g zdk_321 (r := 10) (k := 1) rfl rfl rfl
theorem zd_321_46 : decode prog_14_method_76_code 46 = .ok (.aload_n 0, 1) := zsh_g zdk_321 (r := 11) (k := 0) rfl rfl rfl
theorem zd_321_47 : decode prog_14_method_76_code 47 = .ok (.ldc2_w 838, 3) := zsh_g zdk_321 (r := 11) (k := 1) rfl rfl rfl
theorem zd_321_50 : decode prog_14_method_76_code 50 = .ok (.invokevirtual 761, 3) := zsh_g zdk_321 (r := 12) (k := 0) rfl rfl rfl
theorem zd_321_53 : decode prog_14_method_76_code 53 = .ok (.aload_n 0, 1) := zsh_g zdk_321 (r := 13) (k := 0) rfl rfl rfl
theorem zd_321_54 : decode prog_14_method_76_code 54 = .ok (.ldc2_w 814, 3) := zsh_g zdk_321 (r := 13) (k := 1) rfl rfl rfl
theorem zd_321_57 : decode prog_14_method_76_code 57 = .ok (.invokevirtual 758, 3) := zsh_g zdk_321 (r := 14) (k := 0) rfl rfl rfl
theorem zd_321_60 : decode prog_14_method_76_code 60 = .ok (.aload_n 0, 1) := zsh_g zdk_321 (r := 15) (k := 0) rfl rfl rfl
theorem zd_321_61 : decode prog_14_method_76_code 61 = .ok (.invokevirtual 767, 3) := zsh_g zdk_321 (r := 15) (k := 1) rfl rfl rfl
theorem zd_321_64 : decode prog_14_method_76_code 64 = .ok (.aload_n 0, 1) := zsh_g zdk_321 (r := 16) (k := 0) rfl rfl rfl
theorem zd_321_65 : decode prog_14_method_76_code 65 = .ok (.iload_n 1, 1) := zsh_g zdk_321 (r := 16) (k := 1) rfl rfl rfl
theorem zd_321_66 : decode prog_14_method_76_code 66 = .ok (.iconst 4, 1) := zsh_g zdk_321 (r := 16) (k := 2) rfl rfl rfl
theorem zd_321_67 : decode prog_14_method_76_code 67 = .ok (.isub, 1) := zsh_g zdk_321 (r := 16) (k := 3) rfl rfl rfl
theorem zd_321_68 : decode prog_14_method_76_code 68 = .ok (.invokevirtual 816, 3) := zsh_g zdk_321 (r := 17) (k := 0) rfl rfl rfl
theorem zd_321_71 : decode prog_14_method_76_code 71 = .ok (.aload_n 0, 1) := zsh_g zdk_321 (r := 17) (k := 1) rfl rfl rfl
theorem zd_321_72 : decode prog_14_method_76_code 72 = .ok (.ldc2_w 800, 3) := zsh_g zdk_321 (r := 18) (k := 0) rfl rfl rfl
theorem zd_321_75 : decode prog_14_method_76_code 75 = .ok (.invokevirtual 761, 3) := zsh_g zdk_321 (r := 18) (k := 1) rfl rfl rfl
theorem zd_321_78 : decode prog_14_method_76_code 78 = .ok (.aload_n 0, 1) := zsh_g zdk_321 (r := 19) (k := 0) rfl rfl rfl
theorem zd_321_79 : decode prog_14_method_76_code 79 = .ok (.ldc2_w 756, 3) := zsh_g zdk_321 (r := 19) (k := 1) rfl rfl rfl
theorem zd_321_82 : decode prog_14_method_76_code 82 = .ok (.invokevirtual 758, 3) := zsh_g zdk_321 (r := 20) (k := 0) rfl rfl rfl
theorem zd_321_85 : decode prog_14_method_76_code 85 = .ok (.aload_n 0, 1) := zsh_g zdk_321 (r := 21) (k := 0) rfl rfl rfl
theorem zd_321_86 : decode prog_14_method_76_code 86 = .ok (.invokevirtual 767, 3) := zsh_g zdk_321 (r := 21) (k := 1) rfl rfl rfl
theorem zd_321_89 : decode prog_14_method_76_code 89 = .ok (.aload_n 0, 1) := zsh_g zdk_321 (r := 22) (k := 0) rfl rfl rfl
theorem zd_321_90 : decode prog_14_method_76_code 90 = .ok (.ldc2_w 756, 3) := zsh_g zdk_321 (r := 22) (k := 1) rfl rfl rfl
theorem zd_321_93 : decode prog_14_method_76_code 93 = .ok (.invokevirtual 758, 3) := zsh_g zdk_321 (r := 23) (k := 0) rfl rfl rfl
theorem zd_321_96 : decode prog_14_method_76_code 96 = .ok (.aload_n 0, 1) := zsh_g zdk_321 (r := 24) (k := 0) rfl rfl rfl
theorem zd_321_97 : decode prog_14_method_76_code 97 = .ok (.invokevirtual 767, 3) := zsh_g zdk_321 (r := 24) (k := 1) rfl rfl rfl
theorem zd_321_100 : decode prog_14_method_76_code 100 = .ok (.aload_n 0, 1) := zsh_g zdk_321 (r := 25) (k := 0) rfl rfl rfl
theorem zd_321_101 : decode prog_14_method_76_code 101 = .ok (.iload_n 1, 1) := zsh_g zdk_321 (r := 25) (k := 1) rfl rfl rfl
theorem zd_321_102 : decode prog_14_method_76_code 102 = .ok (.invokevirtual 744, 3) := zsh_g zdk_321 (r := 25) (k := 2) rfl rfl rfl
theorem zd_321_105 : decode prog_14_method_76_code 105 = .ok (.aload_n 0, 1) := zsh_g zdk_321 (r := 26) (k := 0) rfl rfl rfl
theorem zd_321_106 : decode prog_14_method_76_code 106 = .ok (.invokevirtual 750, 3) := zsh_g zdk_321 (r := 26) (k := 1) rfl rfl rfl
theorem zd_321_109 : decode prog_14_method_76_code 109 = .ok (.aload_n 0, 1) := zsh_g zdk_321 (r := 27) (k := 0) rfl rfl rfl
theorem zd_321_110 : decode prog_14_method_76_code 110 = .ok (.ldc2_w 840, 3) := zsh_g zdk_321 (r := 27) (k := 1) rfl rfl rfl
theorem zd_321_113 : decode prog_14_method_76_code 113 = .ok (.invokevirtual 761, 3) := zsh_g zdk_321 (r := 28) (k := 0) rfl rfl rfl
theorem zd_321_116 : decode prog_14_method_76_code 116 = .ok (.aload_n 0, 1) := zsh_g zdk_321 (r := 29) (k := 0) rfl rfl rfl
theorem zd_321_117 : decode prog_14_method_76_code 117 = .ok (.ldc2_w 814, 3) := zsh_g zdk_321 (r := 29) (k := 1) rfl rfl rfl
theorem zd_321_120 : decode prog_14_method_76_code 120 = .ok (.invokevirtual 758, 3) := zsh_g zdk_321 (r := 30) (k := 0) rfl rfl rfl
theorem zd_321_123 : decode prog_14_method_76_code 123 = .ok (.aload_n 0, 1) := zsh_g zdk_321 (r := 30) (k := 1) rfl rfl rfl
theorem zd_321_124 : decode prog_14_method_76_code 124 = .ok (.invokevirtual 750, 3) := zsh_g zdk_321 (r := 31) (k := 0) rfl rfl rfl
def zdl_322 : List (List (Nat × Instr × Nat)) := [[(0, (.aload_n 0), 1), (1, (.bipush 36), 2), (3, (.invokevirtual 731), 3)], [(2, (.aload_n 0), 1), (3, (.bipush 116), 2)], [(1, (.invokevirtual 731), 3)], [(0, (.aload_n 0), 1), (1, (.bipush 48), 2), (3, (.iload_n 1), 1)], [(0, .iadd, 1), (1, (.invokevirtual 731), 3)]]
theorem zdk_322 : zsh_all 8 zdl_322 prog_14_method_65_code.data.toList = true := by decide +kernel
theorem zd_322_0 : decode prog_14_method_65_code 0 = .ok (.aload_n 0, 1) := zsh_g zdk_322 (r := 0) (k := 0) rfl rfl rfl
theorem zd_322_1 : decode prog_14_method_65_code 1 = .ok (.bipush 36, 2) := zsh_g zdk_322 (r := 0) (k := 1) rfl rfl rfl
theorem zd_322_3 : decode prog_14_method_65_code 3 = .ok (.invokevirtual 731, 3) := zsh_g zdk_322 (r := 0) (k := 2) rfl rfl rfl
theorem zd_322_6 : decode prog_14_method_65_code 6 = .ok (.aload_n 0, 1) := zsh_g zdk_322 (r := 1) (k := 0) rfl rfl rfl
theorem zd_322_7 : decode prog_14_method_65_code 7 = .ok (.bipush 116, 2) := zsh_g zdk_322 (r := 1) (k := 1) rfl rfl rfl
theorem zd_322_9 : decode prog_14_method_65_code 9 = .ok (.invokevirtual 731, 3) := zsh_g zdk_322 (r := 2) (k := 0) rfl rfl rfl
theorem zd_322_12 : decode prog_14_method_65_code 12 = .ok (.aload_n 0, 1) := zsh_g zdk_322 (r := 3) (k := 0) rfl rfl rfl
theorem zd_322_13 : decode prog_14_method_65_code 13 = .ok (.bipush 48, 2) := zsh_g zdk_322 (r := 3) (k := 1) rfl rfl rfl
theorem zd_322_15 : decode prog_14_method_65_code 15 = .ok (.iload_n 1, 1) := zsh_g zdk_322 (r := 3) (k := 2) rfl rfl rfl
theorem zd_322_16 : decode prog_14_method_65_code 16 = .ok (.iadd, 1) := zsh_g zdk_322 (r := 4) (k := 0) rfl rfl rfl
theorem zd_322_17 : decode prog_14_method_65_code 17 = .ok (.invokevirtual 731, 3) := zsh_g zdk_322 (r := 4) (k := 1) rfl rfl rfl
def zdl_323 : List (List (Nat × Instr × Nat)) := [[(0, (.aload_n 0), 1), (1, (.ldc2_w 923), 3)], [(0, (.invokevirtual 761), 3), (3, (.aload_n 0), 1)], [(0, (.ldc2_w 836), 3), (3, (.invokevirtual 758), 3)], [(2, (.aload_n 0), 1), (3, (.ldc2_w 925), 3)], [(2, (.invokevirtual 740), 3)], [(1, (.aload_n 0), 1), (2, (.invokevirtual 750), 3)], [(1, (.aload_n 0), 1), (2, (.ldc2_w 927), 3)], [(1, (.invokevirtual 740), 3)], [(0, (.aload_n 0), 1), (1, (.invokevirtual 750), 3)], [(0, (.aload_n 0), 1), (1, (.ldc2_w 834), 3)], [(0, (.invokevirtual 761), 3), (3, (.aload_n 0), 1)], [(0, (.iload_n 1), 1), (1, (.invokevirtual 764), 3)], [(0, (.aload_n 0), 1), (1, (.invokevirtual 767), 3)], [(0, (.aload_n 0), 1), (1, (.ldc2_w 836), 3)], [(0, (.invokevirtual 758), 3), (3, (.aload_n 0), 1)], [(0, (.invokevirtual 750), 3)]]
theorem zdk_323 : zsh_all 8 zdl_323 prog_14_method_89_code.data.toList = true := by decide +kernel
theorem zd_323_0 : decode prog_14_method_89_code 0 = .ok (.aload_n 0, 1) := zsh_g zdk_323 (r := 0) (k := 0) rfl rfl rfl
theorem zd_323_1 : decode prog_14_method_89_code 1 = .ok (.ldc2_w 923, 3) := zsh_g zdk_323 (r := 0) (k := 1) rfl rfl rfl
theorem zd_323_4 : decode prog_14_method_89_code 4 = .ok (.invokevirtual 761, 3) := zsh_g zdk_323 (r := 1) (k := 0) rfl rfl rfl
theorem zd_323_7 : decode prog_14_method_89_code 7 = .ok (.aload_n 0, 1) := zsh_g zdk_323 (r := 1) (k := 1) rfl rfl rfl
theorem zd_323_8 : decode prog_14_method_89_code 8 = .ok (.ldc2_w 836, 3) := zsh_g zdk_323 (r := 2) (k := 0) rfl rfl rfl
theorem zd_323_11 : decode prog_14_method_89_code 11 = .ok (.invokevirtual 758, 3) := zsh_g zdk_323 (r := 2) (k := 1) rfl rfl rfl
theorem zd_323_14 : decode prog_14_method_89_code 14 = .ok (.aload_n 0, 1) := zsh_g zdk_323 (r := 3) (k := 0) rfl rfl rfl
theorem zd_323_15 : decode prog_14_method_89_code 15 = .ok (.ldc2_w 925, 3) := zsh_g zdk_323 (r := 3) (k := 1) rfl rfl rfl
theorem zd_323_18 : decode prog_14_method_89_code 18 = .ok (.invokevirtual 740, 3) := zsh_g zdk_323 (r := 4) (k := 0) rfl rfl rfl
theorem zd_323_21 : decode prog_14_method_89_code 21 = .ok (.aload_n 0, 1) := zsh_g zdk_323 (r := 5) (k := 0) rfl rfl rfl
theorem zd_323_22 : decode prog_14_method_89_code 22 = .ok (.invokevirtual 750, 3) := zsh_g zdk_323 (r := 5) (k := 1) rfl rfl rfl
theorem zd_323_25 : decode prog_14_method_89_code 25 = .ok (.aload_n 0, 1) := zsh_g zdk_323 (r := 6) (k := 0) rfl rfl rfl
theorem zd_323_26 : decode prog_14_method_89_code 26 = .ok (.ldc2_w 927, 3) := zsh_g zdk_323 (r := 6) (k := 1) rfl rfl rfl
theorem zd_323_29 : decode prog_14_method_89_code 29 = .ok (.invokevirtual 740, 3) := zsh_g zdk_323 (r := 7) (k := 0) rfl rfl rfl
theorem zd_323_32 : decode prog_14_method_89_code 32 = .ok (.aload_n 0, 1) := zsh_g zdk_323 (r := 8) (k := 0) rfl rfl rfl
theorem zd_323_33 : decode prog_14_method_89_code 33 = .ok (.invokevirtual 750, 3) := zsh_g zdk_323 (r := 8) (k := 1) rfl rfl rfl
theorem zd_323_36 : decode prog_14_method_89_code 36 = .ok (.aload_n 0, 1) := zsh_g zdk_323 (r := 9) (k := 0) rfl rfl rfl
theorem zd_323_37 : decode prog_14_method_89_code 37 = .ok (.ldc2_w 834, 3) := zsh_g zdk_323 (r := 9) (k := 1) rfl rfl rfl
theorem zd_323_40 : decode prog_14_method_89_code 40 = .ok (.invokevirtual 761, 3) := zsh_g zdk_323 (r := 10) (k := 0) rfl rfl rfl
theorem zd_323_43 : decode prog_14_method_89_code 43 = .ok (.aload_n 0, 1) := zsh_g zdk_323 (r := 10) (k := 1) rfl rfl rfl
theorem zd_323_44 : decode prog_14_method_89_code 44 = .ok (.iload_n 1, 1) := zsh_g zdk_323 (r := 11) (k := 0) rfl rfl rfl
theorem zd_323_45 : decode prog_14_method_89_code 45 = .ok (.invokevirtual 764, 3) := zsh_g zdk_323 (r := 11) (k := 1) rfl rfl rfl
theorem zd_323_48 : decode prog_14_method_89_code 48 = .ok (.aload_n 0, 1) := zsh_g zdk_323 (r := 12) (k := 0) rfl rfl rfl
theorem zd_323_49 : decode prog_14_method_89_code 49 = .ok (.invokevirtual 767, 3) := zsh_g zdk_323 (r := 12) (k := 1) rfl rfl rfl
theorem zd_323_52 : decode prog_14_method_89_code 52 = .ok (.aload_n 0, 1) := zsh_g zdk_323 (r := 13) (k := 0) rfl rfl rfl
theorem zd_323_53 : decode prog_14_method_89_code 53 = .ok (.ldc2_w 836, 3) := zsh_g zdk_323 (r := 13) (k := 1) rfl rfl rfl
theorem zd_323_56 : decode prog_14_method_89_code 56 = .ok (.invokevirtual 758, 3) := zsh_g zdk_323 (r := 14) (k := 0) rfl rfl rfl
theorem zd_323_59 : decode prog_14_method_89_code 59 = .ok (.aload_n 0, 1) := zsh_g zdk_323 (r := 14) (k := 1) rfl rfl rfl
theorem zd_323_60 : decode prog_14_method_89_code 60 = .ok (.invokevirtual 750, 3) := zsh_g zdk_323 (r := 15) (k := 0) rfl rfl rfl
def zdl_324 : List (List (Nat × Instr × Nat)) := [[(0, (.aload_n 0), 1), (1, (.iload 4), 2), (3, (.ifCond .eq 9), 3)], [(2, (.ldc2_w 812), 3)], [(1, (.goto 6), 3)], [(0, (.ldc2_w 838), 3), (3, (.invokevirtual 761), 3)], [(2, (.aload_n 0), 1), (3, (.iload_n 3), 1)], [(0, (.invokevirtual 764), 3), (3, (.aload_n 0), 1)], [(0, (.invokevirtual 767), 3), (3, (.iload_n 2), 1)], [(0, (.ifCond .lt 11), 3), (3, (.aload_n 0), 1)], [(0, (.iload_n 2), 1), (1, (.invokevirtual 816), 3)], [(0, (.goto 12), 3), (3, (.aload_n 0), 1)], [(0, (.iload_n 1), 1), (1, (.invokevirtual 774), 3)], [(0, (.aload_n 0), 1), (1, (.invokevirtual 750), 3)]]
theorem zdk_324 : zsh_all 8 zdl_324 prog_14_method_77_code.data.toList = true := by decide +kernel
theorem zd_324_0 : decode prog_14_method_77_code 0 = .ok (.aload_n 0, 1) := zsh_g zdk_324 (r := 0) (k := 0) rfl rfl rfl
theorem zd_324_1 : decode prog_14_method_77_code 1 = .ok (.iload 4, 2) := zsh_g zdk_324 (r := 0) (k := 1) rfl rfl rfl
theorem zd_324_3 : decode prog_14_method_77_code 3 = .ok (.ifCond .eq 9, 3) := zsh_g zdk_324 (r := 0) (k := 2) rfl rfl rfl
theorem zd_324_6 : decode prog_14_method_77_code 6 = .ok (.ldc2_w 812, 3) := zsh_g zdk_324 (r := 1) (k := 0) rfl rfl rfl
theorem zd_324_9 : decode prog_14_method_77_code 9 = .ok (.goto 6, 3) := zsh_g zdk_324 (r := 2) (k := 0) rfl rfl rfl
theorem zd_324_12 : decode prog_14_method_77_code 12 = .ok (.ldc2_w 838, 3) := zsh_g zdk_324 (r := 3) (k := 0) rfl rfl rfl
theorem zd_324_15 : decode prog_14_method_77_code 15 = .ok (.invokevirtual 761, 3) := zsh_g zdk_324 (r := 3) (k := 1) rfl rfl rfl
theorem zd_324_18 : decode prog_14_method_77_code 18 = .ok (.aload_n 0, 1) := zsh_g zdk_324 (r := 4) (k := 0) rfl rfl rfl
theorem zd_324_19 : decode prog_14_method_77_code 19 = .ok (.iload_n 3, 1) := zsh_g zdk_324 (r := 4) (k := 1) rfl rfl rfl
theorem zd_324_20 : decode prog_14_method_77_code 20 = .ok (.invokevirtual 764, 3) := zsh_g zdk_324 (r := 5) (k := 0) rfl rfl rfl
theorem zd_324_23 : decode prog_14_method_77_code 23 = .ok (.aload_n 0, 1) := zsh_g zdk_324 (r := 5) (k := 1) rfl rfl rfl
theorem zd_324_24 : decode prog_14_method_77_code 24 = .ok (.invokevirtual 767, 3) := zsh_g zdk_324 (r := 6) (k := 0) rfl rfl rfl
theorem zd_324_27 : decode prog_14_method_77_code 27 = .ok (.iload_n 2, 1) := zsh_g zdk_324 (r := 6) (k := 1) rfl rfl rfl
theorem zd_324_28 : decode prog_14_method_77_code 28 = .ok (.ifCond .lt 11, 3) := zsh_g zdk_324 (r := 7) (k := 0) rfl rfl rfl
theorem zd_324_31 : decode prog_14_method_77_code 31 = .ok (.aload_n 0, 1) := zsh_g zdk_324 (r := 7) (k := 1) rfl rfl rfl
theorem zd_324_32 : decode prog_14_method_77_code 32 = .ok (.iload_n 2, 1) := zsh_g zdk_324 (r := 8) (k := 0) rfl rfl rfl
theorem zd_324_33 : decode prog_14_method_77_code 33 = .ok (.invokevirtual 816, 3) := zsh_g zdk_324 (r := 8) (k := 1) rfl rfl rfl
theorem zd_324_36 : decode prog_14_method_77_code 36 = .ok (.goto 12, 3) := zsh_g zdk_324 (r := 9) (k := 0) rfl rfl rfl
theorem zd_324_39 : decode prog_14_method_77_code 39 = .ok (.aload_n 0, 1) := zsh_g zdk_324 (r := 9) (k := 1) rfl rfl rfl
theorem zd_324_40 : decode prog_14_method_77_code 40 = .ok (.iload_n 1, 1) := zsh_g zdk_324 (r := 10) (k := 0) rfl rfl rfl
theorem zd_324_41 : decode prog_14_method_77_code 41 = .ok (.invokevirtual 774, 3) := zsh_g zdk_324 (r := 10) (k := 1) rfl rfl rfl
theorem zd_324_44 : decode prog_14_method_77_code 44 = .ok (.aload_n 0, 1) := zsh_g zdk_324 (r := 11) (k := 0) rfl rfl rfl
theorem zd_324_45 : decode prog_14_method_77_code 45 = .ok (.invokevirtual 750, 3) := zsh_g zdk_324 (r := 11) (k := 1) rfl rfl rfl
def zdl_325 : List (List (Nat × Instr × Nat)) := [[(0, (.iload_n 2), 1), (1, (.ifCond .ge 78), 3)], [(0, (.aload_n 0), 1), (1, (.ldc2_w 838), 3)], [(0, (.invokevirtual 761), 3), (3, (.aload_n 0), 1)], [(0, (.ldc2_w 804), 3), (3, (.invokevirtual 758), 3)], [(2, (.aload_n 0), 1), (3, (.invokevirtual 767), 3)], [(2, (.aload_n 0), 1), (3, (.iload_n 1), 1)], [(0, (.invokevirtual 774), 3), (3, (.aload_n 0), 1)], [(0, (.ldc2_w 842), 3), (3, (.invokevirtual 740), 3)], [(2, (.aload_n 0), 1), (3, (.invokevirtual 750), 3)], [(2, (.aload_n 0), 1), (3, (.ldc2_w 844), 3)], [(2, (.invokevirtual 761), 3)], [(1, (.aload_n 0), 1), (2, (.ldc2_w 804), 3)], [(1, (.invokevirtual 758), 3)], [(0, (.aload_n 0), 1), (1, (.invokevirtual 767), 3)], [(0, (.aload_n 0), 1), (1, (.iload_n 3), 1), (2, (.invokevirtual 764), 3)], [(1, (.aload_n 0), 1), (2, (.invokevirtual 767), 3)], [(1, (.aload_n 0), 1), (2, (.ldc2_w 804), 3)], [(1, (.invokevirtual 758), 3)], [(0, (.aload_n 0), 1), (1, (.invokevirtual 750), 3)], [(0, (.goto 40), 3), (3, (.aload_n 0), 1)], [(0, (.ldc2_w 846), 3), (3, (.invokevirtual 761), 3)], [(2, (.aload_n 0), 1), (3, (.ldc2_w 804), 3)], [(2, (.invokevirtual 758), 3)], [(1, (.aload_n 0), 1), (2, (.invokevirtual 767), 3)], [(1, (.aload_n 0), 1), (2, (.iload_n 3), 1), (3, (.invokevirtual 764), 3)], [(2, (.aload_n 0), 1), (3, (.invokevirtual 767), 3)], [(2, (.aload_n 0), 1), (3, (.iload 4), 2)], [(1, (.invokevirtual 744), 3)], [(0, (.aload_n 0), 1), (1, (.invokevirtual 750), 3)], [(0, (.aload_n 0), 1), (1, (.ldc2_w 848), 3)], [(0, (.invokevirtual 761), 3), (3, (.aload_n 0), 1)], [(0, (.ldc2_w 804), 3), (3, (.invokevirtual 758), 3)], [(2, (.aload_n 0), 1), (3, (.invokevirtual 767), 3)], [(2, (.aload_n 0), 1), (3, (.ldc2_w 850), 3)], [(2, (.invokevirtual 740), 3)], [(1, (.aload_n 0), 1), (2, (.invokevirtual 750), 3)], [(1, (.aload_n 0), 1), (2, (.ldc2_w 852), 3)], [(1, (.invokevirtual 761), 3)], [(0, (.aload_n 0), 1), (1, (.iload_n 3), 1), (2, (.invokevirtual 764), 3)], [(1, (.aload_n 0), 1), (2, (.invokevirtual 767), 3)], [(1, (.aload_n 0), 1), (2, (.iload_n 3), 1), (3, (.invokevirtual 764), 3)], [(2, (.aload_n 0), 1), (3, (.ldc2_w 854), 3)], [(2, (.invokevirtual 740), 3)], [(1, (.aload_n 0), 1), (2, (.invokevirtual 750), 3)], [(1, (.iload_n 2), 1), (2, (.ifCond .lt 39), 3)], [(1, (.aload_n 0), 1), (2, (.ldc2_w 856), 3)], [(1, (.invokevirtual 761), 3)], [(0, (.aload_n 0), 1), (1, (.iload_n 3), 1), (2, (.invokevirtual 764), 3)], [(1, (.aload_n 0), 1), (2, (.invokevirtual 767), 3)], [(1, (.aload_n 0), 1), (2, (.iload_n 3), 1), (3, (.invokevirtual 764), 3)], [(2, (.aload_n 0), 1), (3, (.invokevirtual 767), 3)], [(2, (.aload_n 0), 1), (3, (.ldc2_w 756), 3)], [(2, (.invokevirtual 758), 3)], [(1, (.aload_n 0), 1), (2, (.invokevirtual 750), 3)]]
theorem zdk_325 : zsh_all 8 zdl_325 prog_14_method_78_code.data.toList = true := by decide +kernel
theorem zd_325_0 : decode prog_14_method_78_code 0 = .ok (.iload_n 2, 1) := zsh_g zdk_325 (r := 0) (k := 0) rfl rfl rfl
theorem zd_325_1 : decode prog_14_method_78_code 1 = .ok (.ifCond .ge 78, 3) := zsh_g zdk_325 (r := 0) (k := 1) rfl rfl rfl
theorem zd_325_4 : decode prog_14_method_78_code 4 = .ok (.aload_n 0, 1) := zsh_g zdk_325 (r := 1) (k := 0) rfl rfl rfl
theorem zd_325_5 : decode prog_14_method_78_code 5 = .ok (.ldc2_w 838, 3) := zsh_g zdk_325 (r := 1) (k := 1) rfl rfl rfl
theorem zd_325_8 : decode prog_14_method_78_code 8 = .ok (.invokevirtual 761, 3) := zsh_g zdk_325 (r := 2) (k := 0) rfl rfl rfl
theorem zd_325_11 : decode prog_14_method_78_code 11 = .ok (.aload_n 0, 1) := zsh_g zdk_325 (r := 2) (k := 1) rfl rfl rfl
theorem zd_325_12 : decode prog_14_method_78_code 12 = .ok (.ldc2_w 804, 3) := zsh_g zdk_325 (r := 3) (k := 0) rfl rfl rfl
theorem zd_325_15 : decode prog_14_method_78_code 15 = .ok (.invokevirtual 758, 3) := zsh_g zdk_325 (r := 3) (k := 1) rfl rfl rfl
theorem zd_325_18 : decode prog_14_method_78_code 18 = .ok (.aload_n 0, 1) := zsh_g zdk_325 (r := 4) (k := 0) rfl rfl rfl
theorem zd_325_19 : decode prog_14_method_78_code 19 = .ok (.invokevirtual 767, 3) := zsh_g zdk_325 (r := 4) (k := 1) rfl rfl rfl
theorem zd_325_22 : decode prog_14_method_78_code 22 = .ok (.aload_n 0, 1) := zsh_g zdk_325 (r := 5) (k := 0) rfl rfl rfl
theorem zd_325_23 : decode prog_14_method_78_code 23 = .ok (.iload_n 1, 1) := zsh_g zdk_325 (r := 5) (k := 1) rfl rfl rfl
theorem zd_325_24 : decode prog_14_method_78_code 24 = .ok (.invokevirtual 774, 3) := zsh_g zdk_325 (r := 6) (k := 0) rfl rfl rfl
theorem zd_325_27 : decode prog_14_method_78_code 27 = .ok (.aload_n 0, 1) := zsh_g zdk_325 (r := 6) (k := 1) rfl rfl rfl
theorem zd_325_28 : decode prog_14_method_78_code 28 = .ok (.ldc2_w 842, 3) := zsh_g zdk_325 (r := 7) (k := 0) rfl rfl rfl
theorem zd_325_31 : decode prog_14_method_78_code 31 = .ok (.invokevirtual 740, 3) := zsh_g zdk_325 (r := 7) (k := 1) rfl rfl rfl
theorem zd_325_34 : decode prog_14_method_78_code 34 = .ok (.aload_n 0, 1) := zsh_g zdk_325 (r := 8) (k := 0) rfl rfl rfl
theorem zd_325_35 : decode prog_14_method_78_code 35 = .ok (.invokevirtual 750, 3) := zsh_g zdk_325 (r := 8) (k := 1) rfl rfl rfl
theorem zd_325_38 : decode prog_14_method_78_code 38 = .ok (.aload_n 0, 1) := zsh_g zdk_325 (r := 9) (k := 0) rfl rfl rfl
theorem zd_325_39 : decode prog_14_method_78_code 39 = .ok (.ldc2_w 844, 3) := zsh_g zdk_325 (r := 9) (k := 1) rfl rfl rfl
theorem zd_325_42 : decode prog_14_method_78_code 42 = .ok (.invokevirtual 761, 3) := zsh_g zdk_325 (r := 10) (k := 0) rfl rfl rfl
theorem zd_325_45 : decode prog_14_method_78_code 45 = .ok (.aload_n 0, 1) := zsh_g zdk_325 (r := 11) (k := 0) rfl rfl rfl
theorem zd_325_46 : decode prog_14_method_78_code 46 = .ok (.ldc2_w 804, 3) := zsh_g zdk_325 (r := 11) (k := 1) rfl rfl rfl
theorem zd_325_49 : decode prog_14_method_78_code 49 = .ok (.invokevirtual 758, 3) := zsh_g zdk_325 (r := 12) (k := 0) rfl rfl rfl
theorem zd_325_52 : decode prog_14_method_78_code 52 = .ok (.aload_n 0, 1) := zsh_g zdk_325 (r := 13) (k := 0) rfl rfl rfl
theorem zd_325_53 : decode prog_14_method_78_code 53 = .ok (.invokevirtual 767, 3) := zsh_g zdk_325 (r := 13) (k := 1) rfl rfl rfl
theorem zd_325_56 : decode prog_14_method_78_code 56 = .ok (.aload_n 0, 1) := zsh_g zdk_325 (r := 14) (k := 0) rfl rfl rfl
theorem zd_325_57 : decode prog_14_method_78_code 57 = .ok (.iload_n 3, 1) := zsh_g zdk_325 (r := 14) (k := 1) rfl rfl rfl
theorem zd_325_58 : decode prog_14_method_78_code 58 = .ok (.invokevirtual 764, 3) := zsh_g zdk_325 (r := 14) (k := 2) rfl rfl rfl
theorem zd_325_61 : decode prog_14_method_78_code 61 = .ok (.aload_n 0, 1) := zsh_g zdk_325 (r := 15) (k := 0) rfl rfl rfl
theorem zd_325_62 : decode prog_14_method_78_code 62 = .ok (.invokevirtual 767, 3) := zsh_g zdk_325 (r := 15) (k := 1) rfl rfl rfl
theorem zd_325_65 : decode prog_14_method_78_code 65 = .ok (.aload_n 0, 1) := zsh_g zdk_325 (r := 16) (k := 0) rfl rfl rfl
theorem zd_325_66 : decode prog_14_method_78_code 66 = .ok (.ldc2_w 804, 3) := zsh_g zdk_325 (r := 16) (k := 1) rfl rfl rfl
theorem zd_325_69 : decode prog_14_method_78_code 69 = .ok (.invokevirtual 758, 3) := zsh_g zdk_325 (r := 17) (k := 0) rfl rfl rfl
theorem zd_325_72 : decode prog_14_method_78_code 72 = .ok (.aload_n 0, 1) := zsh_g zdk_325 (r := 18) (k := 0) rfl rfl rfl
theorem zd_325_73 : decode prog_14_method_78_code 73 = .ok (.invokevirtual 750, 3) := zsh_g zdk_325 (r := 18) (k := 1) rfl rfl rfl
theorem zd_325_76 : decode prog_14_method_78_code 76 = .ok (.goto 40, 3) := zsh_g zdk_325 (r := 19) (k := 0) rfl rfl rfl
theorem zd_325_79 : decode prog_14_method_78_code 79 = .ok (.aload_n 0, 1) := zsh_g zdk_325 (r := 19) (k := 1) rfl rfl rfl
theorem zd_325_80 : decode prog_14_method_78_code 80 = .ok (.ldc2_w 846, 3) := zsh_g zdk_325 (r := 20) (k := 0) rfl rfl rfl
theorem zd_325_83 : decode prog_14_method_78_code 83 = .ok (.invokevirtual 761, 3) := zsh_g zdk_325 (r := 20) (k := 1) rfl rfl rfl
theorem zd_325_86 : decode prog_14_method_78_code 86 = .ok (.aload_n 0, 1) := zsh_g zdk_325 (r := 21) (k := 0) rfl rfl rfl
theorem zd_325_87 : decode prog_14_method_78_code 87 = .ok (.ldc2_w 804, 3) := zsh_g zdk_325 (r := 21) (k := 1) rfl rfl rfl
theorem zd_325_90 : decode prog_14_method_78_code 90 = .ok (.invokevirtual 758, 3) := zsh_g zdk_325 (r := 22) (k := 0) rfl rfl rfl
theorem zd_325_93 : decode prog_14_method_78_code 93 = .ok (.aload_n 0, 1) := zsh_g zdk_325 (r := 23) (k := 0) rfl rfl rfl
theorem zd_325_94 : decode prog_14_method_78_code 94 = .ok (.invokevirtual 767, 3) := zsh_g zdk_325 (r := 23) (k := 1) rfl rfl rfl
theorem zd_325_97 : decode prog_14_method_78_code 97 = .ok (.aload_n 0, 1) := zsh_g zdk_325 (r := 24) (k := 0) rfl rfl rfl
theorem zd_325_98 : decode prog_14_method_78_code 98 = .ok (.iload_n 3, 1) := zsh_g zdk_325 (r := 24) (k := 1) rfl rfl rfl
theorem zd_325_99 : decode prog_14_method_78_code 99 = .ok (.invokevirtual 764, 3) := zsh_g zdk_325 (r := 24) (k := 2) rfl rfl rfl
theorem zd_325_102 : decode prog_14_method_78_code 102 = .ok (.aload_n 0, 1) := zsh_g zdk_325 (r := 25) (k := 0) rfl rfl rfl
theorem zd_325_103 : decode prog_14_method_78_code 103 = .ok (.invokevirtual 767, 3) := zsh_g zdk_325 (r := 25) (k := 1) rfl rfl rfl
theorem zd_325_106 : decode prog_14_method_78_code 106 = .ok (.aload_n 0, 1) := zsh_g zdk_325 (r := 26) (k := 0) rfl rfl rfl
theorem zd_325_107 : decode prog_14_method_78_code 107 = .ok (.iload 4, 2) := zsh_g zdk_325 (r := 26) (k := 1) rfl rfl rfl
theorem zd_325_109 : decode prog_14_method_78_code 109 = .ok (.invokevirtual 744, 3) := zsh_g zdk_325 (r := 27) (k := 0) rfl rfl rfl
theorem zd_325_112 : decode prog_14_method_78_code 112 = .ok (.aload_n 0, 1) := zsh_g zdk_325 (r := 28) (k := 0) rfl rfl rfl
theorem zd_325_113 : decode prog_14_method_78_code 113 = .ok (.invokevirtual 750, 3) := zsh_g zdk_325 (r := 28) (k := 1) rfl rfl rfl
theorem zd_325_116 : decode prog_14_method_78_code 116 = .ok (.aload_n 0, 1) := zsh_g zdk_325 (r := 29) (k := 0) rfl rfl rfl
theorem zd_325_117 : decode prog_14_method_78_code 117 = .ok (.ldc2_w 848, 3) := zsh_g zdk_325 (r := 29) (k := 1) rfl rfl rfl
theorem zd_325_120 : decode prog_14_method_78_code 120 = .ok (.invokevirtual 761, 3) := zsh_g zdk_325 (r := 30) (k := 0) rfl rfl rfl
theorem zd_325_123 : decode prog_14_method_78_code 123 = .ok (.aload_n 0, 1) := zsh_g zdk_325 (r := 30) (k := 1) rfl rfl rfl
theorem zd_325_124 : decode prog_14_method_78_code 124 = .ok (.ldc2_w 804, 3) := zsh_g zdk_325 (r := 31) (k := 0) rfl rfl rfl
theorem zd_325_127 : decode prog_14_method_78_code 127 = .ok (.invokevirtual 758, 3) := zsh_g zdk_325 (r := 31) (k := 1) rfl rfl rfl
theorem zd_325_130 : decode prog_14_method_78_code 130 = .ok (.aload_n 0, 1) := zsh_g zdk_325 (r := 32) (k := 0) rfl rfl rfl
theorem zd_325_131 : decode prog_14_method_78_code 131 = .ok (.invokevirtual 767, 3) := zsh_g zdk_325 (r := 32) (k := 1) rfl rfl rfl
theorem zd_325_134 : decode prog_14_method_78_code 134 = .ok (.aload_n 0, 1) := zsh_g zdk_325 (r := 33) (k := 0) rfl rfl rfl
theorem zd_325_135 : decode prog_14_method_78_code 135 = .ok (.ldc2_w 850, 3) := zsh_g zdk_325 (r := 33) (k := 1) rfl rfl rfl
theorem zd_325_138 : decode prog_14_method_78_code 138 = .ok (.invokevirtual 740, 3) := zsh_g zdk_325 (r := 34) (k := 0) rfl rfl rfl
theorem zd_325_141 : decode prog_14_method_78_code 141 = .ok (.aload_n 0, 1) := zsh_g zdk_325 (r := 35) (k := 0) rfl rfl rfl
theorem zd_325_142 : decode prog_14_method_78_code 142 = .ok (.invokevirtual 750, 3) := zsh_g zdk_325 (r := 35) (k := 1) rfl rfl rfl
theorem zd_325_145 : decode prog_14_method_78_code 145 = .ok (.aload_n 0, 1) := zsh_g zdk_325 (r := 36) (k := 0) rfl rfl rfl
theorem zd_325_146 : decode prog_14_method_78_code 146 = .ok (.ldc2_w 852, 3) := zsh_g zdk_325 (r := 36) (k := 1) rfl rfl rfl
theorem zd_325_149 : decode prog_14_method_78_code 149 = .ok (.invokevirtual 761, 3) := zsh_g zdk_325 (r := 37) (k := 0) rfl rfl rfl
theorem zd_325_152 : decode prog_14_method_78_code 152 = .ok (.aload_n 0, 1) := zsh_g zdk_325 (r := 38) (k := 0) rfl rfl rfl
theorem zd_325_153 : decode prog_14_method_78_code 153 = .ok (.iload_n 3, 1) := zsh_g zdk_325 (r := 38) (k := 1) rfl rfl rfl
theorem zd_325_154 : decode prog_14_method_78_code 154 = .ok (.invokevirtual 764, 3) := zsh_g zdk_325 (r := 38) (k := 2) rfl rfl rfl
theorem zd_325_157 : decode prog_14_method_78_code 157 = .ok (.aload_n 0, 1) := zsh_g zdk_325 (r := 39) (k := 0) rfl rfl rfl
theorem zd_325_158 : decode prog_14_method_78_code 158 = .ok (.invokevirtual 767, 3) := zsh_g zdk_325 (r := 39) (k := 1) rfl rfl rfl
theorem zd_325_161 : decode prog_14_method_78_code 161 = .ok (.aload_n 0, 1) := zsh_g zdk_325 (r := 40) (k := 0) rfl rfl rfl
theorem zd_325_162 : decode prog_14_method_78_code 162 = .ok (.iload_n 3, 1) := zsh_g zdk_325 (r := 40) (k := 1) rfl rfl rfl
theorem zd_325_163 : decode prog_14_method_78_code 163 = .ok (.invokevirtual 764, 3) := zsh_g zdk_325 (r := 40) (k := 2) rfl rfl rfl
theorem zd_325_166 : decode prog_14_method_78_code 166 = .ok (.aload_n 0, 1) := zsh_g zdk_325 (r := 41) (k := 0) rfl rfl rfl
theorem zd_325_167 : decode prog_14_method_78_code 167 = .ok (.ldc2_w 854, 3) := zsh_g zdk_325 (r := 41) (k := 1) rfl rfl rfl
theorem zd_325_170 : decode prog_14_method_78_code 170 = .ok (.invokevirtual 740, 3) := zsh_g zdk_325 (r := 42) (k := 0) rfl rfl rfl
theorem zd_325_173 : decode prog_14_method_78_code 173 = .ok (.aload_n 0, 1) := zsh_g zdk_325 (r := 43) (k := 0) rfl rfl rfl
theorem zd_325_174 : decode prog_14_method_78_code 174 = .ok (.invokevirtual 750, 3) := zsh_g zdk_325 (r := 43) (k := 1) rfl rfl rfl
theorem zd_325_177 : decode prog_14_method_78_code 177 = .ok (.iload_n 2, 1) := zsh_g zdk_325 (r := 44) (k := 0) rfl rfl rfl
theorem zd_325_178 : decode prog_14_method_78_code 178 = .ok (.ifCond .lt 39, 3) := zsh_g zdk_325 (r := 44) (k := 1) rfl rfl rfl
theorem zd_325_181 : decode prog_14_method_78_code 181 = .ok (.aload_n 0, 1) := zsh_g zdk_325 (r := 45) (k := 0) rfl rfl rfl
theorem zd_325_182 : decode prog_14_method_78_code 182 = .ok (.ldc2_w 856, 3) := zsh_g zdk_325 (r := 45) (k := 1) rfl rfl rfl
theorem zd_325_185 : decode prog_14_method_78_code 185 = .ok (.invokevirtual 761, 3) := zsh_g zdk_325 (r := 46) (k := 0) rfl rfl rfl
theorem zd_325_188 : decode prog_14_method_78_code 188 = .ok (.aload_n 0, 1) := zsh_g zdk_325 (r := 47) (k := 0) rfl rfl rfl
theorem zd_325_189 : decode prog_14_method_78_code 189 = .ok (.iload_n 3, 1) := zsh_g zdk_325 (r := 47) (k := 1) rfl rfl rfl
theorem zd_325_190 : decode prog_14_method_78_code 190 = .ok (.invokevirtual 764, 3) := zsh_g zdk_325 (r := 47) (k := 2) rfl rfl rfl
theorem zd_325_193 : decode prog_14_method_78_code 193 = .ok (.aload_n 0, 1) := zsh_g zdk_325 (r := 48) (k := 0) rfl rfl rfl
theorem zd_325_194 : decode prog_14_method_78_code 194 = .ok (.invokevirtual 767, 3) := zsh_g zdk_325 (r := 48) (k := 1) rfl rfl rfl
theorem zd_325_197 : decode prog_14_method_78_code 197 = .ok (.aload_n 0, 1) := zsh_g zdk_325 (r := 49) (k := 0) rfl rfl rfl
theorem zd_325_198 : decode prog_14_method_78_code 198 = .ok (.iload_n 3, 1) := zsh_g zdk_325 (r := 49) (k := 1) rfl rfl rfl
theorem zd_325_199 : decode prog_14_method_78_code 199 = .ok (.invokevirtual 764, 3) := zsh_g zdk_325 (r := 49) (k := 2) rfl rfl rfl
theorem zd_325_202 : decode prog_14_method_78_code 202 = .ok (.aload_n 0, 1) := zsh_g zdk_325 (r := 50) (k := 0) rfl rfl rfl
theorem zd_325_203 : decode prog_14_method_78_code 203 = .ok (.invokevirtual 767, 3) := zsh_g zdk_325 (r := 50) (k := 1) rfl rfl rfl
theorem zd_325_206 : decode prog_14_method_78_code 206 = .ok (.aload_n 0, 1) := zsh_g zdk_325 (r := 51) (k := 0) rfl rfl rfl
theorem zd_325_207 : decode prog_14_method_78_code 207 = .ok (.ldc2_w 756, 3) := zsh_g zdk_325 (r := 51) (k := 1) rfl rfl rfl
theorem zd_325_210 : decode prog_14_method_78_code 210 = .ok (.invokevirtual 758, 3) := zsh_g zdk_325 (r := 52) (k := 0) rfl rfl rfl
theorem zd_325_213 : decode prog_14_method_78_code 213 = .ok (.aload_n 0, 1) := zsh_g zdk_325 (r := 53) (k := 0) rfl rfl rfl
theorem zd_325_214 : decode prog_14_method_78_code 214 = .ok (.invokevirtual 750, 3) := zsh_g zdk_325 (r := 53) (k := 1) rfl rfl rfl
def zdl_326 : List (List (Nat × Instr × Nat)) := [[(0, (.iload 4), 2), (2, (.ifCond .ge 124), 3)], [(1, (.aload_n 0), 1), (2, (.ldc2_w 858), 3)], [(1, (.invokevirtual 761), 3)], [(0, (.aload_n 0), 1), (1, (.ldc2_w 804), 3)], [(0, (.invokevirtual 758), 3), (3, (.aload_n 0), 1)], [(0, (.ldc2_w 860), 3), (3, (.invokevirtual 740), 3)], [(2, (.aload_n 0), 1), (3, (.iload_n 3), 1)], [(0, (.invokevirtual 774), 3), (3, (.aload_n 0), 1)], [(0, (.bipush 41), 2), (2, (.invokevirtual 731), 3)], [(1, (.aload_n 0), 1), (2, (.invokevirtual 750), 3)], [(1, (.aload_n 0), 1), (2, (.ldc2_w 856), 3)], [(1, (.invokevirtual 761), 3)], [(0, (.aload_n 0), 1), (1, (.ldc2_w 804), 3)], [(0, (.invokevirtual 758), 3), (3, (.aload_n 0), 1)], [(0, (.invokevirtual 767), 3), (3, (.aload_n 0), 1)], [(0, (.ldc2_w 804), 3), (3, (.invokevirtual 758), 3)], [(2, (.aload_n 0), 1), (3, (.invokevirtual 767), 3)], [(2, (.aload_n 0), 1), (3, (.iload 6), 2)], [(1, (.invokevirtual 764), 3)], [(0, (.aload_n 0), 1), (1, (.invokevirtual 750), 3)], [(0, (.aload_n 0), 1), (1, (.lload_n 1), 1), (2, (.invokevirtual 761), 3)], [(1, (.aload_n 0), 1), (2, (.iload 5), 2)], [(0, (.invokevirtual 764), 3), (3, (.aload_n 0), 1)], [(0, (.ldc2_w 862), 3), (3, (.invokevirtual 740), 3)], [(2, (.aload_n 0), 1), (3, (.iload_n 3), 1)], [(0, (.invokevirtual 774), 3), (3, (.aload_n 0), 1)], [(0, (.ldc2_w 864), 3), (3, (.invokevirtual 740), 3)], [(2, (.aload_n 0), 1), (3, (.ldc2_w 804), 3)], [(2, (.invokevirtual 758), 3)], [(1, (.aload_n 0), 1), (2, (.bipush 41), 2)], [(0, (.invokevirtual 731), 3), (3, (.goto 42), 3)], [(2, (.aload_n 0), 1), (3, (.lload_n 1), 1)], [(0, (.invokevirtual 761), 3), (3, (.aload_n 0), 1)], [(0, (.iload 5), 2), (2, (.invokevirtual 764), 3)], [(1, (.aload_n 0), 1), (2, (.invokevirtual 767), 3)], [(1, (.aload_n 0), 1), (2, (.iload 4), 2)], [(0, (.invokevirtual 744), 3), (3, (.aload_n 0), 1)], [(0, (.bipush 40), 2), (2, (.invokevirtual 731), 3)], [(1, (.aload_n 0), 1), (2, (.iload 6), 2)], [(0, (.invokevirtual 764), 3), (3, (.aload_n 0), 1)], [(0, (.bipush 41), 2), (2, (.invokevirtual 731), 3)], [(1, (.aload_n 0), 1), (2, (.invokevirtual 750), 3)]]
theorem zdk_326 : zsh_all 8 zdl_326 prog_14_method_79_code.data.toList = true := by decide +kernel
theorem zd_326_0 : decode prog_14_method_79_code 0 = .ok (.iload 4, 2) := zsh_g zdk_326 (r := 0) (k := 0) rfl rfl rfl
theorem zd_326_2 : decode prog_14_method_79_code 2 = .ok (.ifCond .ge 124, 3) := zsh_g zdk_326 (r := 0) (k := 1) rfl rfl rfl
theorem zd_326_5 : decode prog_14_method_79_code 5 = .ok (.aload_n 0, 1) := zsh_g zdk_326 (r := 1) (k := 0) rfl rfl rfl
theorem zd_326_6 : decode prog_14_method_79_code 6 = .ok (.ldc2_w 858, 3) := zsh_g zdk_326 (r := 1) (k := 1) rfl rfl rfl
theorem zd_326_9 : decode prog_14_method_79_code 9 = .ok (.invokevirtual 761, 3) := zsh_g zdk_326 (r := 2) (k := 0) rfl rfl rfl
theorem zd_326_12 : decode prog_14_method_79_code 12 = .ok (.aload_n 0, 1) := zsh_g zdk_326 (r := 3) (k := 0) rfl rfl rfl
theorem zd_326_13 : decode prog_14_method_79_code 13 = .ok (.ldc2_w 804, 3) := zsh_g zdk_326 (r := 3) (k := 1) rfl rfl rfl
theorem zd_326_16 : decode prog_14_method_79_code 16 = .ok (.invokevirtual 758, 3) := zsh_g zdk_326 (r := 4) (k := 0) rfl rfl rfl
theorem zd_326_19 : decode prog_14_method_79_code 19 = .ok (.aload_n 0, 1) := zsh_g zdk_326 (r := 4) (k := 1) rfl rfl rfl
theorem zd_326_20 : decode prog_14_method_79_code 20 = .ok (.ldc2_w 860, 3) := zsh_g zdk_326 (r := 5) (k := 0) rfl rfl rfl
theorem zd_326_23 : decode prog_14_method_79_code 23 = .ok (.invokevirtual 740, 3) := zsh_g zdk_326 (r := 5) (k := 1) rfl rfl rfl
theorem zd_326_26 : decode prog_14_method_79_code 26 = .ok (.aload_n 0, 1) := zsh_g zdk_326 (r := 6) (k := 0) rfl rfl rfl
theorem zd_326_27 : decode prog_14_method_79_code 27 = .ok (.iload_n 3, 1) := zsh_g zdk_326 (r := 6) (k := 1) rfl rfl rfl
theorem zd_326_28 : decode prog_14_method_79_code 28 = .ok (.invokevirtual 774, 3) := zsh_g zdk_326 (r := 7) (k := 0) rfl rfl rfl
theorem zd_326_31 : decode prog_14_method_79_code 31 = .ok (.aload_n 0, 1) := zsh_g zdk_326 (r := 7) (k := 1) rfl rfl rfl
theorem zd_326_32 : decode prog_14_method_79_code 32 = .ok (.bipush 41, 2) := zsh_g zdk_326 (r := 8) (k := 0) rfl rfl rfl
theorem zd_326_34 : decode prog_14_method_79_code 34 = .ok (.invokevirtual 731, 3) := zsh_g zdk_326 (r := 8) (k := 1) rfl rfl rfl
theorem zd_326_37 : decode prog_14_method_79_code 37 = .ok (.aload_n 0, 1) := zsh_g zdk_326 (r := 9) (k := 0) rfl rfl rfl
theorem zd_326_38 : decode prog_14_method_79_code 38 = .ok (.invokevirtual 750, 3) := zsh_g zdk_326 (r := 9) (k := 1) rfl rfl rfl
theorem zd_326_41 : decode prog_14_method_79_code 41 = .ok (.aload_n 0, 1) := zsh_g zdk_326 (r := 10) (k := 0) rfl rfl rfl
theorem zd_326_42 : decode prog_14_method_79_code 42 = .ok (.ldc2_w 856, 3) := zsh_g zdk_326 (r := 10) (k := 1) rfl rfl rfl
theorem zd_326_45 : decode prog_14_method_79_code 45 = .ok (.invokevirtual 761, 3) := zsh_g zdk_326 (r := 11) (k := 0) rfl rfl rfl
theorem zd_326_48 : decode prog_14_method_79_code 48 = .ok (.aload_n 0, 1) := zsh_g zdk_326 (r := 12) (k := 0) rfl rfl rfl
theorem zd_326_49 : decode prog_14_method_79_code 49 = .ok (.ldc2_w 804, 3) := zsh_g zdk_326 (r := 12) (k := 1) rfl rfl rfl
theorem zd_326_52 : decode prog_14_method_79_code 52 = .ok (.invokevirtual 758, 3) := zsh_g zdk_326 (r := 13) (k := 0) rfl rfl rfl
theorem zd_326_55 : decode prog_14_method_79_code 55 = .ok (.aload_n 0, 1) := zsh_g zdk_326 (r := 13) (k := 1) rfl rfl rfl
theorem zd_326_56 : decode prog_14_method_79_code 56 = .ok (.invokevirtual 767, 3) := zsh_g zdk_326 (r := 14) (k := 0) rfl rfl rfl
theorem zd_326_59 : decode prog_14_method_79_code 59 = .ok (.aload_n 0, 1) := zsh_g zdk_326 (r := 14) (k := 1) rfl rfl rfl
theorem zd_326_60 : decode prog_14_method_79_code 60 = .ok (.ldc2_w 804, 3) := zsh_g zdk_326 (r := 15) (k := 0) rfl rfl rfl
theorem zd_326_63 : decode prog_14_method_79_code 63 = .ok (.invokevirtual 758, 3) := zsh_g zdk_326 (r := 15) (k := 1) rfl rfl rfl
theorem zd_326_66 : decode prog_14_method_79_code 66 = .ok (.aload_n 0, 1) := zsh_g zdk_326 (r := 16) (k := 0) rfl rfl rfl
theorem zd_326_67 : decode prog_14_method_79_code 67 = .ok (.invokevirtual 767, 3) := zsh_g zdk_326 (r := 16) (k := 1) rfl rfl rfl
theorem zd_326_70 : decode prog_14_method_79_code 70 = .ok (.aload_n 0, 1) := zsh_g zdk_326 (r := 17) (k := 0) rfl rfl rfl
theorem zd_326_71 : decode prog_14_method_79_code 71 = .ok (.iload 6, 2) := zsh_g zdk_326 (r := 17) (k := 1) rfl rfl rfl
theorem zd_326_73 : decode prog_14_method_79_code 73 = .ok (.invokevirtual 764, 3) := zsh_g zdk_326 (r := 18) (k := 0) rfl rfl rfl
theorem zd_326_76 : decode prog_14_method_79_code 76 = .ok (.aload_n 0, 1) := zsh_g zdk_326 (r := 19) (k := 0) rfl rfl rfl
theorem zd_326_77 : decode prog_14_method_79_code 77 = .ok (.invokevirtual 750, 3) := zsh_g zdk_326 (r := 19) (k := 1) rfl rfl rfl
theorem zd_326_80 : decode prog_14_method_79_code 80 = .ok (.aload_n 0, 1) := zsh_g zdk_326 (r := 20) (k := 0) rfl rfl rfl
theorem zd_326_81 : decode prog_14_method_79_code 81 = .ok (.lload_n 1, 1) := zsh_g zdk_326 (r := 20) (k := 1) rfl rfl rfl
theorem zd_326_82 : decode prog_14_method_79_code 82 = .ok (.invokevirtual 761, 3) := zsh_g zdk_326 (r := 20) (k := 2) rfl rfl rfl
theorem zd_326_85 : decode prog_14_method_79_code 85 = .ok (.aload_n 0, 1) := zsh_g zdk_326 (r := 21) (k := 0) rfl rfl rfl
theorem zd_326_86 : decode prog_14_method_79_code 86 = .ok (.iload 5, 2) := zsh_g zdk_326 (r := 21) (k := 1) rfl rfl rfl
theorem zd_326_88 : decode prog_14_method_79_code 88 = .ok (.invokevirtual 764, 3) := zsh_g zdk_326 (r := 22) (k := 0) rfl rfl rfl
theorem zd_326_91 : decode prog_14_method_79_code 91 = .ok (.aload_n 0, 1) := zsh_g zdk_326 (r := 22) (k := 1) rfl rfl rfl
theorem zd_326_92 : decode prog_14_method_79_code 92 = .ok (.ldc2_w 862, 3) := zsh_g zdk_326 (r := 23) (k := 0) rfl rfl rfl
theorem zd_326_95 : decode prog_14_method_79_code 95 = .ok (.invokevirtual 740, 3) := zsh_g zdk_326 (r := 23) (k := 1) rfl rfl rfl
theorem zd_326_98 : decode prog_14_method_79_code 98 = .ok (.aload_n 0, 1) := zsh_g zdk_326 (r := 24) (k := 0) rfl rfl rfl
theorem zd_326_99 : decode prog_14_method_79_code 99 = .ok (.iload_n 3, 1) := zsh_g zdk_326 (r := 24) (k := 1) rfl rfl rfl
theorem zd_326_100 : decode prog_14_method_79_code 100 = .ok (.invokevirtual 774, 3) := zsh_g zdk_326 (r := 25) (k := 0) rfl rfl rfl
theorem zd_326_103 : decode prog_14_method_79_code 103 = .ok (.aload_n 0, 1) := zsh_g zdk_326 (r := 25) (k := 1) rfl rfl rfl
theorem zd_326_104 : decode prog_14_method_79_code 104 = .ok (.ldc2_w 864, 3) := zsh_g zdk_326 (r := 26) (k := 0) rfl rfl rfl
theorem zd_326_107 : decode prog_14_method_79_code 107 = .ok (.invokevirtual 740, 3) := zsh_g zdk_326 (r := 26) (k := 1) rfl rfl rfl
theorem zd_326_110 : decode prog_14_method_79_code 110 = .ok (.aload_n 0, 1) := zsh_g zdk_326 (r := 27) (k := 0) rfl rfl rfl
theorem zd_326_111 : decode prog_14_method_79_code 111 = .ok (.ldc2_w 804, 3) := zsh_g zdk_326 (r := 27) (k := 1) rfl rfl rfl
theorem zd_326_114 : decode prog_14_method_79_code 114 = .ok (.invokevirtual 758, 3) := zsh_g zdk_326 (r := 28) (k := 0) rfl rfl rfl
theorem zd_326_117 : decode prog_14_method_79_code 117 = .ok (.aload_n 0, 1) := zsh_g zdk_326 (r := 29) (k := 0) rfl rfl rfl
theorem zd_326_118 : decode prog_14_method_79_code 118 = .ok (.bipush 41, 2) := zsh_g zdk_326 (r := 29) (k := 1) rfl rfl rfl
theorem zd_326_120 : decode prog_14_method_79_code 120 = .ok (.invokevirtual 731, 3) := zsh_g zdk_326 (r := 30) (k := 0) rfl rfl rfl
theorem zd_326_123 : decode prog_14_method_79_code 123 = .ok (.goto 42, 3) := zsh_g zdk_326 (r := 30) (k := 1) rfl rfl rfl
theorem zd_326_126 : decode prog_14_method_79_code 126 = .ok (.aload_n 0, 1) := zsh_g zdk_326 (r := 31) (k := 0) rfl rfl rfl
theorem zd_326_127 : decode prog_14_method_79_code 127 = .ok (.lload_n 1, 1) := zsh_g zdk_326 (r := 31) (k := 1) rfl rfl rfl
theorem zd_326_128 : decode prog_14_method_79_code 128 = .ok (.invokevirtual 761, 3) := zsh_g zdk_326 (r := 32) (k := 0) rfl rfl rfl
theorem zd_326_131 : decode prog_14_method_79_code 131 = .ok (.aload_n 0, 1) := zsh_g zdk_326 (r := 32) (k := 1) rfl rfl rfl
theorem zd_326_132 : decode prog_14_method_79_code 132 = .ok (.iload 5, 2) := zsh_g zdk_326 (r := 33) (k := 0) rfl rfl rfl
theorem zd_326_134 : decode prog_14_method_79_code 134 = .ok (.invokevirtual 764, 3) := zsh_g zdk_326 (r := 33) (k := 1) rfl rfl rfl
theorem zd_326_137 : decode prog_14_method_79_code 137 = .ok (.aload_n 0, 1) := zsh_g zdk_326 (r := 34) (k := 0) rfl rfl rfl
theorem zd_326_138 : decode prog_14_method_79_code 138 = .ok (.invokevirtual 767, 3) := zsh_g zdk_326 (r := 34) (k := 1) rfl rfl rfl
theorem zd_326_141 : decode prog_14_method_79_code 141 = .ok (.aload_n 0, 1) := zsh_g zdk_326 (r := 35) (k := 0) rfl rfl rfl
theorem zd_326_142 : decode prog_14_method_79_code 142 = .ok (.iload 4, 2) := zsh_g zdk_326 (r := 35) (k := 1) rfl rfl rfl
theorem zd_326_144 : decode prog_14_method_79_code 144 = .ok (.invokevirtual 744, 3) := zsh_g zdk_326 (r := 36) (k := 0) rfl rfl rfl
theorem zd_326_147 : decode prog_14_method_79_code 147 = .ok (.aload_n 0, 1) := zsh_g zdk_326 (r := 36) (k := 1) rfl rfl rfl
theorem zd_326_148 : decode prog_14_method_79_code 148 = .ok (.bipush 40, 2) := zsh_g zdk_326 (r := 37) (k := 0) rfl rfl rfl
theorem zd_326_150 : decode prog_14_method_79_code 150 = .ok (.invokevirtual 731, 3) := zsh_g zdk_326 (r := 37) (k := 1) rfl rfl rfl
theorem zd_326_153 : decode prog_14_method_79_code 153 = .ok (.aload_n 0, 1) := zsh_g zdk_326 (r := 38) (k := 0) rfl rfl rfl
theorem zd_326_154 : decode prog_14_method_79_code 154 = .ok (.iload 6, 2) := zsh_g zdk_326 (r := 38) (k := 1) rfl rfl rfl
theorem zd_326_156 : decode prog_14_method_79_code 156 = .ok (.invokevirtual 764, 3) := zsh_g zdk_326 (r := 39) (k := 0) rfl rfl rfl
theorem zd_326_159 : decode prog_14_method_79_code 159 = .ok (.aload_n 0, 1) := zsh_g zdk_326 (r := 39) (k := 1) rfl rfl rfl
theorem zd_326_160 : decode prog_14_method_79_code 160 = .ok (.bipush 41, 2) := zsh_g zdk_326 (r := 40) (k := 0) rfl rfl rfl
theorem zd_326_162 : decode prog_14_method_79_code 162 = .ok (.invokevirtual 731, 3) := zsh_g zdk_326 (r := 40) (k := 1) rfl rfl rfl
theorem zd_326_165 : decode prog_14_method_79_code 165 = .ok (.aload_n 0, 1) := zsh_g zdk_326 (r := 41) (k := 0) rfl rfl rfl
theorem zd_326_166 : decode prog_14_method_79_code 166 = .ok (.invokevirtual 750, 3) := zsh_g zdk_326 (r := 41) (k := 1) rfl rfl rfl
def zdl_327 : List (List (Nat × Instr × Nat)) := [[(0, (.iconst 4), 1), (1, (.aload_n 0), 1), (2, (.getfield 211), 3)], [(1, (.aload_n 0), 1), (2, (.getfield 781), 3)], [(1, .iaload, 1), (2, (.iconst 3), 1), (3, .isub, 1)], [(0, (.aload_n 0), 1), (1, (.getfield 220), 3)], [(0, (.aload_n 0), 1), (1, (.getfield 781), 3)], [(0, .iaload, 1), (1, .iadd, 1), (2, .imul, 1), (3, (.istore 5), 2)], [(1, (.iconst 0), 1), (2, (.istore 6), 2)], [(0, (.iload 6), 2), (2, (.iload_n 3), 1), (3, (.if_icmp .ge 37), 3)], [(2, (.aload_n 0), 1), (3, (.ldc2_w 812), 3)], [(2, (.invokevirtual 761), 3)], [(1, (.aload_n 0), 1), (2, (.iload 6), 2)], [(0, (.invokevirtual 764), 3), (3, (.aload_n 0), 1)], [(0, (.invokevirtual 767), 3), (3, (.aload_n 0), 1)], [(0, (.iload 5), 2), (2, (.iconst 4), 1), (3, (.iload 6), 2)], [(1, .imul, 1), (2, .iadd, 1), (3, (.invokevirtual 816), 3)], [(2, (.iinc 6 1), 3)], [(1, (.goto (-37)), 3)], [(0, (.iconst 0), 1), (1, (.istore 6), 2), (3, (.iload 6), 2)], [(1, (.iload_n 2), 1), (2, (.if_icmp .ge 38), 3)], [(1, (.aload_n 0), 1), (2, (.ldc2_w 834), 3)], [(1, (.invokevirtual 761), 3)], [(0, (.aload_n 0), 1), (1, (.iload 6), 2), (3, (.invokevirtual 819), 3)], [(2, (.aload_n 0), 1), (3, (.invokevirtual 767), 3)], [(2, (.aload_n 0), 1), (3, (.iload_n 3), 1)], [(0, (.iload 6), 2), (2, .iadd, 1), (3, (.invokevirtual 764), 3)], [(2, (.aload_n 0), 1), (3, (.invokevirtual 750), 3)], [(2, (.iinc 6 1), 3)], [(1, (.goto (-38)), 3)], [(0, (.aload_n 0), 1), (1, (.ldc2_w 866), 3)], [(0, (.invokevirtual 761), 3), (3, (.aload_n 0), 1)], [(0, (.iload_n 1), 1), (1, (.invokevirtual 774), 3)], [(0, (.aload_n 0), 1), (1, (.invokevirtual 750), 3)], [(0, (.iconst 0), 1), (1, (.istore 6), 2), (3, (.iload 6), 2)], [(1, (.iload_n 3), 1), (2, (.if_icmp .ge 37), 3)], [(1, (.aload_n 0), 1), (2, (.ldc2_w 838), 3)], [(1, (.invokevirtual 761), 3)], [(0, (.aload_n 0), 1), (1, (.iload 6), 2), (3, (.invokevirtual 764), 3)], [(2, (.aload_n 0), 1), (3, (.invokevirtual 767), 3)], [(2, (.aload_n 0), 1), (3, (.iload 5), 2)], [(1, (.iconst 4), 1), (2, (.iload 6), 2)], [(0, .imul, 1), (1, .iadd, 1), (2, (.invokevirtual 816), 3)], [(1, (.iinc 6 1), 3)], [(0, (.goto (-37)), 3), (3, (.iload 4), 2)], [(1, (.ifCond .ne 30), 3)], [(0, (.aload_n 0), 1), (1, (.ldc2_w 834), 3)], [(0, (.invokevirtual 761), 3), (3, (.aload_n 0), 1)], [(0, (.iload_n 3), 1), (1, (.invokevirtual 764), 3)], [(0, (.aload_n 0), 1), (1, (.invokevirtual 767), 3)], [(0, (.aload_n 0), 1), (1, (.ldc2_w 836), 3)], [(0, (.invokevirtual 758), 3), (3, (.aload_n 0), 1)], [(0, (.invokevirtual 750), 3)]]
theorem zdk_327 : zsh_all 8 zdl_327 prog_14_method_80_code.data.toList = true := by decide +kernel
theorem zd_327_0 : decode prog_14_method_80_code 0 = .ok (.iconst 4, 1) := zsh_g zdk_327 (r := 0) (k := 0) rfl rfl rfl
theorem zd_327_1 : decode prog_14_method_80_code 1 = .ok (.aload_n 0, 1) := zsh_g zdk_327 (r := 0) (k := 1) rfl rfl rfl
theorem zd_327_2 : decode prog_14_method_80_code 2 = .ok (.getfield 211, 3) := zsh_g zdk_327 (r := 0) (k := 2) rfl rfl rfl
theorem zd_327_5 : decode prog_14_method_80_code 5 = .ok (.aload_n 0, 1) := zsh_g zdk_327 (r := 1) (k := 0) rfl rfl rfl
theorem zd_327_6 : decode prog_14_method_80_code 6 = .ok (.getfield 781, 3) := zsh_g zdk_327 (r := 1) (k := 1) rfl rfl rfl
theorem zd_327_9 : decode prog_14_method_80_code 9 = .ok (.iaload, 1) := zsh_g zdk_327 (r := 2) (k := 0) rfl rfl rfl
theorem zd_327_10 : decode prog_14_method_80_code 10 = .ok (.iconst 3, 1) := zsh_g zdk_327 (r := 2) (k := 1) rfl rfl rfl
theorem zd_327_11 : decode prog_14_method_80_code 11 = .ok (.isub, 1) := zsh_g zdk_327 (r := 2) (k := 2) rfl rfl rfl
theorem zd_327_12 : decode prog_14_method_80_code 12 = .ok (.aload_n 0, 1) := zsh_g zdk_327 (r := 3) (k := 0) rfl rfl rfl
theorem zd_327_13 : decode prog_14_method_80_code 13 = .ok (.getfield 220, 3) := zsh_g zdk_327 (r := 3) (k := 1) rfl rfl rfl
theorem zd_327_16 : decode prog_14_method_80_code 16 = .ok (.aload_n 0, 1) := zsh_g zdk_327 (r := 4) (k := 0) rfl rfl rfl
theorem zd_327_17 : decode prog_14_method_80_code 17 = .ok (.getfield 781, 3) := zsh_g zdk_327 (r := 4) (k := 1) rfl rfl rfl
theorem zd_327_20 : decode prog_14_method_80_code 20 = .ok (.iaload, 1) := zsh_g zdk_327 (r := 5) (k := 0) rfl rfl rfl
theorem zd_327_21 : decode prog_14_method_80_code 21 = .ok (.iadd, 1) := zsh_g zdk_327 (r := 5) (k := 1) rfl rfl rfl
theorem zd_327_22 : decode prog_14_method_80_code 22 = .ok (.imul, 1) := zsh_g zdk_327 (r := 5) (k := 2) rfl rfl rfl
theorem zd_327_23 : decode prog_14_method_80_code 23 = .ok (.istore 5, 2) := zsh_g zdk_327 (r := 5) (k := 3) rfl rfl rfl
theorem zd_327_25 : decode prog_14_method_80_code 25 = .ok (.iconst 0, 1) := zsh_g zdk_327 (r := 6) (k := 0) rfl rfl rfl
theorem zd_327_26 : decode prog_14_method_80_code 26 = .ok (.istore 6, 2) := zsh_g zdk_327 (r := 6) (k := 1) rfl rfl rfl
theorem zd_327_28 : decode prog_14_method_80_code 28 = .ok (.iload 6, 2) := zsh_g zdk_327 (r := 7) (k := 0) rfl rfl rfl
theorem zd_327_30 : decode prog_14_method_80_code 30 = .ok (.iload_n 3, 1) := zsh_g zdk_327 (r := 7) (k := 1) rfl rfl rfl
theorem zd_327_31 : decode prog_14_method_80_code 31 = .ok (.if_icmp .ge 37, 3) := zsh_g zdk_327 (r := 7) (k := 2) rfl rfl rfl
theorem zd_327_34 : decode prog_14_method_80_code 34 = .ok (.aload_n 0, 1) := zsh_g zdk_327 (r := 8) (k := 0) rfl rfl rfl
theorem zd_327_35 : decode prog_14_method_80_code 35 = .ok (.ldc2_w 812, 3) := zsh_g zdk_327 (r := 8) (k := 1) rfl rfl rfl
theorem zd_327_38 : decode prog_14_method_80_code 38 = .ok (.invokevirtual 761, 3) := zsh_g zdk_327 (r := 9) (k := 0) rfl rfl rfl
theorem zd_327_41 : decode prog_14_method_80_code 41 = .ok (.aload_n 0, 1) := zsh_g zdk_327 (r := 10) (k := 0) rfl rfl rfl
theorem zd_327_42 : decode prog_14_method_80_code 42 = .ok (.iload 6, 2) := zsh_g zdk_327 (r := 10) (k := 1) rfl rfl rfl
theorem zd_327_44 : decode prog_14_method_80_code 44 = .ok (.invokevirtual 764, 3) := zsh_g zdk_327 (r := 11) (k := 0) rfl rfl rfl
theorem zd_327_47 : decode prog_14_method_80_code 47 = .ok (.aload_n 0, 1) := zsh_g zdk_327 (r := 11) (k := 1) rfl rfl rfl
theorem zd_327_48 : decode prog_14_method_80_code 48 = .ok (.invokevirtual 767, 3) := zsh_g zdk_327 (r := 12) (k := 0) rfl rfl rfl
theorem zd_327_51 : decode prog_14_method_80_code 51 = .ok (.aload_n 0, 1) := zsh_g zdk_327 (r := 12) (k := 1) rfl rfl rfl
theorem zd_327_52 : decode prog_14_method_80_code 52 = .ok (.iload 5, 2) := zsh_g zdk_327 (r := 13) (k := 0) rfl rfl rfl
theorem zd_327_54 : decode prog_14_method_80_code 54 = .ok (.iconst 4, 1) := zsh_g zdk_327 (r := 13) (k := 1) rfl rfl rfl
theorem zd_327_55 : decode prog_14_method_80_code 55 = .ok (.iload 6, 2) := zsh_g zdk_327 (r := 13) (k := 2) rfl rfl rfl
theorem zd_327_57 : decode prog_14_method_80_code 57 = .ok (.imul, 1) := zsh_g zdk_327 (r := 14) (k := 0) rfl rfl rfl
theorem zd_327_58 : decode prog_14_method_80_code 58 = .ok (.iadd, 1) := zsh_g zdk_327 (r := 14) (k := 1) rfl rfl rfl
theorem zd_327_59 : decode prog_14_method_80_code 59 = .ok (.invokevirtual 816, 3) := zsh_g zdk_327 (r := 14) (k := 2) rfl rfl rfl
theorem zd_327_62 : decode prog_14_method_80_code 62 = .ok (.iinc 6 1, 3) := zsh_g zdk_327 (r := 15) (k := 0) rfl rfl rfl
theorem zd_327_65 : decode prog_14_method_80_code 65 = .ok (.goto (-37), 3) := zsh_g zdk_327 (r := 16) (k := 0) rfl rfl rfl
theorem zd_327_68 : decode prog_14_method_80_code 68 = .ok (.iconst 0, 1) := zsh_g zdk_327 (r := 17) (k := 0) rfl rfl rfl
theorem zd_327_69 : decode prog_14_method_80_code 69 = .ok (.istore 6, 2) := zsh_g zdk_327 (r := 17) (k := 1) rfl rfl rfl
theorem zd_327_71 : decode prog_14_method_80_code 71 = .ok (.iload 6, 2) := zsh_g zdk_327 (r := 17) (k := 2) rfl rfl rfl
theorem zd_327_73 : decode prog_14_method_80_code 73 = .ok (.iload_n 2, 1) := zsh_g zdk_327 (r := 18) (k := 0) rfl rfl rfl
theorem zd_327_74 : decode prog_14_method_80_code 74 = .ok (.if_icmp .ge 38, 3) := zsh_g zdk_327 (r := 18) (k := 1) rfl rfl rfl
theorem zd_327_77 : decode prog_14_method_80_code 77 = .ok (.aload_n 0, 1) := zsh_g zdk_327 (r := 19) (k := 0) rfl rfl rfl
theorem zd_327_78 : decode prog_14_method_80_code 78 = .ok (.ldc2_w 834, 3) := zsh_g zdk_327 (r := 19) (k := 1) rfl rfl rfl
theorem zd_327_81 : decode prog_14_method_80_code 81 = .ok (.invokevirtual 761, 3) := zsh_g zdk_327 (r := 20) (k := 0) rfl rfl rfl
theorem zd_327_84 : decode prog_14_method_80_code 84 = .ok (.aload_n 0, 1) := zsh_g zdk_327 (r := 21) (k := 0) rfl rfl rfl
theorem zd_327_85 : decode prog_14_method_80_code 85 = .ok (.iload 6, 2) := zsh_g zdk_327 (r := 21) (k := 1) rfl rfl rfl
theorem zd_327_87 : decode prog_14_method_80_code 87 = .ok (.invokevirtual 819, 3) := zsh_g zdk_327 (r := 21) (k := 2) rfl rfl rfl
theorem zd_327_90 : decode prog_14_method_80_code 90 = .ok (.aload_n 0, 1) := zsh_g zdk_327 (r := 22) (k := 0) rfl rfl rfl
theorem zd_327_91 : decode prog_14_method_80_code 91 = .ok (.invokevirtual 767, 3) := zsh_g zdk_327 (r := 22) (k := 1) rfl rfl rfl
theorem zd_327_94 : decode prog_14_method_80_code 94 = .ok (.aload_n 0, 1) := zsh_g zdk_327 (r := 23) (k := 0) rfl rfl rfl
theorem zd_327_95 : decode prog_14_method_80_code 95 = .ok (.iload_n 3, 1) := zsh_g zdk_327 (r := 23) (k := 1) rfl rfl rfl
theorem zd_327_96 : decode prog_14_method_80_code 96 = .ok (.iload 6, 2) := zsh_g zdk_327 (r := 24) (k := 0) rfl rfl rfl
theorem zd_327_98 : decode prog_14_method_80_code 98 = .ok (.iadd, 1) := zsh_g zdk_327 (r := 24) (k := 1) rfl rfl rfl
theorem zd_327_99 : decode prog_14_method_80_code 99 = .ok (.invokevirtual 764, 3) := zsh_g zdk_327 (r := 24) (k := 2) rfl rfl rfl
theorem zd_327_102 : decode prog_14_method_80_code 102 = .ok (.aload_n 0, 1) := zsh_g zdk_327 (r := 25) (k := 0) rfl rfl rfl
theorem zd_327_103 : decode prog_14_method_80_code 103 = .ok (.invokevirtual 750, 3) := zsh_g zdk_327 (r := 25) (k := 1) rfl rfl rfl
theorem zd_327_106 : decode prog_14_method_80_code 106 = .ok (.iinc 6 1, 3) := zsh_g zdk_327 (r := 26) (k := 0) rfl rfl rfl
theorem zd_327_109 : decode prog_14_method_80_code 109 = .ok (.goto (-38), 3) := zsh_g zdk_327 (r := 27) (k := 0) rfl rfl rfl
theorem zd_327_112 : decode prog_14_method_80_code 112 = .ok (.aload_n 0, 1) := zsh_g zdk_327 (r := 28) (k := 0) rfl rfl rfl
theorem zd_327_113 : decode prog_14_method_80_code 113 = .ok (.ldc2_w 866, 3) := zsh_g zdk_327 (r := 28) (k := 1) rfl rfl rfl
theorem zd_327_116 : decode prog_14_method_80_code 116 = .ok (.invokevirtual 761, 3) := zsh_g zdk_327 (r := 29) (k := 0) rfl rfl rfl
theorem zd_327_119 : decode prog_14_method_80_code 119 = .ok (.aload_n 0, 1) := zsh_g zdk_327 (r := 29) (k := 1) rfl rfl rfl
theorem zd_327_120 : decode prog_14_method_80_code 120 = .ok (.iload_n 1, 1) := zsh_g zdk_327 (r := 30) (k := 0) rfl rfl rfl
theorem zd_327_121 : decode prog_14_method_80_code 121 = .ok (.invokevirtual 774, 3) := zsh_g zdk_327 (r := 30) (k := 1) rfl rfl rfl
theorem zd_327_124 : decode prog_14_method_80_code 124 = .ok (.aload_n 0, 1) := zsh_g zdk_327 (r := 31) (k := 0) rfl rfl rfl
theorem zd_327_125 : decode prog_14_method_80_code 125 = .ok (.invokevirtual 750, 3) := zsh_g zdk_327 (r := 31) (k := 1) rfl rfl rfl
theorem zd_327_128 : decode prog_14_method_80_code 128 = .ok (.iconst 0, 1) := zsh_g zdk_327 (r := 32) (k := 0) rfl rfl rfl
theorem zd_327_129 : decode prog_14_method_80_code 129 = .ok (.istore 6, 2) := zsh_g zdk_327 (r := 32) (k := 1) rfl rfl rfl
theorem zd_327_131 : decode prog_14_method_80_code 131 = .ok (.iload 6, 2) := zsh_g zdk_327 (r := 32) (k := 2) rfl rfl rfl
theorem zd_327_133 : decode prog_14_method_80_code 133 = .ok (.iload_n 3, 1) := zsh_g zdk_327 (r := 33) (k := 0) rfl rfl rfl
theorem zd_327_134 : decode prog_14_method_80_code 134 = .ok (.if_icmp .ge 37, 3) := zsh_g zdk_327 (r := 33) (k := 1) rfl rfl rfl
theorem zd_327_137 : decode prog_14_method_80_code 137 = .ok (.aload_n 0, 1) := zsh_g zdk_327 (r := 34) (k := 0) rfl rfl rfl
theorem zd_327_138 : decode prog_14_method_80_code 138 = .ok (.ldc2_w 838, 3) := zsh_g zdk_327 (r := 34) (k := 1) rfl rfl rfl
theorem zd_327_141 : decode prog_14_method_80_code 141 = .ok (.invokevirtual 761, 3) := zsh_g zdk_327 (r := 35) (k := 0) rfl rfl rfl
theorem zd_327_144 : decode prog_14_method_80_code 144 = .ok (.aload_n 0, 1) := zsh_g zdk_327 (r := 36) (k := 0) rfl rfl rfl
theorem zd_327_145 : decode prog_14_method_80_code 145 = .ok (.iload 6, 2) := zsh_g zdk_327 (r := 36) (k := 1) rfl rfl rfl
theorem zd_327_147 : decode prog_14_method_80_code 147 = .ok (.invokevirtual 764, 3) := zsh_g zdk_327 (r := 36) (k := 2) rfl rfl rfl
theorem zd_327_150 : decode prog_14_method_80_code 150 = .ok (.aload_n 0, 1) := zsh_g zdk_327 (r := 37) (k := 0) rfl rfl rfl
theorem zd_327_151 : decode prog_14_method_80_code 151 = .ok (.invokevirtual 767, 3) := zsh_g zdk_327 (r := 37) (k := 1) rfl rfl rfl
theorem zd_327_154 : decode prog_14_method_80_code 154 = .ok (.aload_n 0, 1) := zsh_g zdk_327 (r := 38) (k := 0) rfl rfl rfl
theorem zd_327_155 : decode prog_14_method_80_code 155 = .ok (.iload 5, 2) := zsh_g zdk_327 (r := 38) (k := 1) rfl rfl rfl
theorem zd_327_157 : decode prog_14_method_80_code 157 = .ok (.iconst 4, 1) := zsh_g zdk_327 (r := 39) (k := 0) rfl rfl rfl
theorem zd_327_158 : decode prog_14_method_80_code 158 = .ok (.iload 6, 2) := zsh_g zdk_327 (r := 39) (k := 1) rfl rfl rfl
theorem zd_327_160 : decode prog_14_method_80_code 160 = .ok (.imul, 1) := zsh_g zdk_327 (r := 40) (k := 0) rfl rfl rfl
theorem zd_327_161 : decode prog_14_method_80_code 161 = .ok (.iadd, 1) := zsh_g zdk_327 (r := 40) (k := 1) rfl rfl rfl
theorem zd_327_162 : decode prog_14_method_80_code 162 = .ok (.invokevirtual 816, 3) := zsh_g zdk_327 (r := 40) (k := 2) rfl rfl rfl
theorem zd_327_165 : decode prog_14_method_80_code 165 = .ok (.iinc 6 1, 3) := zsh_g zdk_327 (r := 41) (k := 0) rfl rfl rfl
theorem zd_327_168 : decode prog_14_method_80_code 168 = .ok (.goto (-37), 3) := zsh_g zdk_327 (r := 42) (k := 0) rfl rfl rfl
theorem zd_327_171 : decode prog_14_method_80_code 171 = .ok (.iload 4, 2) := zsh_g zdk_327 (r := 42) (k := 1) rfl rfl rfl
theorem zd_327_173 : decode prog_14_method_80_code 173 = .ok (.ifCond .ne 30, 3) := zsh_g zdk_327 (r := 43) (k := 0) rfl rfl rfl
theorem zd_327_176 : decode prog_14_method_80_code 176 = .ok (.aload_n 0, 1) := zsh_g zdk_327 (r := 44) (k := 0) rfl rfl rfl
theorem zd_327_177 : decode prog_14_method_80_code 177 = .ok (.ldc2_w 834, 3) := zsh_g zdk_327 (r := 44) (k := 1) rfl rfl rfl
theorem zd_327_180 : decode prog_14_method_80_code 180 = .ok (.invokevirtual 761, 3) := zsh_g zdk_327 (r := 45) (k := 0) rfl rfl rfl
theorem zd_327_183 : decode prog_14_method_80_code 183 = .ok (.aload_n 0, 1) := zsh_g zdk_327 (r := 45) (k := 1) rfl rfl rfl
theorem zd_327_184 : decode prog_14_method_80_code 184 = .ok (.iload_n 3, 1) := zsh_g zdk_327 (r := 46) (k := 0) rfl rfl rfl
theorem zd_327_185 : decode prog_14_method_80_code 185 = .ok (.invokevirtual 764, 3) := zsh_g zdk_327 (r := 46) (k := 1) rfl rfl rfl
theorem zd_327_188 : decode prog_14_method_80_code 188 = .ok (.aload_n 0, 1) := zsh_g zdk_327 (r := 47) (k := 0) rfl rfl rfl
theorem zd_327_189 : decode prog_14_method_80_code 189 = .ok (.invokevirtual 767, 3) := zsh_g zdk_327 (r := 47) (k := 1) rfl rfl rfl
theorem zd_327_192 : decode prog_14_method_80_code 192 = .ok (.aload_n 0, 1) := zsh_g zdk_327 (r := 48) (k := 0) rfl rfl rfl
theorem zd_327_193 : decode prog_14_method_80_code 193 = .ok (.ldc2_w 836, 3) := zsh_g zdk_327 (r := 48) (k := 1) rfl rfl rfl
theorem zd_327_196 : decode prog_14_method_80_code 196 = .ok (.invokevirtual 758, 3) := zsh_g zdk_327 (r := 49) (k := 0) rfl rfl rfl
theorem zd_327_199 : decode prog_14_method_80_code 199 = .ok (.aload_n 0, 1) := zsh_g zdk_327 (r := 49) (k := 1) rfl rfl rfl
theorem zd_327_200 : decode prog_14_method_80_code 200 = .ok (.invokevirtual 750, 3) := zsh_g zdk_327 (r := 50) (k := 0) rfl rfl rfl
def zdl_328 : List (List (Nat × Instr × Nat)) := [[(0, (.iload_n 1), 1), (1, (.bipush 45), 2), (3, (.if_icmp .ne 38), 3)], [(2, (.aload_n 0), 1), (3, (.ldc2_w 868), 3)], [(2, (.invokevirtual 761), 3)], [(1, (.aload_n 0), 1), (2, (.iload_n 2), 1), (3, (.invokevirtual 764), 3)], [(2, (.aload_n 0), 1), (3, (.invokevirtual 767), 3)], [(2, (.aload_n 0), 1), (3, (.ldc2_w 826), 3)], [(2, (.invokevirtual 758), 3)], [(1, (.aload_n 0), 1), (2, (.invokevirtual 767), 3)], [(1, (.aload_n 0), 1), (2, (.iload_n 2), 1), (3, (.invokevirtual 764), 3)], [(2, (.goto 72), 3)], [(1, (.iload_n 1), 1), (2, (.bipush 33), 2)], [(0, (.if_icmp .ne 34), 3), (3, (.aload_n 0), 1)], [(0, (.ldc2_w 846), 3), (3, (.invokevirtual 761), 3)], [(2, (.aload_n 0), 1), (3, (.iload_n 2), 1)], [(0, (.invokevirtual 764), 3), (3, (.aload_n 0), 1)], [(0, (.invokevirtual 767), 3), (3, (.aload_n 0), 1)], [(0, (.iload_n 2), 1), (1, (.invokevirtual 764), 3)], [(0, (.aload_n 0), 1), (1, (.ldc2_w 870), 3)], [(0, (.invokevirtual 740), 3), (3, (.goto 35), 3)], [(2, (.aload_n 0), 1), (3, (.ldc2_w 872), 3)], [(2, (.invokevirtual 761), 3)], [(1, (.aload_n 0), 1), (2, (.iload_n 2), 1), (3, (.invokevirtual 764), 3)], [(2, (.aload_n 0), 1), (3, (.invokevirtual 767), 3)], [(2, (.aload_n 0), 1), (3, (.iload_n 2), 1)], [(0, (.invokevirtual 764), 3), (3, (.aload_n 0), 1)], [(0, (.invokevirtual 767), 3), (3, (.aload_n 0), 1)], [(0, (.ldc2_w 826), 3), (3, (.invokevirtual 758), 3)], [(2, (.aload_n 0), 1), (3, (.invokevirtual 750), 3)]]
theorem zdk_328 : zsh_all 8 zdl_328 prog_14_method_81_code.data.toList = true := by decide +kernel
theorem zd_328_0 : decode prog_14_method_81_code 0 = .ok (.iload_n 1, 1) := zsh_g zdk_328 (r := 0) (k := 0) rfl rfl rfl
theorem zd_328_1 : decode prog_14_method_81_code 1 = .ok (.bipush 45, 2) := zsh_g zdk_328 (r := 0) (k := 1) rfl rfl rfl
theorem zd_328_3 : decode prog_14_method_81_code 3 = .ok (.if_icmp .ne 38, 3) := zsh_g zdk_328 (r := 0) (k := 2) rfl rfl rfl
theorem zd_328_6 : decode prog_14_method_81_code 6 = .ok (.aload_n 0, 1) := zsh_g zdk_328 (r := 1) (k := 0) rfl rfl rfl
theorem zd_328_7 : decode prog_14_method_81_code 7 = .ok (.ldc2_w 868, 3) := zsh_g zdk_328 (r := 1) (k := 1) rfl rfl rfl
theorem zd_328_10 : decode prog_14_method_81_code 10 = .ok (.invokevirtual 761, 3) := zsh_g zdk_328 (r := 2) (k := 0) rfl rfl rfl
theorem zd_328_13 : decode prog_14_method_81_code 13 = .ok (.aload_n 0, 1) := zsh_g zdk_328 (r := 3) (k := 0) rfl rfl rfl
theorem zd_328_14 : decode prog_14_method_81_code 14 = .ok (.iload_n 2, 1) := zsh_g zdk_328 (r := 3) (k := 1) rfl rfl rfl
theorem zd_328_15 : decode prog_14_method_81_code 15 = .ok (.invokevirtual 764, 3) := zsh_g zdk_328 (r := 3) (k := 2) rfl rfl rfl
theorem zd_328_18 : decode prog_14_method_81_code 18 = .ok (.aload_n 0, 1) := zsh_g zdk_328 (r := 4) (k := 0) rfl rfl rfl
theorem zd_328_19 : decode prog_14_method_81_code 19 = .ok (.invokevirtual 767, 3) := zsh_g zdk_328 (r := 4) (k := 1) rfl rfl rfl
theorem zd_328_22 : decode prog_14_method_81_code 22 = .ok (.aload_n 0, 1) := zsh_g zdk_328 (r := 5) (k := 0) rfl rfl rfl
theorem zd_328_23 : decode prog_14_method_81_code 23 = .ok (.ldc2_w 826, 3) := zsh_g zdk_328 (r := 5) (k := 1) rfl rfl rfl
theorem zd_328_26 : decode prog_14_method_81_code 26 = .ok (.invokevirtual 758, 3) := zsh_g zdk_328 (r := 6) (k := 0) rfl rfl rfl
theorem zd_328_29 : decode prog_14_method_81_code 29 = .ok (.aload_n 0, 1) := zsh_g zdk_328 (r := 7) (k := 0) rfl rfl rfl
theorem zd_328_30 : decode prog_14_method_81_code 30 = .ok (.invokevirtual 767, 3) := zsh_g zdk_328 (r := 7) (k := 1) rfl rfl rfl
theorem zd_328_33 : decode prog_14_method_81_code 33 = .ok (.aload_n 0, 1) := zsh_g zdk_328 (r := 8) (k := 0) rfl rfl rfl
theorem zd_328_34 : decode prog_14_method_81_code 34 = .ok (.iload_n 2, 1) := zsh_g zdk_328 (r := 8) (k := 1) rfl rfl rfl
theorem zd_328_35 : decode prog_14_method_81_code 35 = .ok (.invokevirtual 764, 3) := zsh_g zdk_328 (r := 8) (k := 2) rfl rfl rfl
theorem zd_328_38 : decode prog_14_method_81_code 38 = .ok (.goto 72, 3) := zsh_g zdk_328 (r := 9) (k := 0) rfl rfl rfl
theorem zd_328_41 : decode prog_14_method_81_code 41 = .ok (.iload_n 1, 1) := zsh_g zdk_328 (r := 10) (k := 0) rfl rfl rfl
theorem zd_328_42 : decode prog_14_method_81_code 42 = .ok (.bipush 33, 2) := zsh_g zdk_328 (r := 10) (k := 1) rfl rfl rfl
theorem zd_328_44 : decode prog_14_method_81_code 44 = .ok (.if_icmp .ne 34, 3) := zsh_g zdk_328 (r := 11) (k := 0) rfl rfl rfl
theorem zd_328_47 : decode prog_14_method_81_code 47 = .ok (.aload_n 0, 1) := zsh_g zdk_328 (r := 11) (k := 1) rfl rfl rfl
theorem zd_328_48 : decode prog_14_method_81_code 48 = .ok (.ldc2_w 846, 3) := zsh_g zdk_328 (r := 12) (k := 0) rfl rfl rfl
theorem zd_328_51 : decode prog_14_method_81_code 51 = .ok (.invokevirtual 761, 3) := zsh_g zdk_328 (r := 12) (k := 1) rfl rfl rfl
theorem zd_328_54 : decode prog_14_method_81_code 54 = .ok (.aload_n 0, 1) := zsh_g zdk_328 (r := 13) (k := 0) rfl rfl rfl
theorem zd_328_55 : decode prog_14_method_81_code 55 = .ok (.iload_n 2, 1) := zsh_g zdk_328 (r := 13) (k := 1) rfl rfl rfl
theorem zd_328_56 : decode prog_14_method_81_code 56 = .ok (.invokevirtual 764, 3) := zsh_g zdk_328 (r := 14) (k := 0) rfl rfl rfl
theorem zd_328_59 : decode prog_14_method_81_code 59 = .ok (.aload_n 0, 1) := zsh_g zdk_328 (r := 14) (k := 1) rfl rfl rfl
theorem zd_328_60 : decode prog_14_method_81_code 60 = .ok (.invokevirtual 767, 3) := zsh_g zdk_328 (r := 15) (k := 0) rfl rfl rfl
theorem zd_328_63 : decode prog_14_method_81_code 63 = .ok (.aload_n 0, 1) := zsh_g zdk_328 (r := 15) (k := 1) rfl rfl rfl
theorem zd_328_64 : decode prog_14_method_81_code 64 = .ok (.iload_n 2, 1) := zsh_g zdk_328 (r := 16) (k := 0) rfl rfl rfl
theorem zd_328_65 : decode prog_14_method_81_code 65 = .ok (.invokevirtual 764, 3) := zsh_g zdk_328 (r := 16) (k := 1) rfl rfl rfl
theorem zd_328_68 : decode prog_14_method_81_code 68 = .ok (.aload_n 0, 1) := zsh_g zdk_328 (r := 17) (k := 0) rfl rfl rfl
theorem zd_328_69 : decode prog_14_method_81_code 69 = .ok (.ldc2_w 870, 3) := zsh_g zdk_328 (r := 17) (k := 1) rfl rfl rfl
theorem zd_328_72 : decode prog_14_method_81_code 72 = .ok (.invokevirtual 740, 3) := zsh_g zdk_328 (r := 18) (k := 0) rfl rfl rfl
theorem zd_328_75 : decode prog_14_method_81_code 75 = .ok (.goto 35, 3) := zsh_g zdk_328 (r := 18) (k := 1) rfl rfl rfl
theorem zd_328_78 : decode prog_14_method_81_code 78 = .ok (.aload_n 0, 1) := zsh_g zdk_328 (r := 19) (k := 0) rfl rfl rfl
theorem zd_328_79 : decode prog_14_method_81_code 79 = .ok (.ldc2_w 872, 3) := zsh_g zdk_328 (r := 19) (k := 1) rfl rfl rfl
theorem zd_328_82 : decode prog_14_method_81_code 82 = .ok (.invokevirtual 761, 3) := zsh_g zdk_328 (r := 20) (k := 0) rfl rfl rfl
theorem zd_328_85 : decode prog_14_method_81_code 85 = .ok (.aload_n 0, 1) := zsh_g zdk_328 (r := 21) (k := 0) rfl rfl rfl
theorem zd_328_86 : decode prog_14_method_81_code 86 = .ok (.iload_n 2, 1) := zsh_g zdk_328 (r := 21) (k := 1) rfl rfl rfl
theorem zd_328_87 : decode prog_14_method_81_code 87 = .ok (.invokevirtual 764, 3) := zsh_g zdk_328 (r := 21) (k := 2) rfl rfl rfl
theorem zd_328_90 : decode prog_14_method_81_code 90 = .ok (.aload_n 0, 1) := zsh_g zdk_328 (r := 22) (k := 0) rfl rfl rfl
theorem zd_328_91 : decode prog_14_method_81_code 91 = .ok (.invokevirtual 767, 3) := zsh_g zdk_328 (r := 22) (k := 1) rfl rfl rfl
theorem zd_328_94 : decode prog_14_method_81_code 94 = .ok (.aload_n 0, 1) := zsh_g zdk_328 (r := 23) (k := 0) rfl rfl rfl
theorem zd_328_95 : decode prog_14_method_81_code 95 = .ok (.iload_n 2, 1) := zsh_g zdk_328 (r := 23) (k := 1) rfl rfl rfl
theorem zd_328_96 : decode prog_14_method_81_code 96 = .ok (.invokevirtual 764, 3) := zsh_g zdk_328 (r := 24) (k := 0) rfl rfl rfl
theorem zd_328_99 : decode prog_14_method_81_code 99 = .ok (.aload_n 0, 1) := zsh_g zdk_328 (r := 24) (k := 1) rfl rfl rfl
theorem zd_328_100 : decode prog_14_method_81_code 100 = .ok (.invokevirtual 767, 3) := zsh_g zdk_328 (r := 25) (k := 0) rfl rfl rfl
theorem zd_328_103 : decode prog_14_method_81_code 103 = .ok (.aload_n 0, 1) := zsh_g zdk_328 (r := 25) (k := 1) rfl rfl rfl
theorem zd_328_104 : decode prog_14_method_81_code 104 = .ok (.ldc2_w 826, 3) := zsh_g zdk_328 (r := 26) (k := 0) rfl rfl rfl
theorem zd_328_107 : decode prog_14_method_81_code 107 = .ok (.invokevirtual 758, 3) := zsh_g zdk_328 (r := 26) (k := 1) rfl rfl rfl
theorem zd_328_110 : decode prog_14_method_81_code 110 = .ok (.aload_n 0, 1) := zsh_g zdk_328 (r := 27) (k := 0) rfl rfl rfl
theorem zd_328_111 : decode prog_14_method_81_code 111 = .ok (.invokevirtual 750, 3) := zsh_g zdk_328 (r := 27) (k := 1) rfl rfl rfl
def zdl_329 : List (List (Nat × Instr × Nat)) := [[(0, (.iload_n 1), 1)], [], [], [], [], [], [], [], [], [], [], [], [], [], [], [], [], [], [], [], [], [], [], [(0, (.aload_n 0), 1), (1, (.ldc2_w 856), 3)], [(0, (.iload_n 2), 1), (1, (.iload_n 2), 1), (2, (.iload_n 2), 1), (3, (.iconst 1), 1)], [(0, .iadd, 1), (1, (.invokevirtual 890), 3)], [(0, (.goto 139), 3), (3, (.aload_n 0), 1)], [(0, (.ldc2_w 868), 3), (3, (.iload_n 2), 1)], [(0, (.iload_n 2), 1), (1, (.iload_n 2), 1), (2, (.iconst 1), 1), (3, .iadd, 1)], [(0, (.invokevirtual 890), 3), (3, (.goto 124), 3)], [(2, (.aload_n 0), 1), (3, (.ldc2_w 898), 3)], [(2, (.iload_n 2), 1), (3, (.iload_n 2), 1)], [(0, (.iload_n 2), 1), (1, (.iconst 1), 1), (2, .iadd, 1), (3, (.invokevirtual 890), 3)], [(2, (.goto 109), 3)], [(1, (.aload_n 0), 1), (2, (.ldc2_w 896), 3)], [(1, (.iload_n 2), 1), (2, (.iload_n 2), 1), (3, (.iload_n 2), 1)], [(0, (.iconst 1), 1), (1, .iadd, 1), (2, (.invokevirtual 890), 3)], [(1, (.goto 94), 3)], [(0, (.aload_n 0), 1), (1, (.ldc2_w 900), 3)], [(0, (.iload_n 2), 1), (1, (.iload_n 2), 1), (2, (.iload_n 2), 1), (3, (.iconst 1), 1)], [(0, .iadd, 1), (1, (.invokevirtual 890), 3)], [(0, (.goto 79), 3), (3, (.aload_n 0), 1)], [(0, (.ldc2_w 902), 3), (3, (.iload_n 2), 1)], [(0, (.iload_n 2), 1), (1, (.iload_n 2), 1), (2, (.iconst 1), 1), (3, .iadd, 1)], [(0, (.invokevirtual 890), 3), (3, (.goto 64), 3)], [(2, (.aload_n 0), 1), (3, (.ldc2_w 904), 3)], [(2, (.iload_n 2), 1), (3, (.iload_n 2), 1)], [(0, (.iload_n 2), 1), (1, (.iconst 1), 1), (2, .iadd, 1), (3, (.invokevirtual 890), 3)], [(2, (.goto 49), 3)], [(1, (.aload_n 0), 1), (2, (.ldc2_w 906), 3)], [(1, (.iload_n 2), 1), (2, (.iload_n 2), 1), (3, (.iconst 1), 1)], [(0, .iadd, 1), (1, (.invokevirtual 878), 3)], [(0, (.aload_n 0), 1), (1, (.ldc2_w 884), 3)], [(0, (.iload_n 2), 1), (1, (.invokevirtual 886), 3)], [(0, (.goto 27), 3), (3, (.aload_n 0), 1)], [(0, (.iload_n 2), 1), (1, (.iconst 0), 1), (2, (.invokevirtual 908), 3)], [(1, (.goto 18), 3)], [(0, (.aload_n 0), 1), (1, (.iload_n 2), 1), (2, (.iconst 1), 1), (3, (.invokevirtual 908), 3)], [(2, (.goto 9), 3)], [(1, (.aload_n 0), 1), (2, (.iload_n 1), 1), (3, (.iload_n 2), 1)], [(0, (.invokevirtual 912), 3)]]
theorem zdk_329 : zsh_all 8 zdl_329 prog_14_method_86_code.data.toList = true := by decide +kernel
theorem zd_329_0 : decode prog_14_method_86_code 0 = .ok (.iload_n 1, 1) := zsh_g zdk_329 (r := 0) (k := 0) rfl rfl rfl
theorem zd_329_92 : decode prog_14_method_86_code 92 = .ok (.aload_n 0, 1) := zsh_g zdk_329 (r := 23) (k := 0) rfl rfl rfl
theorem zd_329_93 : decode prog_14_method_86_code 93 = .ok (.ldc2_w 856, 3) := zsh_g zdk_329 (r := 23) (k := 1) rfl rfl rfl
theorem zd_329_96 : decode prog_14_method_86_code 96 = .ok (.iload_n 2, 1) := zsh_g zdk_329 (r := 24) (k := 0) rfl rfl rfl
theorem zd_329_97 : decode prog_14_method_86_code 97 = .ok (.iload_n 2, 1) := zsh_g zdk_329 (r := 24) (k := 1) rfl rfl rfl
theorem zd_329_98 : decode prog_14_method_86_code 98 = .ok (.iload_n 2, 1) := zsh_g zdk_329 (r := 24) (k := 2) rfl rfl rfl
theorem zd_329_99 : decode prog_14_method_86_code 99 = .ok (.iconst 1, 1) := zsh_g zdk_329 (r := 24) (k := 3) rfl rfl rfl
theorem zd_329_100 : decode prog_14_method_86_code 100 = .ok (.iadd, 1) := zsh_g zdk_329 (r := 25) (k := 0) rfl rfl rfl
theorem zd_329_101 : decode prog_14_method_86_code 101 = .ok (.invokevirtual 890, 3) := zsh_g zdk_329 (r := 25) (k := 1) rfl rfl rfl
theorem zd_329_104 : decode prog_14_method_86_code 104 = .ok (.goto 139, 3) := zsh_g zdk_329 (r := 26) (k := 0) rfl rfl rfl
theorem zd_329_107 : decode prog_14_method_86_code 107 = .ok (.aload_n 0, 1) := zsh_g zdk_329 (r := 26) (k := 1) rfl rfl rfl
theorem zd_329_108 : decode prog_14_method_86_code 108 = .ok (.ldc2_w 868, 3) := zsh_g zdk_329 (r := 27) (k := 0) rfl rfl rfl
theorem zd_329_111 : decode prog_14_method_86_code 111 = .ok (.iload_n 2, 1) := zsh_g zdk_329 (r := 27) (k := 1) rfl rfl rfl
theorem zd_329_112 : decode prog_14_method_86_code 112 = .ok (.iload_n 2, 1) := zsh_g zdk_329 (r := 28) (k := 0) rfl rfl rfl
theorem zd_329_113 : decode prog_14_method_86_code 113 = .ok (.iload_n 2, 1) := zsh_g zdk_329 (r := 28) (k := 1) rfl rfl rfl
theorem zd_329_114 : decode prog_14_method_86_code 114 = .ok (.iconst 1, 1) := zsh_g zdk_329 (r := 28) (k := 2) rfl rfl rfl
theorem zd_329_115 : decode prog_14_method_86_code 115 = .ok (.iadd, 1) := zsh_g zdk_329 (r := 28) (k := 3) rfl rfl rfl
theorem zd_329_116 : decode prog_14_method_86_code 116 = .ok (.invokevirtual 890, 3) := zsh_g zdk_329 (r := 29) (k := 0) rfl rfl rfl
theorem zd_329_119 : decode prog_14_method_86_code 119 = .ok (.goto 124, 3) := zsh_g zdk_329 (r := 29) (k := 1) rfl rfl rfl
theorem zd_329_122 : decode prog_14_method_86_code 122 = .ok (.aload_n 0, 1) := zsh_g zdk_329 (r := 30) (k := 0) rfl rfl rfl
theorem zd_329_123 : decode prog_14_method_86_code 123 = .ok (.ldc2_w 898, 3) := zsh_g zdk_329 (r := 30) (k := 1) rfl rfl rfl
theorem zd_329_126 : decode prog_14_method_86_code 126 = .ok (.iload_n 2, 1) := zsh_g zdk_329 (r := 31) (k := 0) rfl rfl rfl
theorem zd_329_127 : decode prog_14_method_86_code 127 = .ok (.iload_n 2, 1) := zsh_g zdk_329 (r := 31) (k := 1) rfl rfl rfl
theorem zd_329_128 : decode prog_14_method_86_code 128 = .ok (.iload_n 2, 1) := zsh_g zdk_329 (r := 32) (k := 0) rfl rfl rfl
theorem zd_329_129 : decode prog_14_method_86_code 129 = .ok (.iconst 1, 1) := zsh_g zdk_329 (r := 32) (k := 1) rfl rfl rfl
theorem zd_329_130 : decode prog_14_method_86_code 130 = .ok (.iadd, 1) := zsh_g zdk_329 (r := 32) (k := 2) rfl rfl rfl
theorem zd_329_131 : decode prog_14_method_86_code 131 = .ok (.invokevirtual 890, 3) := zsh_g zdk_329 (r := 32) (k := 3) rfl rfl rfl
theorem zd_329_134 : decode prog_14_method_86_code 134 = .ok (.goto 109, 3) := zsh_g zdk_329 (r := 33) (k := 0) rfl rfl rfl
theorem zd_329_137 : decode prog_14_method_86_code 137 = .ok (.aload_n 0, 1) := zsh_g zdk_329 (r := 34) (k := 0) rfl rfl rfl
theorem zd_329_138 : decode prog_14_method_86_code 138 = .ok (.ldc2_w 896, 3) := zsh_g zdk_329 (r := 34) (k := 1) rfl rfl rfl
theorem zd_329_141 : decode prog_14_method_86_code 141 = .ok (.iload_n 2, 1) := zsh_g zdk_329 (r := 35) (k := 0) rfl rfl rfl
theorem zd_329_142 : decode prog_14_method_86_code 142 = .ok (.iload_n 2, 1) := zsh_g zdk_329 (r := 35) (k := 1) rfl rfl rfl
theorem zd_329_143 : decode prog_14_method_86_code 143 = .ok (.iload_n 2, 1) := zsh_g zdk_329 (r := 35) (k := 2) rfl rfl rfl
theorem zd_329_144 : decode prog_14_method_86_code 144 = .ok (.iconst 1, 1) := zsh_g zdk_329 (r := 36) (k := 0) rfl rfl rfl
theorem zd_329_145 : decode prog_14_method_86_code 145 = .ok (.iadd, 1) := zsh_g zdk_329 (r := 36) (k := 1) rfl rfl rfl
theorem zd_329_146 : decode prog_14_method_86_code 146 = .ok (.invokevirtual 890, 3) := zsh_g zdk_329 (r := 36) (k := 2) rfl rfl rfl
theorem zd_329_149 : decode prog_14_method_86_code 149 = .ok (.goto 94, 3) := zsh_g zdk_329 (r := 37) (k := 0) rfl rfl rfl
theorem zd_329_152 : decode prog_14_method_86_code 152 = .ok (.aload_n 0, 1) := zsh_g zdk_329 (r := 38) (k := 0) rfl rfl rfl
theorem zd_329_153 : decode prog_14_method_86_code 153 = .ok (.ldc2_w 900, 3) := zsh_g zdk_329 (r := 38) (k := 1) rfl rfl rfl
theorem zd_329_156 : decode prog_14_method_86_code 156 = .ok (.iload_n 2, 1) := zsh_g zdk_329 (r := 39) (k := 0) rfl rfl rfl
theorem zd_329_157 : decode prog_14_method_86_code 157 = .ok (.iload_n 2, 1) := zsh_g zdk_329 (r := 39) (k := 1) rfl rfl rfl
theorem zd_329_158 : decode prog_14_method_86_code 158 = .ok (.iload_n 2, 1) := zsh_g zdk_329 (r := 39) (k := 2) rfl rfl rfl
theorem zd_329_159 : decode prog_14_method_86_code 159 = .ok (.iconst 1, 1) := zsh_g zdk_329 (r := 39) (k := 3) rfl rfl rfl
theorem zd_329_160 : decode prog_14_method_86_code 160 = .ok (.iadd, 1) := zsh_g zdk_329 (r := 40) (k := 0) rfl rfl rfl
theorem zd_329_161 : decode prog_14_method_86_code 161 = .ok (.invokevirtual 890, 3) := zsh_g zdk_329 (r := 40) (k := 1) rfl rfl rfl
theorem zd_329_164 : decode prog_14_method_86_code 164 = .ok (.goto 79, 3) := zsh_g zdk_329 (r := 41) (k := 0) rfl rfl rfl
theorem zd_329_167 : decode prog_14_method_86_code 167 = .ok (.aload_n 0, 1) := zsh_g zdk_329 (r := 41) (k := 1) rfl rfl rfl
theorem zd_329_168 : decode prog_14_method_86_code 168 = .ok (.ldc2_w 902, 3) := zsh_g zdk_329 (r := 42) (k := 0) rfl rfl rfl
theorem zd_329_171 : decode prog_14_method_86_code 171 = .ok (.iload_n 2, 1) := zsh_g zdk_329 (r := 42) (k := 1) rfl rfl rfl
theorem zd_329_172 : decode prog_14_method_86_code 172 = .ok (.iload_n 2, 1) := zsh_g zdk_329 (r := 43) (k := 0) rfl rfl rfl
theorem zd_329_173 : decode prog_14_method_86_code 173 = .ok (.iload_n 2, 1) := zsh_g zdk_329 (r := 43) (k := 1) rfl rfl rfl
theorem zd_329_174 : decode prog_14_method_86_code 174 = .ok (.iconst 1, 1) := zsh_g zdk_329 (r := 43) (k := 2) rfl rfl rfl
theorem zd_329_175 : decode prog_14_method_86_code 175 = .ok (.iadd, 1) := zsh_g zdk_329 (r := 43) (k := 3) rfl rfl rfl
theorem zd_329_176 : decode prog_14_method_86_code 176 = .ok (.invokevirtual 890, 3) := zsh_g zdk_329 (r := 44) (k := 0) rfl rfl rfl
theorem zd_329_179 : decode prog_14_method_86_code 179 = .ok (.goto 64, 3) := zsh_g zdk_329 (r := 44) (k := 1) rfl rfl rfl
theorem zd_329_182 : decode prog_14_method_86_code 182 = .ok (.aload_n 0, 1) := zsh_g zdk_329 (r := 45) (k := 0) rfl rfl rfl
theorem zd_329_183 : decode prog_14_method_86_code 183 = .ok (.ldc2_w 904, 3) := zsh_g zdk_329 (r := 45) (k := 1) rfl rfl rfl
theorem zd_329_186 : decode prog_14_method_86_code 186 = .ok (.iload_n 2, 1) := zsh_g zdk_329 (r := 46) (k := 0) rfl rfl rfl
theorem zd_329_187 : decode prog_14_method_86_code 187 = .ok (.iload_n 2, 1) := zsh_g zdk_329 (r := 46) (k := 1) rfl rfl rfl
theorem zd_329_188 : decode prog_14_method_86_code 188 = .ok (.iload_n 2, 1) := zsh_g zdk_329 (r := 47) (k := 0) rfl rfl rfl
theorem zd_329_189 : decode prog_14_method_86_code 189 = .ok (.iconst 1, 1) := zsh_g zdk_329 (r := 47) (k := 1) rfl rfl rfl
theorem zd_329_190 : decode prog_14_method_86_code 190 = .ok (.iadd, 1) := zsh_g zdk_329 (r := 47) (k := 2) rfl rfl rfl
theorem zd_329_191 : decode prog_14_method_86_code 191 = .ok (.invokevirtual 890, 3) := zsh_g zdk_329 (r := 47) (k := 3) rfl rfl rfl
theorem zd_329_194 : decode prog_14_method_86_code 194 = .ok (.goto 49, 3) := zsh_g zdk_329 (r := 48) (k := 0) rfl rfl rfl
theorem zd_329_197 : decode prog_14_method_86_code 197 = .ok (.aload_n 0, 1) := zsh_g zdk_329 (r := 49) (k := 0) rfl rfl rfl
theorem zd_329_198 : decode prog_14_method_86_code 198 = .ok (.ldc2_w 906, 3) := zsh_g zdk_329 (r := 49) (k := 1) rfl rfl rfl
theorem zd_329_201 : decode prog_14_method_86_code 201 = .ok (.iload_n 2, 1) := zsh_g zdk_329 (r := 50) (k := 0) rfl rfl rfl
theorem zd_329_202 : decode prog_14_method_86_code 202 = .ok (.iload_n 2, 1) := zsh_g zdk_329 (r := 50) (k := 1) rfl rfl rfl
theorem zd_329_203 : decode prog_14_method_86_code 203 = .ok (.iconst 1, 1) := zsh_g zdk_329 (r := 50) (k := 2) rfl rfl rfl
theorem zd_329_204 : decode prog_14_method_86_code 204 = .ok (.iadd, 1) := zsh_g zdk_329 (r := 51) (k := 0) rfl rfl rfl
theorem zd_329_205 : decode prog_14_method_86_code 205 = .ok (.invokevirtual 878, 3) := zsh_g zdk_329 (r := 51) (k := 1) rfl rfl rfl
theorem zd_329_208 : decode prog_14_method_86_code 208 = .ok (.aload_n 0, 1) := zsh_g zdk_329 (r := 52) (k := 0) rfl rfl rfl
theorem zd_329_209 : decode prog_14_method_86_code 209 = .ok (.ldc2_w 884, 3) := zsh_g zdk_329 (r := 52) (k := 1) rfl rfl rfl
theorem zd_329_212 : decode prog_14_method_86_code 212 = .ok (.iload_n 2, 1) := zsh_g zdk_329 (r := 53) (k := 0) rfl rfl rfl
theorem zd_329_213 : decode prog_14_method_86_code 213 = .ok (.invokevirtual 886, 3) := zsh_g zdk_329 (r := 53) (k := 1) rfl rfl rfl
theorem zd_329_216 : decode prog_14_method_86_code 216 = .ok (.goto 27, 3) := zsh_g zdk_329 (r := 54) (k := 0) rfl rfl rfl
theorem zd_329_219 : decode prog_14_method_86_code 219 = .ok (.aload_n 0, 1) := zsh_g zdk_329 (r := 54) (k := 1) rfl rfl rfl
theorem zd_329_220 : decode prog_14_method_86_code 220 = .ok (.iload_n 2, 1) := zsh_g zdk_329 (r := 55) (k := 0) rfl rfl rfl
theorem zd_329_221 : decode prog_14_method_86_code 221 = .ok (.iconst 0, 1) := zsh_g zdk_329 (r := 55) (k := 1) rfl rfl rfl
theorem zd_329_222 : decode prog_14_method_86_code 222 = .ok (.invokevirtual 908, 3) := zsh_g zdk_329 (r := 55) (k := 2) rfl rfl rfl
theorem zd_329_225 : decode prog_14_method_86_code 225 = .ok (.goto 18, 3) := zsh_g zdk_329 (r := 56) (k := 0) rfl rfl rfl
theorem zd_329_228 : decode prog_14_method_86_code 228 = .ok (.aload_n 0, 1) := zsh_g zdk_329 (r := 57) (k := 0) rfl rfl rfl
theorem zd_329_229 : decode prog_14_method_86_code 229 = .ok (.iload_n 2, 1) := zsh_g zdk_329 (r := 57) (k := 1) rfl rfl rfl
theorem zd_329_230 : decode prog_14_method_86_code 230 = .ok (.iconst 1, 1) := zsh_g zdk_329 (r := 57) (k := 2) rfl rfl rfl
theorem zd_329_231 : decode prog_14_method_86_code 231 = .ok (.invokevirtual 908, 3) := zsh_g zdk_329 (r := 57) (k := 3) rfl rfl rfl
theorem zd_329_234 : decode prog_14_method_86_code 234 = .ok (.goto 9, 3) := zsh_g zdk_329 (r := 58) (k := 0) rfl rfl rfl
theorem zd_329_237 : decode prog_14_method_86_code 237 = .ok (.aload_n 0, 1) := zsh_g zdk_329 (r := 59) (k := 0) rfl rfl rfl
theorem zd_329_238 : decode prog_14_method_86_code 238 = .ok (.iload_n 1, 1) := zsh_g zdk_329 (r := 59) (k := 1) rfl rfl rfl
theorem zd_329_239 : decode prog_14_method_86_code 239 = .ok (.iload_n 2, 1) := zsh_g zdk_329 (r := 59) (k := 2) rfl rfl rfl
theorem zd_329_240 : decode prog_14_method_86_code 240 = .ok (.invokevirtual 912, 3) := zsh_g zdk_329 (r := 60) (k := 0) rfl rfl rfl
theorem zd_329_1 : decode prog_14_method_86_code 1 = .ok (.lookupswitch 236 #[(37, 227), (38, 151), (42, 196), (43, 91), (45, 106), (47, 218), (94, 136), (124, 121), (131, 166), (132, 181)], 91) := by decide +kernel
def zdl_330 : List (List (Nat × Instr × Nat)) := [[(0, (.aload_n 0), 1), (1, (.bipush 36), 2), (3, (.invokevirtual 731), 3)], [(2, (.aload_n 0), 1), (3, (.lload_n 1), 1)], [(0, (.invokevirtual 740), 3)]]
theorem zdk_330 : zsh_all 8 zdl_330 prog_14_method_64_code.data.toList = true := by decide +kernel
theorem zd_330_0 : decode prog_14_method_64_code 0 = .ok (.aload_n 0, 1) := zsh_g zdk_330 (r := 0) (k := 0) rfl rfl rfl
theorem zd_330_1 : decode prog_14_method_64_code 1 = .ok (.bipush 36, 2) := zsh_g zdk_330 (r := 0) (k := 1) rfl rfl rfl
theorem zd_330_3 : decode prog_14_method_64_code 3 = .ok (.invokevirtual 731, 3) := zsh_g zdk_330 (r := 0) (k := 2) rfl rfl rfl
theorem zd_330_6 : decode prog_14_method_64_code 6 = .ok (.aload_n 0, 1) := zsh_g zdk_330 (r := 1) (k := 0) rfl rfl rfl
theorem zd_330_7 : decode prog_14_method_64_code 7 = .ok (.lload_n 1, 1) := zsh_g zdk_330 (r := 1) (k := 1) rfl rfl rfl
theorem zd_330_8 : decode prog_14_method_64_code 8 = .ok (.invokevirtual 740, 3) := zsh_g zdk_330 (r := 2) (k := 0) rfl rfl rfl
def zdl_331 : List (List (Nat × Instr × Nat)) := [[(0, (.iload_n 2), 1), (1, (.ifCond .eq 22), 3)], [(0, (.aload_n 0), 1), (1, (.ldc2_w 848), 3)], [(0, (.invokevirtual 761), 3), (3, (.aload_n 0), 1)], [(0, (.iconst 0), 1), (1, (.invokevirtual 764), 3)], [(0, (.aload_n 0), 1), (1, (.invokevirtual 767), 3)], [(0, (.goto 10), 3), (3, (.aload_n 0), 1)], [(0, (.ldc2_w 915), 3), (3, (.invokevirtual 761), 3)], [(2, (.aload_n 0), 1), (3, (.iload_n 1), 1)], [(0, (.invokevirtual 747), 3), (3, (.aload_n 0), 1)], [(0, (.invokevirtual 750), 3)]]
theorem zdk_331 : zsh_all 8 zdl_331 prog_14_method_87_code.data.toList = true := by decide +kernel
theorem zd_331_0 : decode prog_14_method_87_code 0 = .ok (.iload_n 2, 1) := zsh_g zdk_331 (r := 0) (k := 0) rfl rfl rfl
theorem zd_331_1 : decode prog_14_method_87_code 1 = .ok (.ifCond .eq 22, 3) := zsh_g zdk_331 (r := 0) (k := 1) rfl rfl rfl
theorem zd_331_4 : decode prog_14_method_87_code 4 = .ok (.aload_n 0, 1) := zsh_g zdk_331 (r := 1) (k := 0) rfl rfl rfl
theorem zd_331_5 : decode prog_14_method_87_code 5 = .ok (.ldc2_w 848, 3) := zsh_g zdk_331 (r := 1) (k := 1) rfl rfl rfl
theorem zd_331_8 : decode prog_14_method_87_code 8 = .ok (.invokevirtual 761, 3) := zsh_g zdk_331 (r := 2) (k := 0) rfl rfl rfl
theorem zd_331_11 : decode prog_14_method_87_code 11 = .ok (.aload_n 0, 1) := zsh_g zdk_331 (r := 2) (k := 1) rfl rfl rfl
theorem zd_331_12 : decode prog_14_method_87_code 12 = .ok (.iconst 0, 1) := zsh_g zdk_331 (r := 3) (k := 0) rfl rfl rfl
theorem zd_331_13 : decode prog_14_method_87_code 13 = .ok (.invokevirtual 764, 3) := zsh_g zdk_331 (r := 3) (k := 1) rfl rfl rfl
theorem zd_331_16 : decode prog_14_method_87_code 16 = .ok (.aload_n 0, 1) := zsh_g zdk_331 (r := 4) (k := 0) rfl rfl rfl
theorem zd_331_17 : decode prog_14_method_87_code 17 = .ok (.invokevirtual 767, 3) := zsh_g zdk_331 (r := 4) (k := 1) rfl rfl rfl
theorem zd_331_20 : decode prog_14_method_87_code 20 = .ok (.goto 10, 3) := zsh_g zdk_331 (r := 5) (k := 0) rfl rfl rfl
theorem zd_331_23 : decode prog_14_method_87_code 23 = .ok (.aload_n 0, 1) := zsh_g zdk_331 (r := 5) (k := 1) rfl rfl rfl
theorem zd_331_24 : decode prog_14_method_87_code 24 = .ok (.ldc2_w 915, 3) := zsh_g zdk_331 (r := 6) (k := 0) rfl rfl rfl
theorem zd_331_27 : decode prog_14_method_87_code 27 = .ok (.invokevirtual 761, 3) := zsh_g zdk_331 (r := 6) (k := 1) rfl rfl rfl
theorem zd_331_30 : decode prog_14_method_87_code 30 = .ok (.aload_n 0, 1) := zsh_g zdk_331 (r := 7) (k := 0) rfl rfl rfl
theorem zd_331_31 : decode prog_14_method_87_code 31 = .ok (.iload_n 1, 1) := zsh_g zdk_331 (r := 7) (k := 1) rfl rfl rfl
theorem zd_331_32 : decode prog_14_method_87_code 32 = .ok (.invokevirtual 747, 3) := zsh_g zdk_331 (r := 8) (k := 0) rfl rfl rfl
theorem zd_331_35 : decode prog_14_method_87_code 35 = .ok (.aload_n 0, 1) := zsh_g zdk_331 (r := 8) (k := 1) rfl rfl rfl
theorem zd_331_36 : decode prog_14_method_87_code 36 = .ok (.invokevirtual 750, 3) := zsh_g zdk_331 (r := 9) (k := 0) rfl rfl rfl
def zdl_332 : List (List (Nat × Instr × Nat)) := [[(0, (.aload_n 0), 1), (1, (.ldc2_w 834), 3)], [(0, (.invokevirtual 761), 3), (3, (.aload_n 0), 1)], [(0, (.ldc2_w 929), 3), (3, (.invokevirtual 758), 3)], [(2, (.aload_n 0), 1), (3, (.invokevirtual 767), 3)], [(2, (.aload_n 0), 1), (3, (.iconst 0), 1)], [(0, (.invokevirtual 764), 3), (3, (.aload_n 0), 1)], [(0, (.invokevirtual 750), 3), (3, (.aload_n 0), 1)], [(0, (.ldc2_w 923), 3), (3, (.invokevirtual 761), 3)], [(2, (.aload_n 0), 1), (3, (.ldc2_w 836), 3)], [(2, (.invokevirtual 758), 3)], [(1, (.aload_n 0), 1), (2, (.ldc2_w 870), 3)], [(1, (.invokevirtual 740), 3)], [(0, (.aload_n 0), 1), (1, (.invokevirtual 750), 3)], [(0, (.aload_n 0), 1), (1, (.ldc2_w 927), 3)], [(0, (.invokevirtual 740), 3), (3, (.aload_n 0), 1)], [(0, (.invokevirtual 750), 3)]]
theorem zdk_332 : zsh_all 8 zdl_332 prog_14_method_90_code.data.toList = true := by decide +kernel
theorem zd_332_0 : decode prog_14_method_90_code 0 = .ok (.aload_n 0, 1) := zsh_g zdk_332 (r := 0) (k := 0) rfl rfl rfl
theorem zd_332_1 : decode prog_14_method_90_code 1 = .ok (.ldc2_w 834, 3) := zsh_g zdk_332 (r := 0) (k := 1) rfl rfl rfl
theorem zd_332_4 : decode prog_14_method_90_code 4 = .ok (.invokevirtual 761, 3) := zsh_g zdk_332 (r := 1) (k := 0) rfl rfl rfl
theorem zd_332_7 : decode prog_14_method_90_code 7 = .ok (.aload_n 0, 1) := zsh_g zdk_332 (r := 1) (k := 1) rfl rfl rfl
theorem zd_332_8 : decode prog_14_method_90_code 8 = .ok (.ldc2_w 929, 3) := zsh_g zdk_332 (r := 2) (k := 0) rfl rfl rfl
theorem zd_332_11 : decode prog_14_method_90_code 11 = .ok (.invokevirtual 758, 3) := zsh_g zdk_332 (r := 2) (k := 1) rfl rfl rfl
theorem zd_332_14 : decode prog_14_method_90_code 14 = .ok (.aload_n 0, 1) := zsh_g zdk_332 (r := 3) (k := 0) rfl rfl rfl
theorem zd_332_15 : decode prog_14_method_90_code 15 = .ok (.invokevirtual 767, 3) := zsh_g zdk_332 (r := 3) (k := 1) rfl rfl rfl
theorem zd_332_18 : decode prog_14_method_90_code 18 = .ok (.aload_n 0, 1) := zsh_g zdk_332 (r := 4) (k := 0) rfl rfl rfl
theorem zd_332_19 : decode prog_14_method_90_code 19 = .ok (.iconst 0, 1) := zsh_g zdk_332 (r := 4) (k := 1) rfl rfl rfl
theorem zd_332_20 : decode prog_14_method_90_code 20 = .ok (.invokevirtual 764, 3) := zsh_g zdk_332 (r := 5) (k := 0) rfl rfl rfl
theorem zd_332_23 : decode prog_14_method_90_code 23 = .ok (.aload_n 0, 1) := zsh_g zdk_332 (r := 5) (k := 1) rfl rfl rfl
theorem zd_332_24 : decode prog_14_method_90_code 24 = .ok (.invokevirtual 750, 3) := zsh_g zdk_332 (r := 6) (k := 0) rfl rfl rfl
theorem zd_332_27 : decode prog_14_method_90_code 27 = .ok (.aload_n 0, 1) := zsh_g zdk_332 (r := 6) (k := 1) rfl rfl rfl
theorem zd_332_28 : decode prog_14_method_90_code 28 = .ok (.ldc2_w 923, 3) := zsh_g zdk_332 (r := 7) (k := 0) rfl rfl rfl
theorem zd_332_31 : decode prog_14_method_90_code 31 = .ok (.invokevirtual 761, 3) := zsh_g zdk_332 (r := 7) (k := 1) rfl rfl rfl
theorem zd_332_34 : decode prog_14_method_90_code 34 = .ok (.aload_n 0, 1) := zsh_g zdk_332 (r := 8) (k := 0) rfl rfl rfl
theorem zd_332_35 : decode prog_14_method_90_code 35 = .ok (.ldc2_w 836, 3) := zsh_g zdk_332 (r := 8) (k := 1) rfl rfl rfl
theorem zd_332_38 : decode prog_14_method_90_code 38 = .ok (.invokevirtual 758, 3) := zsh_g zdk_332 (r := 9) (k := 0) rfl rfl rfl
theorem zd_332_41 : decode prog_14_method_90_code 41 = .ok (.aload_n 0, 1) := zsh_g zdk_332 (r := 10) (k := 0) rfl rfl rfl
theorem zd_332_42 : decode prog_14_method_90_code 42 = .ok (.ldc2_w 870, 3) := zsh_g zdk_332 (r := 10) (k := 1) rfl rfl rfl
theorem zd_332_45 : decode prog_14_method_90_code 45 = .ok (.invokevirtual 740, 3) := zsh_g zdk_332 (r := 11) (k := 0) rfl rfl rfl
theorem zd_332_48 : decode prog_14_method_90_code 48 = .ok (.aload_n 0, 1) := zsh_g zdk_332 (r := 12) (k := 0) rfl rfl rfl
theorem zd_332_49 : decode prog_14_method_90_code 49 = .ok (.invokevirtual 750, 3) := zsh_g zdk_332 (r := 12) (k := 1) rfl rfl rfl
theorem zd_332_52 : decode prog_14_method_90_code 52 = .ok (.aload_n 0, 1) := zsh_g zdk_332 (r := 13) (k := 0) rfl rfl rfl
theorem zd_332_53 : decode prog_14_method_90_code 53 = .ok (.ldc2_w 927, 3) := zsh_g zdk_332 (r := 13) (k := 1) rfl rfl rfl
theorem zd_332_56 : decode prog_14_method_90_code 56 = .ok (.invokevirtual 740, 3) := zsh_g zdk_332 (r := 14) (k := 0) rfl rfl rfl
theorem zd_332_59 : decode prog_14_method_90_code 59 = .ok (.aload_n 0, 1) := zsh_g zdk_332 (r := 14) (k := 1) rfl rfl rfl
theorem zd_332_60 : decode prog_14_method_90_code 60 = .ok (.invokevirtual 750, 3) := zsh_g zdk_332 (r := 15) (k := 0) rfl rfl rfl
def zdl_333 : List (List (Nat × Instr × Nat)) := [[(0, (.iload_n 1), 1)], [], [], [], [], [], [], [], [], [(0, (.aload_n 0), 1), (1, (.getfield 283), 3)], [(0, (.aload_n 0), 1), (1, (.getfield 917), 3)], [(0, (.aload_n 0), 1), (1, (.invokevirtual 791), 3)], [(0, .iastore, 1), (1, (.aload_n 0), 1), (2, (.aload_n 0), 1), (3, (.getfield 283), 3)], [(2, (.aload_n 0), 1), (3, (.getfield 917), 3)], [(2, .iaload, 1), (3, (.iconst 1), 1)], [(0, (.invokevirtual 920), 3), (3, (.aload_n 0), 1)], [(0, .dup, 1), (1, (.getfield 917), 3)], [(0, (.iconst 1), 1), (1, .iadd, 1), (2, (.putfield 917), 3)], [(1, (.goto 203), 3)], [(0, (.aload_n 0), 1), (1, (.getfield 286), 3)], [(0, (.aload_n 0), 1), (1, (.getfield 917), 3)], [(0, (.iconst 1), 1), (1, .isub, 1), (2, (.aload_n 0), 1), (3, (.invokevirtual 791), 3)], [(2, .iastore, 1), (3, (.aload_n 0), 1)], [(0, (.aload_n 0), 1), (1, (.getfield 286), 3)], [(0, (.aload_n 0), 1), (1, (.getfield 917), 3)], [(0, (.iconst 1), 1), (1, .isub, 1), (2, .iaload, 1), (3, (.iconst 0), 1)], [(0, (.invokevirtual 920), 3), (3, (.aload_n 0), 1)], [(0, (.aload_n 0), 1), (1, (.getfield 283), 3)], [(0, (.aload_n 0), 1), (1, (.getfield 917), 3)], [(0, (.iconst 1), 1), (1, .isub, 1), (2, .iaload, 1), (3, (.invokevirtual 824), 3)], [(2, (.goto 154), 3)], [(1, (.aload_n 0), 1), (2, .dup, 1), (3, (.getfield 917), 3)], [(2, (.iconst 1), 1), (3, .isub, 1)], [(0, (.putfield 917), 3), (3, (.aload_n 0), 1)], [(0, (.iload_n 2), 1), (1, (.iconst 1), 1), (2, (.if_icmp .ne 15), 3)], [(1, (.aload_n 0), 1), (2, (.getfield 286), 3)], [(1, (.aload_n 0), 1), (2, (.getfield 917), 3)], [(1, .iaload, 1), (2, (.goto 12), 3)], [(1, (.aload_n 0), 1), (2, (.getfield 283), 3)], [(1, (.aload_n 0), 1), (2, (.getfield 917), 3)], [(1, .iaload, 1), (2, (.invokevirtual 824), 3)], [(1, (.goto 111), 3)], [(0, (.aload_n 0), 1), (1, (.getfield 283), 3)], [(0, (.aload_n 0), 1), (1, (.getfield 917), 3)], [(0, (.aload_n 0), 1), (1, (.invokevirtual 791), 3)], [(0, .iastore, 1), (1, (.aload_n 0), 1), (2, (.getfield 286), 3)], [(1, (.aload_n 0), 1), (2, (.getfield 917), 3)], [(1, (.aload_n 0), 1), (2, (.invokevirtual 791), 3)], [(1, .iastore, 1), (2, (.aload_n 0), 1), (3, (.aload_n 0), 1)], [(0, (.getfield 283), 3), (3, (.aload_n 0), 1)], [(0, (.getfield 917), 3), (3, .iaload, 1)], [(0, (.invokevirtual 824), 3), (3, (.aload_n 0), 1)], [(0, .dup, 1), (1, (.getfield 917), 3)], [(0, (.iconst 1), 1), (1, .iadd, 1), (2, (.putfield 917), 3)], [(1, (.goto 59), 3)], [(0, (.aload_n 0), 1), (1, (.aload_n 0), 1), (2, (.getfield 286), 3)], [(1, (.aload_n 0), 1), (2, (.getfield 917), 3)], [(1, (.iconst 1), 1), (2, .isub, 1), (3, .iaload, 1)], [(0, (.iconst 1), 1), (1, (.invokevirtual 920), 3)], [(0, (.goto 40), 3), (3, (.aload_n 0), 1)], [(0, .dup, 1), (1, (.getfield 917), 3)], [(0, (.iconst 1), 1), (1, .isub, 1), (2, (.putfield 917), 3)], [(1, (.aload_n 0), 1), (2, (.aload_n 0), 1), (3, (.getfield 283), 3)], [(2, (.aload_n 0), 1), (3, (.getfield 917), 3)], [(2, .iaload, 1), (3, (.iconst 0), 1)], [(0, (.invokevirtual 920), 3), (3, (.aload_n 0), 1)], [(0, (.aload_n 0), 1), (1, (.getfield 286), 3)], [(0, (.aload_n 0), 1), (1, (.getfield 917), 3)], [(0, .iaload, 1), (1, (.invokevirtual 824), 3)]]
theorem zdk_333 : zsh_all 8 zdl_333 prog_14_method_88_code.data.toList = true := by decide +kernel
theorem zd_333_0 : decode prog_14_method_88_code 0 = .ok (.iload_n 1, 1) := zsh_g zdk_333 (r := 0) (k := 0) rfl rfl rfl
theorem zd_333_36 : decode prog_14_method_88_code 36 = .ok (.aload_n 0, 1) := zsh_g zdk_333 (r := 9) (k := 0) rfl rfl rfl
theorem zd_333_37 : decode prog_14_method_88_code 37 = .ok (.getfield 283, 3) := zsh_g zdk_333 (r := 9) (k := 1) rfl rfl rfl
theorem zd_333_40 : decode prog_14_method_88_code 40 = .ok (.aload_n 0, 1) := zsh_g zdk_333 (r := 10) (k := 0) rfl rfl rfl
theorem zd_333_41 : decode prog_14_method_88_code 41 = .ok (.getfield 917, 3) := zsh_g zdk_333 (r := 10) (k := 1) rfl rfl rfl
theorem zd_333_44 : decode prog_14_method_88_code 44 = .ok (.aload_n 0, 1) := zsh_g zdk_333 (r := 11) (k := 0) rfl rfl rfl
theorem zd_333_45 : decode prog_14_method_88_code 45 = .ok (.invokevirtual 791, 3) := zsh_g zdk_333 (r := 11) (k := 1) rfl rfl rfl
theorem zd_333_48 : decode prog_14_method_88_code 48 = .ok (.iastore, 1) := zsh_g zdk_333 (r := 12) (k := 0) rfl rfl rfl
theorem zd_333_49 : decode prog_14_method_88_code 49 = .ok (.aload_n 0, 1) := zsh_g zdk_333 (r := 12) (k := 1) rfl rfl rfl
theorem zd_333_50 : decode prog_14_method_88_code 50 = .ok (.aload_n 0, 1) := zsh_g zdk_333 (r := 12) (k := 2) rfl rfl rfl
theorem zd_333_51 : decode prog_14_method_88_code 51 = .ok (.getfield 283, 3) := zsh_g zdk_333 (r := 12) (k := 3) rfl rfl rfl
theorem zd_333_54 : decode prog_14_method_88_code 54 = .ok (.aload_n 0, 1) := zsh_g zdk_333 (r := 13) (k := 0) rfl rfl rfl
theorem zd_333_55 : decode prog_14_method_88_code 55 = .ok (.getfield 917, 3) := zsh_g zdk_333 (r := 13) (k := 1) rfl rfl rfl
theorem zd_333_58 : decode prog_14_method_88_code 58 = .ok (.iaload, 1) := zsh_g zdk_333 (r := 14) (k := 0) rfl rfl rfl
theorem zd_333_59 : decode prog_14_method_88_code 59 = .ok (.iconst 1, 1) := zsh_g zdk_333 (r := 14) (k := 1) rfl rfl rfl
theorem zd_333_60 : decode prog_14_method_88_code 60 = .ok (.invokevirtual 920, 3) := zsh_g zdk_333 (r := 15) (k := 0) rfl rfl rfl
theorem zd_333_63 : decode prog_14_method_88_code 63 = .ok (.aload_n 0, 1) := zsh_g zdk_333 (r := 15) (k := 1) rfl rfl rfl
theorem zd_333_64 : decode prog_14_method_88_code 64 = .ok (.dup, 1) := zsh_g zdk_333 (r := 16) (k := 0) rfl rfl rfl
theorem zd_333_65 : decode prog_14_method_88_code 65 = .ok (.getfield 917, 3) := zsh_g zdk_333 (r := 16) (k := 1) rfl rfl rfl
theorem zd_333_68 : decode prog_14_method_88_code 68 = .ok (.iconst 1, 1) := zsh_g zdk_333 (r := 17) (k := 0) rfl rfl rfl
theorem zd_333_69 : decode prog_14_method_88_code 69 = .ok (.iadd, 1) := zsh_g zdk_333 (r := 17) (k := 1) rfl rfl rfl
theorem zd_333_70 : decode prog_14_method_88_code 70 = .ok (.putfield 917, 3) := zsh_g zdk_333 (r := 17) (k := 2) rfl rfl rfl
theorem zd_333_73 : decode prog_14_method_88_code 73 = .ok (.goto 203, 3) := zsh_g zdk_333 (r := 18) (k := 0) rfl rfl rfl
theorem zd_333_76 : decode prog_14_method_88_code 76 = .ok (.aload_n 0, 1) := zsh_g zdk_333 (r := 19) (k := 0) rfl rfl rfl
theorem zd_333_77 : decode prog_14_method_88_code 77 = .ok (.getfield 286, 3) := zsh_g zdk_333 (r := 19) (k := 1) rfl rfl rfl
theorem zd_333_80 : decode prog_14_method_88_code 80 = .ok (.aload_n 0, 1) := zsh_g zdk_333 (r := 20) (k := 0) rfl rfl rfl
theorem zd_333_81 : decode prog_14_method_88_code 81 = .ok (.getfield 917, 3) := zsh_g zdk_333 (r := 20) (k := 1) rfl rfl rfl
theorem zd_333_84 : decode prog_14_method_88_code 84 = .ok (.iconst 1, 1) := zsh_g zdk_333 (r := 21) (k := 0) rfl rfl rfl
theorem zd_333_85 : decode prog_14_method_88_code 85 = .ok (.isub, 1) := zsh_g zdk_333 (r := 21) (k := 1) rfl rfl rfl
theorem zd_333_86 : decode prog_14_method_88_code 86 = .ok (.aload_n 0, 1) := zsh_g zdk_333 (r := 21) (k := 2) rfl rfl rfl
theorem zd_333_87 : decode prog_14_method_88_code 87 = .ok (.invokevirtual 791, 3) := zsh_g zdk_333 (r := 21) (k := 3) rfl rfl rfl
theorem zd_333_90 : decode prog_14_method_88_code 90 = .ok (.iastore, 1) := zsh_g zdk_333 (r := 22) (k := 0) rfl rfl rfl
theorem zd_333_91 : decode prog_14_method_88_code 91 = .ok (.aload_n 0, 1) := zsh_g zdk_333 (r := 22) (k := 1) rfl rfl rfl
theorem zd_333_92 : decode prog_14_method_88_code 92 = .ok (.aload_n 0, 1) := zsh_g zdk_333 (r := 23) (k := 0) rfl rfl rfl
theorem zd_333_93 : decode prog_14_method_88_code 93 = .ok (.getfield 286, 3) := zsh_g zdk_333 (r := 23) (k := 1) rfl rfl rfl
theorem zd_333_96 : decode prog_14_method_88_code 96 = .ok (.aload_n 0, 1) := zsh_g zdk_333 (r := 24) (k := 0) rfl rfl rfl
theorem zd_333_97 : decode prog_14_method_88_code 97 = .ok (.getfield 917, 3) := zsh_g zdk_333 (r := 24) (k := 1) rfl rfl rfl
theorem zd_333_100 : decode prog_14_method_88_code 100 = .ok (.iconst 1, 1) := zsh_g zdk_333 (r := 25) (k := 0) rfl rfl rfl
theorem zd_333_101 : decode prog_14_method_88_code 101 = .ok (.isub, 1) := zsh_g zdk_333 (r := 25) (k := 1) rfl rfl rfl
theorem zd_333_102 : decode prog_14_method_88_code 102 = .ok (.iaload, 1) := zsh_g zdk_333 (r := 25) (k := 2) rfl rfl rfl
theorem zd_333_103 : decode prog_14_method_88_code 103 = .ok (.iconst 0, 1) := zsh_g zdk_333 (r := 25) (k := 3) rfl rfl rfl
theorem zd_333_104 : decode prog_14_method_88_code 104 = .ok (.invokevirtual 920, 3) := zsh_g zdk_333 (r := 26) (k := 0) rfl rfl rfl
theorem zd_333_107 : decode prog_14_method_88_code 107 = .ok (.aload_n 0, 1) := zsh_g zdk_333 (r := 26) (k := 1) rfl rfl rfl
theorem zd_333_108 : decode prog_14_method_88_code 108 = .ok (.aload_n 0, 1) := zsh_g zdk_333 (r := 27) (k := 0) rfl rfl rfl
theorem zd_333_109 : decode prog_14_method_88_code 109 = .ok (.getfield 283, 3) := zsh_g zdk_333 (r := 27) (k := 1) rfl rfl rfl
theorem zd_333_112 : decode prog_14_method_88_code 112 = .ok (.aload_n 0, 1) := zsh_g zdk_333 (r := 28) (k := 0) rfl rfl rfl
theorem zd_333_113 : decode prog_14_method_88_code 113 = .ok (.getfield 917, 3) := zsh_g zdk_333 (r := 28) (k := 1) rfl rfl rfl
theorem zd_333_116 : decode prog_14_method_88_code 116 = .ok (.iconst 1, 1) := zsh_g zdk_333 (r := 29) (k := 0) rfl rfl rfl
theorem zd_333_117 : decode prog_14_method_88_code 117 = .ok (.isub, 1) := zsh_g zdk_333 (r := 29) (k := 1) rfl rfl rfl
theorem zd_333_118 : decode prog_14_method_88_code 118 = .ok (.iaload, 1) := zsh_g zdk_333 (r := 29) (k := 2) rfl rfl rfl
theorem zd_333_119 : decode prog_14_method_88_code 119 = .ok (.invokevirtual 824, 3) := zsh_g zdk_333 (r := 29) (k := 3) rfl rfl rfl
theorem zd_333_122 : decode prog_14_method_88_code 122 = .ok (.goto 154, 3) := zsh_g zdk_333 (r := 30) (k := 0) rfl rfl rfl
theorem zd_333_125 : decode prog_14_method_88_code 125 = .ok (.aload_n 0, 1) := zsh_g zdk_333 (r := 31) (k := 0) rfl rfl rfl
theorem zd_333_126 : decode prog_14_method_88_code 126 = .ok (.dup, 1) := zsh_g zdk_333 (r := 31) (k := 1) rfl rfl rfl
theorem zd_333_127 : decode prog_14_method_88_code 127 = .ok (.getfield 917, 3) := zsh_g zdk_333 (r := 31) (k := 2) rfl rfl rfl
theorem zd_333_130 : decode prog_14_method_88_code 130 = .ok (.iconst 1, 1) := zsh_g zdk_333 (r := 32) (k := 0) rfl rfl rfl
theorem zd_333_131 : decode prog_14_method_88_code 131 = .ok (.isub, 1) := zsh_g zdk_333 (r := 32) (k := 1) rfl rfl rfl
theorem zd_333_132 : decode prog_14_method_88_code 132 = .ok (.putfield 917, 3) := zsh_g zdk_333 (r := 33) (k := 0) rfl rfl rfl
theorem zd_333_135 : decode prog_14_method_88_code 135 = .ok (.aload_n 0, 1) := zsh_g zdk_333 (r := 33) (k := 1) rfl rfl rfl
theorem zd_333_136 : decode prog_14_method_88_code 136 = .ok (.iload_n 2, 1) := zsh_g zdk_333 (r := 34) (k := 0) rfl rfl rfl
theorem zd_333_137 : decode prog_14_method_88_code 137 = .ok (.iconst 1, 1) := zsh_g zdk_333 (r := 34) (k := 1) rfl rfl rfl
theorem zd_333_138 : decode prog_14_method_88_code 138 = .ok (.if_icmp .ne 15, 3) := zsh_g zdk_333 (r := 34) (k := 2) rfl rfl rfl
theorem zd_333_141 : decode prog_14_method_88_code 141 = .ok (.aload_n 0, 1) := zsh_g zdk_333 (r := 35) (k := 0) rfl rfl rfl
theorem zd_333_142 : decode prog_14_method_88_code 142 = .ok (.getfield 286, 3) := zsh_g zdk_333 (r := 35) (k := 1) rfl rfl rfl
theorem zd_333_145 : decode prog_14_method_88_code 145 = .ok (.aload_n 0, 1) := zsh_g zdk_333 (r := 36) (k := 0) rfl rfl rfl
theorem zd_333_146 : decode prog_14_method_88_code 146 = .ok (.getfield 917, 3) := zsh_g zdk_333 (r := 36) (k := 1) rfl rfl rfl
theorem zd_333_149 : decode prog_14_method_88_code 149 = .ok (.iaload, 1) := zsh_g zdk_333 (r := 37) (k := 0) rfl rfl rfl
theorem zd_333_150 : decode prog_14_method_88_code 150 = .ok (.goto 12, 3) := zsh_g zdk_333 (r := 37) (k := 1) rfl rfl rfl
theorem zd_333_153 : decode prog_14_method_88_code 153 = .ok (.aload_n 0, 1) := zsh_g zdk_333 (r := 38) (k := 0) rfl rfl rfl
theorem zd_333_154 : decode prog_14_method_88_code 154 = .ok (.getfield 283, 3) := zsh_g zdk_333 (r := 38) (k := 1) rfl rfl rfl
theorem zd_333_157 : decode prog_14_method_88_code 157 = .ok (.aload_n 0, 1) := zsh_g zdk_333 (r := 39) (k := 0) rfl rfl rfl
theorem zd_333_158 : decode prog_14_method_88_code 158 = .ok (.getfield 917, 3) := zsh_g zdk_333 (r := 39) (k := 1) rfl rfl rfl
theorem zd_333_161 : decode prog_14_method_88_code 161 = .ok (.iaload, 1) := zsh_g zdk_333 (r := 40) (k := 0) rfl rfl rfl
theorem zd_333_162 : decode prog_14_method_88_code 162 = .ok (.invokevirtual 824, 3) := zsh_g zdk_333 (r := 40) (k := 1) rfl rfl rfl
theorem zd_333_165 : decode prog_14_method_88_code 165 = .ok (.goto 111, 3) := zsh_g zdk_333 (r := 41) (k := 0) rfl rfl rfl
theorem zd_333_168 : decode prog_14_method_88_code 168 = .ok (.aload_n 0, 1) := zsh_g zdk_333 (r := 42) (k := 0) rfl rfl rfl
theorem zd_333_169 : decode prog_14_method_88_code 169 = .ok (.getfield 283, 3) := zsh_g zdk_333 (r := 42) (k := 1) rfl rfl rfl
theorem zd_333_172 : decode prog_14_method_88_code 172 = .ok (.aload_n 0, 1) := zsh_g zdk_333 (r := 43) (k := 0) rfl rfl rfl
theorem zd_333_173 : decode prog_14_method_88_code 173 = .ok (.getfield 917, 3) := zsh_g zdk_333 (r := 43) (k := 1) rfl rfl rfl
theorem zd_333_176 : decode prog_14_method_88_code 176 = .ok (.aload_n 0, 1) := zsh_g zdk_333 (r := 44) (k := 0) rfl rfl rfl
theorem zd_333_177 : decode prog_14_method_88_code 177 = .ok (.invokevirtual 791, 3) := zsh_g zdk_333 (r := 44) (k := 1) rfl rfl rfl
theorem zd_333_180 : decode prog_14_method_88_code 180 = .ok (.iastore, 1) := zsh_g zdk_333 (r := 45) (k := 0) rfl rfl rfl
theorem zd_333_181 : decode prog_14_method_88_code 181 = .ok (.aload_n 0, 1) := zsh_g zdk_333 (r := 45) (k := 1) rfl rfl rfl
theorem zd_333_182 : decode prog_14_method_88_code 182 = .ok (.getfield 286, 3) := zsh_g zdk_333 (r := 45) (k := 2) rfl rfl rfl
theorem zd_333_185 : decode prog_14_method_88_code 185 = .ok (.aload_n 0, 1) := zsh_g zdk_333 (r := 46) (k := 0) rfl rfl rfl
theorem zd_333_186 : decode prog_14_method_88_code 186 = .ok (.getfield 917, 3) := zsh_g zdk_333 (r := 46) (k := 1) rfl rfl rfl
theorem zd_333_189 : decode prog_14_method_88_code 189 = .ok (.aload_n 0, 1) := zsh_g zdk_333 (r := 47) (k := 0) rfl rfl rfl
theorem zd_333_190 : decode prog_14_method_88_code 190 = .ok (.invokevirtual 791, 3) := zsh_g zdk_333 (r := 47) (k := 1) rfl rfl rfl
theorem zd_333_193 : decode prog_14_method_88_code 193 = .ok (.iastore, 1) := zsh_g zdk_333 (r := 48) (k := 0) rfl rfl rfl
theorem zd_333_194 : decode prog_14_method_88_code 194 = .ok (.aload_n 0, 1) := zsh_g zdk_333 (r := 48) (k := 1) rfl rfl rfl
theorem zd_333_195 : decode prog_14_method_88_code 195 = .ok (.aload_n 0, 1) := zsh_g zdk_333 (r := 48) (k := 2) rfl rfl rfl
theorem zd_333_196 : decode prog_14_method_88_code 196 = .ok (.getfield 283, 3) := zsh_g zdk_333 (r := 49) (k := 0) rfl rfl rfl
theorem zd_333_199 : decode prog_14_method_88_code 199 = .ok (.aload_n 0, 1) := zsh_g zdk_333 (r := 49) (k := 1) rfl rfl rfl
theorem zd_333_200 : decode prog_14_method_88_code 200 = .ok (.getfield 917, 3) := zsh_g zdk_333 (r := 50) (k := 0) rfl rfl rfl
theorem zd_333_203 : decode prog_14_method_88_code 203 = .ok (.iaload, 1) := zsh_g zdk_333 (r := 50) (k := 1) rfl rfl rfl
theorem zd_333_204 : decode prog_14_method_88_code 204 = .ok (.invokevirtual 824, 3) := zsh_g zdk_333 (r := 51) (k := 0) rfl rfl rfl
theorem zd_333_207 : decode prog_14_method_88_code 207 = .ok (.aload_n 0, 1) := zsh_g zdk_333 (r := 51) (k := 1) rfl rfl rfl
theorem zd_333_208 : decode prog_14_method_88_code 208 = .ok (.dup, 1) := zsh_g zdk_333 (r := 52) (k := 0) rfl rfl rfl
theorem zd_333_209 : decode prog_14_method_88_code 209 = .ok (.getfield 917, 3) := zsh_g zdk_333 (r := 52) (k := 1) rfl rfl rfl
theorem zd_333_212 : decode prog_14_method_88_code 212 = .ok (.iconst 1, 1) := zsh_g zdk_333 (r := 53) (k := 0) rfl rfl rfl
theorem zd_333_213 : decode prog_14_method_88_code 213 = .ok (.iadd, 1) := zsh_g zdk_333 (r := 53) (k := 1) rfl rfl rfl
theorem zd_333_214 : decode prog_14_method_88_code 214 = .ok (.putfield 917, 3) := zsh_g zdk_333 (r := 53) (k := 2) rfl rfl rfl
theorem zd_333_217 : decode prog_14_method_88_code 217 = .ok (.goto 59, 3) := zsh_g zdk_333 (r := 54) (k := 0) rfl rfl rfl
theorem zd_333_220 : decode prog_14_method_88_code 220 = .ok (.aload_n 0, 1) := zsh_g zdk_333 (r := 55) (k := 0) rfl rfl rfl
theorem zd_333_221 : decode prog_14_method_88_code 221 = .ok (.aload_n 0, 1) := zsh_g zdk_333 (r := 55) (k := 1) rfl rfl rfl
theorem zd_333_222 : decode prog_14_method_88_code 222 = .ok (.getfield 286, 3) := zsh_g zdk_333 (r := 55) (k := 2) rfl rfl rfl
theorem zd_333_225 : decode prog_14_method_88_code 225 = .ok (.aload_n 0, 1) := zsh_g zdk_333 (r := 56) (k := 0) rfl rfl rfl
theorem zd_333_226 : decode prog_14_method_88_code 226 = .ok (.getfield 917, 3) := zsh_g zdk_333 (r := 56) (k := 1) rfl rfl rfl
theorem zd_333_229 : decode prog_14_method_88_code 229 = .ok (.iconst 1, 1) := zsh_g zdk_333 (r := 57) (k := 0) rfl rfl rfl
theorem zd_333_230 : decode prog_14_method_88_code 230 = .ok (.isub, 1) := zsh_g zdk_333 (r := 57) (k := 1) rfl rfl rfl
theorem zd_333_231 : decode prog_14_method_88_code 231 = .ok (.iaload, 1) := zsh_g zdk_333 (r := 57) (k := 2) rfl rfl rfl
theorem zd_333_232 : decode prog_14_method_88_code 232 = .ok (.iconst 1, 1) := zsh_g zdk_333 (r := 58) (k := 0) rfl rfl rfl
theorem zd_333_233 : decode prog_14_method_88_code 233 = .ok (.invokevirtual 920, 3) := zsh_g zdk_333 (r := 58) (k := 1) rfl rfl rfl
theorem zd_333_236 : decode prog_14_method_88_code 236 = .ok (.goto 40, 3) := zsh_g zdk_333 (r := 59) (k := 0) rfl rfl rfl
theorem zd_333_239 : decode prog_14_method_88_code 239 = .ok (.aload_n 0, 1) := zsh_g zdk_333 (r := 59) (k := 1) rfl rfl rfl
theorem zd_333_240 : decode prog_14_method_88_code 240 = .ok (.dup, 1) := zsh_g zdk_333 (r := 60) (k := 0) rfl rfl rfl
theorem zd_333_241 : decode prog_14_method_88_code 241 = .ok (.getfield 917, 3) := zsh_g zdk_333 (r := 60) (k := 1) rfl rfl rfl
theorem zd_333_244 : decode prog_14_method_88_code 244 = .ok (.iconst 1, 1) := zsh_g zdk_333 (r := 61) (k := 0) rfl rfl rfl
theorem zd_333_245 : decode prog_14_method_88_code 245 = .ok (.isub, 1) := zsh_g zdk_333 (r := 61) (k := 1) rfl rfl rfl
theorem zd_333_246 : decode prog_14_method_88_code 246 = .ok (.putfield 917, 3) := zsh_g zdk_333 (r := 61) (k := 2) rfl rfl rfl
theorem zd_333_249 : decode prog_14_method_88_code 249 = .ok (.aload_n 0, 1) := zsh_g zdk_333 (r := 62) (k := 0) rfl rfl rfl
theorem zd_333_250 : decode prog_14_method_88_code 250 = .ok (.aload_n 0, 1) := zsh_g zdk_333 (r := 62) (k := 1) rfl rfl rfl
theorem zd_333_251 : decode prog_14_method_88_code 251 = .ok (.getfield 283, 3) := zsh_g zdk_333 (r := 62) (k := 2) rfl rfl rfl
theorem zd_333_254 : decode prog_14_method_88_code 254 = .ok (.aload_n 0, 1) := zsh_g zdk_333 (r := 63) (k := 0) rfl rfl rfl
theorem zd_333_255 : decode prog_14_method_88_code 255 = .ok (.getfield 917, 3) := zsh_g zdk_333 (r := 63) (k := 1) rfl rfl rfl
theorem zd_333_258 : decode prog_14_method_88_code 258 = .ok (.iaload, 1) := zsh_g zdk_333 (r := 64) (k := 0) rfl rfl rfl
theorem zd_333_259 : decode prog_14_method_88_code 259 = .ok (.iconst 0, 1) := zsh_g zdk_333 (r := 64) (k := 1) rfl rfl rfl
theorem zd_333_260 : decode prog_14_method_88_code 260 = .ok (.invokevirtual 920, 3) := zsh_g zdk_333 (r := 65) (k := 0) rfl rfl rfl
theorem zd_333_263 : decode prog_14_method_88_code 263 = .ok (.aload_n 0, 1) := zsh_g zdk_333 (r := 65) (k := 1) rfl rfl rfl
theorem zd_333_264 : decode prog_14_method_88_code 264 = .ok (.aload_n 0, 1) := zsh_g zdk_333 (r := 66) (k := 0) rfl rfl rfl
theorem zd_333_265 : decode prog_14_method_88_code 265 = .ok (.getfield 286, 3) := zsh_g zdk_333 (r := 66) (k := 1) rfl rfl rfl
theorem zd_333_268 : decode prog_14_method_88_code 268 = .ok (.aload_n 0, 1) := zsh_g zdk_333 (r := 67) (k := 0) rfl rfl rfl
theorem zd_333_269 : decode prog_14_method_88_code 269 = .ok (.getfield 917, 3) := zsh_g zdk_333 (r := 67) (k := 1) rfl rfl rfl
theorem zd_333_272 : decode prog_14_method_88_code 272 = .ok (.iaload, 1) := zsh_g zdk_333 (r := 68) (k := 0) rfl rfl rfl
theorem zd_333_273 : decode prog_14_method_88_code 273 = .ok (.invokevirtual 824, 3) := zsh_g zdk_333 (r := 68) (k := 1) rfl rfl rfl
theorem zd_333_1 : decode prog_14_method_88_code 1 = .ok (.tableswitch 238 13 17 #[35, 75, 124, 167, 219], 35) := by decide +kernel
def zdl_334 : List (List (Nat × Instr × Nat)) := [[(0, (.bipush 64), 2), (2, (.aload_n 0), 1), (3, (.getfield 1174), 3)], [(2, .imul, 1), (3, (.aload_n 0), 1)], [(0, (.getfield 44), 3), (3, (.aload_n 0), 1)], [(0, (.getfield 1174), 3), (3, .iaload, 1)], [(0, .iadd, 1), (1, (.istore_n 3), 1), (2, (.aload_n 0), 1), (3, (.getfield 47), 3)], [(2, (.iload_n 3), 1), (3, (.iload_n 1), 1)], [(0, .iastore, 1), (1, (.aload_n 0), 1), (2, (.getfield 50), 3)], [(1, (.iload_n 3), 1), (2, (.iload_n 2), 1), (3, .bastore, 1)], [(0, (.aload_n 0), 1), (1, (.getfield 53), 3)], [(0, (.iload_n 3), 1), (1, (.iconst 0), 1), (2, .iastore, 1), (3, (.aload_n 0), 1)], [(0, (.getfield 56), 3), (3, (.iload_n 3), 1)], [(0, (.iconst 4), 1), (1, .iastore, 1), (2, (.aload_n 0), 1), (3, (.aload_n 0), 1)], [(0, (.getfield 44), 3), (3, (.aload_n 0), 1)], [(0, (.getfield 1174), 3), (3, .iaload, 1)], [(0, (.putfield 1272), 3), (3, (.aload_n 0), 1)], [(0, (.getfield 44), 3), (3, (.aload_n 0), 1)], [(0, (.getfield 1174), 3), (3, .dup2, 1)], [(0, .iaload, 1), (1, (.iconst 1), 1), (2, .iadd, 1), (3, .iastore, 1)], [(0, (.aload_n 0), 1), (1, (.getfield 383), 3)], [(0, (.aload_n 0), 1), (1, (.getfield 1272), 3)], [(0, (.iconst (-1)), 1), (1, .iastore, 1), (2, (.aload_n 0), 1), (3, (.getfield 386), 3)], [(2, (.aload_n 0), 1), (3, (.getfield 1272), 3)], [(2, (.iconst 0), 1), (3, .bastore, 1)]]
theorem zdk_334 : zsh_all 8 zdl_334 prog_14_method_149_code.data.toList = true := by decide +kernel
theorem zd_334_0 : decode prog_14_method_149_code 0 = .ok (.bipush 64, 2) := zsh_g zdk_334 (r := 0) (k := 0) rfl rfl rfl
theorem zd_334_2 : decode prog_14_method_149_code 2 = .ok (.aload_n 0, 1) := zsh_g zdk_334 (r := 0) (k := 1) rfl rfl rfl
theorem zd_334_3 : decode prog_14_method_149_code 3 = .ok (.getfield 1174, 3) := zsh_g zdk_334 (r := 0) (k := 2) rfl rfl rfl
theorem zd_334_6 : decode prog_14_method_149_code 6 = .ok (.imul, 1) := zsh_g zdk_334 (r := 1) (k := 0) rfl rfl rfl
theorem zd_334_7 : decode prog_14_method_149_code 7 = .ok (.aload_n 0, 1) := zsh_g zdk_334 (r := 1) (k := 1) rfl rfl rfl
theorem zd_334_8 : decode prog_14_method_149_code 8 = .ok (.getfield 44, 3) := zsh_g zdk_334 (r := 2) (k := 0) rfl rfl rfl
theorem zd_334_11 : decode prog_14_method_149_code 11 = .ok (.aload_n 0, 1) := zsh_g zdk_334 (r := 2) (k := 1) rfl rfl rfl
theorem zd_334_12 : decode prog_14_method_149_code 12 = .ok (.getfield 1174, 3) := zsh_g zdk_334 (r := 3) (k := 0) rfl rfl rfl
theorem zd_334_15 : decode prog_14_method_149_code 15 = .ok (.iaload, 1) := zsh_g zdk_334 (r := 3) (k := 1) rfl rfl rfl
theorem zd_334_16 : decode prog_14_method_149_code 16 = .ok (.iadd, 1) := zsh_g zdk_334 (r := 4) (k := 0) rfl rfl rfl
theorem zd_334_17 : decode prog_14_method_149_code 17 = .ok (.istore_n 3, 1) := zsh_g zdk_334 (r := 4) (k := 1) rfl rfl rfl
theorem zd_334_18 : decode prog_14_method_149_code 18 = .ok (.aload_n 0, 1) := zsh_g zdk_334 (r := 4) (k := 2) rfl rfl rfl
theorem zd_334_19 : decode prog_14_method_149_code 19 = .ok (.getfield 47, 3) := zsh_g zdk_334 (r := 4) (k := 3) rfl rfl rfl
theorem zd_334_22 : decode prog_14_method_149_code 22 = .ok (.iload_n 3, 1) := zsh_g zdk_334 (r := 5) (k := 0) rfl rfl rfl
theorem zd_334_23 : decode prog_14_method_149_code 23 = .ok (.iload_n 1, 1) := zsh_g zdk_334 (r := 5) (k := 1) rfl rfl rfl
theorem zd_334_24 : decode prog_14_method_149_code 24 = .ok (.iastore, 1) := zsh_g zdk_334 (r := 6) (k := 0) rfl rfl rfl
theorem zd_334_25 : decode prog_14_method_149_code 25 = .ok (.aload_n 0, 1) := zsh_g zdk_334 (r := 6) (k := 1) rfl rfl rfl
theorem zd_334_26 : decode prog_14_method_149_code 26 = .ok (.getfield 50, 3) := zsh_g zdk_334 (r := 6) (k := 2) rfl rfl rfl
theorem zd_334_29 : decode prog_14_method_149_code 29 = .ok (.iload_n 3, 1) := zsh_g zdk_334 (r := 7) (k := 0) rfl rfl rfl
theorem zd_334_30 : decode prog_14_method_149_code 30 = .ok (.iload_n 2, 1) := zsh_g zdk_334 (r := 7) (k := 1) rfl rfl rfl
theorem zd_334_31 : decode prog_14_method_149_code 31 = .ok (.bastore, 1) := zsh_g zdk_334 (r := 7) (k := 2) rfl rfl rfl
theorem zd_334_32 : decode prog_14_method_149_code 32 = .ok (.aload_n 0, 1) := zsh_g zdk_334 (r := 8) (k := 0) rfl rfl rfl
theorem zd_334_33 : decode prog_14_method_149_code 33 = .ok (.getfield 53, 3) := zsh_g zdk_334 (r := 8) (k := 1) rfl rfl rfl
theorem zd_334_36 : decode prog_14_method_149_code 36 = .ok (.iload_n 3, 1) := zsh_g zdk_334 (r := 9) (k := 0) rfl rfl rfl
theorem zd_334_37 : decode prog_14_method_149_code 37 = .ok (.iconst 0, 1) := zsh_g zdk_334 (r := 9) (k := 1) rfl rfl rfl
theorem zd_334_38 : decode prog_14_method_149_code 38 = .ok (.iastore, 1) := zsh_g zdk_334 (r := 9) (k := 2) rfl rfl rfl
theorem zd_334_39 : decode prog_14_method_149_code 39 = .ok (.aload_n 0, 1) := zsh_g zdk_334 (r := 9) (k := 3) rfl rfl rfl
theorem zd_334_40 : decode prog_14_method_149_code 40 = .ok (.getfield 56, 3) := zsh_g zdk_334 (r := 10) (k := 0) rfl rfl rfl
theorem zd_334_43 : decode prog_14_method_149_code 43 = .ok (.iload_n 3, 1) := zsh_g zdk_334 (r := 10) (k := 1) rfl rfl rfl
theorem zd_334_44 : decode prog_14_method_149_code 44 = .ok (.iconst 4, 1) := zsh_g zdk_334 (r := 11) (k := 0) rfl rfl rfl
theorem zd_334_45 : decode prog_14_method_149_code 45 = .ok (.iastore, 1) := zsh_g zdk_334 (r := 11) (k := 1) rfl rfl rfl
theorem zd_334_46 : decode prog_14_method_149_code 46 = .ok (.aload_n 0, 1) := zsh_g zdk_334 (r := 11) (k := 2) rfl rfl rfl
theorem zd_334_47 : decode prog_14_method_149_code 47 = .ok (.aload_n 0, 1) := zsh_g zdk_334 (r := 11) (k := 3) rfl rfl rfl
theorem zd_334_48 : decode prog_14_method_149_code 48 = .ok (.getfield 44, 3) := zsh_g zdk_334 (r := 12) (k := 0) rfl rfl rfl
theorem zd_334_51 : decode prog_14_method_149_code 51 = .ok (.aload_n 0, 1) := zsh_g zdk_334 (r := 12) (k := 1) rfl rfl rfl
theorem zd_334_52 : decode prog_14_method_149_code 52 = .ok (.getfield 1174, 3) := zsh_g zdk_334 (r := 13) (k := 0) rfl rfl rfl
theorem zd_334_55 : decode prog_14_method_149_code 55 = .ok (.iaload, 1) := zsh_g zdk_334 (r := 13) (k := 1) rfl rfl rfl
theorem zd_334_56 : decode prog_14_method_149_code 56 = .ok (.putfield 1272, 3) := zsh_g zdk_334 (r := 14) (k := 0) rfl rfl rfl
theorem zd_334_59 : decode prog_14_method_149_code 59 = .ok (.aload_n 0, 1) := zsh_g zdk_334 (r := 14) (k := 1) rfl rfl rfl
theorem zd_334_60 : decode prog_14_method_149_code 60 = .ok (.getfield 44, 3) := zsh_g zdk_334 (r := 15) (k := 0) rfl rfl rfl
theorem zd_334_63 : decode prog_14_method_149_code 63 = .ok (.aload_n 0, 1) := zsh_g zdk_334 (r := 15) (k := 1) rfl rfl rfl
theorem zd_334_64 : decode prog_14_method_149_code 64 = .ok (.getfield 1174, 3) := zsh_g zdk_334 (r := 16) (k := 0) rfl rfl rfl
theorem zd_334_67 : decode prog_14_method_149_code 67 = .ok (.dup2, 1) := zsh_g zdk_334 (r := 16) (k := 1) rfl rfl rfl
theorem zd_334_68 : decode prog_14_method_149_code 68 = .ok (.iaload, 1) := zsh_g zdk_334 (r := 17) (k := 0) rfl rfl rfl
theorem zd_334_69 : decode prog_14_method_149_code 69 = .ok (.iconst 1, 1) := zsh_g zdk_334 (r := 17) (k := 1) rfl rfl rfl
theorem zd_334_70 : decode prog_14_method_149_code 70 = .ok (.iadd, 1) := zsh_g zdk_334 (r := 17) (k := 2) rfl rfl rfl
theorem zd_334_71 : decode prog_14_method_149_code 71 = .ok (.iastore, 1) := zsh_g zdk_334 (r := 17) (k := 3) rfl rfl rfl
theorem zd_334_72 : decode prog_14_method_149_code 72 = .ok (.aload_n 0, 1) := zsh_g zdk_334 (r := 18) (k := 0) rfl rfl rfl
theorem zd_334_73 : decode prog_14_method_149_code 73 = .ok (.getfield 383, 3) := zsh_g zdk_334 (r := 18) (k := 1) rfl rfl rfl
theorem zd_334_76 : decode prog_14_method_149_code 76 = .ok (.aload_n 0, 1) := zsh_g zdk_334 (r := 19) (k := 0) rfl rfl rfl
theorem zd_334_77 : decode prog_14_method_149_code 77 = .ok (.getfield 1272, 3) := zsh_g zdk_334 (r := 19) (k := 1) rfl rfl rfl
theorem zd_334_80 : decode prog_14_method_149_code 80 = .ok (.iconst (-1), 1) := zsh_g zdk_334 (r := 20) (k := 0) rfl rfl rfl
theorem zd_334_81 : decode prog_14_method_149_code 81 = .ok (.iastore, 1) := zsh_g zdk_334 (r := 20) (k := 1) rfl rfl rfl
theorem zd_334_82 : decode prog_14_method_149_code 82 = .ok (.aload_n 0, 1) := zsh_g zdk_334 (r := 20) (k := 2) rfl rfl rfl
theorem zd_334_83 : decode prog_14_method_149_code 83 = .ok (.getfield 386, 3) := zsh_g zdk_334 (r := 20) (k := 3) rfl rfl rfl
theorem zd_334_86 : decode prog_14_method_149_code 86 = .ok (.aload_n 0, 1) := zsh_g zdk_334 (r := 21) (k := 0) rfl rfl rfl
theorem zd_334_87 : decode prog_14_method_149_code 87 = .ok (.getfield 1272, 3) := zsh_g zdk_334 (r := 21) (k := 1) rfl rfl rfl
theorem zd_334_90 : decode prog_14_method_149_code 90 = .ok (.iconst 0, 1) := zsh_g zdk_334 (r := 22) (k := 0) rfl rfl rfl
theorem zd_334_91 : decode prog_14_method_149_code 91 = .ok (.bastore, 1) := zsh_g zdk_334 (r := 22) (k := 1) rfl rfl rfl
def zdl_335 : List (List (Nat × Instr × Nat)) := [[(0, (.aload_n 0), 1), (1, (.getfield 1171), 3)], [(0, (.ifCond .eq 21), 3), (3, (.aload_n 0), 1)], [(0, (.getfield 37), 3), (3, (.ldc_w 325), 3)], [(2, (.aload_n 0), 1), (3, (.getfield 1174), 3)], [(2, .imul, 1), (3, (.iload_n 1), 1)], [(0, .iadd, 1), (1, .baload, 1), (2, (.goto 9), 3)], [(1, (.aload_n 0), 1), (2, (.getfield 7), 3)], [(1, (.iload_n 1), 1), (2, .iaload, 1)]]
theorem zdk_335 : zsh_all 8 zdl_335 prog_14_method_98_code.data.toList = true := by decide +kernel
theorem zd_335_0 : decode prog_14_method_98_code 0 = .ok (.aload_n 0, 1) := zsh_g zdk_335 (r := 0) (k := 0) rfl rfl rfl
theorem zd_335_1 : decode prog_14_method_98_code 1 = .ok (.getfield 1171, 3) := zsh_g zdk_335 (r := 0) (k := 1) rfl rfl rfl
theorem zd_335_4 : decode prog_14_method_98_code 4 = .ok (.ifCond .eq 21, 3) := zsh_g zdk_335 (r := 1) (k := 0) rfl rfl rfl
theorem zd_335_7 : decode prog_14_method_98_code 7 = .ok (.aload_n 0, 1) := zsh_g zdk_335 (r := 1) (k := 1) rfl rfl rfl
theorem zd_335_8 : decode prog_14_method_98_code 8 = .ok (.getfield 37, 3) := zsh_g zdk_335 (r := 2) (k := 0) rfl rfl rfl
theorem zd_335_11 : decode prog_14_method_98_code 11 = .ok (.ldc_w 325, 3) := zsh_g zdk_335 (r := 2) (k := 1) rfl rfl rfl
theorem zd_335_14 : decode prog_14_method_98_code 14 = .ok (.aload_n 0, 1) := zsh_g zdk_335 (r := 3) (k := 0) rfl rfl rfl
theorem zd_335_15 : decode prog_14_method_98_code 15 = .ok (.getfield 1174, 3) := zsh_g zdk_335 (r := 3) (k := 1) rfl rfl rfl
theorem zd_335_18 : decode prog_14_method_98_code 18 = .ok (.imul, 1) := zsh_g zdk_335 (r := 4) (k := 0) rfl rfl rfl
theorem zd_335_19 : decode prog_14_method_98_code 19 = .ok (.iload_n 1, 1) := zsh_g zdk_335 (r := 4) (k := 1) rfl rfl rfl
theorem zd_335_20 : decode prog_14_method_98_code 20 = .ok (.iadd, 1) := zsh_g zdk_335 (r := 5) (k := 0) rfl rfl rfl
theorem zd_335_21 : decode prog_14_method_98_code 21 = .ok (.baload, 1) := zsh_g zdk_335 (r := 5) (k := 1) rfl rfl rfl
theorem zd_335_22 : decode prog_14_method_98_code 22 = .ok (.goto 9, 3) := zsh_g zdk_335 (r := 5) (k := 2) rfl rfl rfl
theorem zd_335_25 : decode prog_14_method_98_code 25 = .ok (.aload_n 0, 1) := zsh_g zdk_335 (r := 6) (k := 0) rfl rfl rfl
theorem zd_335_26 : decode prog_14_method_98_code 26 = .ok (.getfield 7, 3) := zsh_g zdk_335 (r := 6) (k := 1) rfl rfl rfl
theorem zd_335_29 : decode prog_14_method_98_code 29 = .ok (.iload_n 1, 1) := zsh_g zdk_335 (r := 7) (k := 0) rfl rfl rfl
theorem zd_335_30 : decode prog_14_method_98_code 30 = .ok (.iaload, 1) := zsh_g zdk_335 (r := 7) (k := 1) rfl rfl rfl
def zdl_336 : List (List (Nat × Instr × Nat)) := [[(0, (.aload_n 0), 1), (1, (.getfield 1444), 3)], [(0, (.aload_n 0), 1), (1, (.getfield 322), 3)], [(0, (.iload_n 1), 1), (1, .iaload, 1), (2, (.if_icmp .eq 20), 3)], [(1, (.aload_n 0), 1), (2, (.iconst 5), 1), (3, (.aload_n 0), 1)], [(0, (.getfield 359), 3), (3, (.aload_n 0), 1)], [(0, (.getfield 1444), 3), (3, (.iconst 1), 1)], [(0, .isub, 1), (1, .iaload, 1), (2, (.invokevirtual 1180), 3)], [(2, (.aload_n 0), 1), (3, (.getfield 310), 3)], [(2, (.iload_n 1), 1), (3, .dup2, 1)], [(0, .iaload, 1), (1, (.iconst 1), 1), (2, .isub, 1), (3, .iastore, 1)], [(0, (.aload_n 0), 1), (1, (.getfield 307), 3)], [(0, (.iload_n 1), 1), (1, (.aload_n 0), 1), (2, (.getfield 301), 3)], [(1, (.iload_n 1), 1), (2, .iaload, 1), (3, .iastore, 1)], [(0, (.aload_n 0), 1), (1, (.getfield 310), 3)], [(0, (.iload_n 1), 1), (1, .iaload, 1), (2, (.ifCond .gt 34), 3)], [(1, (.aload_n 0), 1), (2, .dup, 1), (3, (.getfield 1447), 3)], [(2, (.iconst 1), 1), (3, .isub, 1)], [(0, (.putfield 1447), 3), (3, (.aload_n 0), 1)], [(0, (.aload_n 0), 1), (1, (.getfield 1447), 3)], [(0, (.ifCond .le 12), 3), (3, (.aload_n 0), 1)], [(0, (.getfield 446), 3), (3, (.iload_n 1), 1)], [(0, .iaload, 1), (1, (.goto 4), 3)], [(0, (.iconst 0), 1), (1, (.putfield 1468), 3)]]
theorem zdk_336 : zsh_all 8 zdl_336 prog_14_method_169_code.data.toList = true := by decide +kernel
theorem zd_336_0 : decode prog_14_method_169_code 0 = .ok (.aload_n 0, 1) := zsh_g zdk_336 (r := 0) (k := 0) rfl rfl rfl
theorem zd_336_1 : decode prog_14_method_169_code 1 = .ok (.getfield 1444, 3) := zsh_g zdk_336 (r := 0) (k := 1) rfl rfl rfl
theorem zd_336_4 : decode prog_14_method_169_code 4 = .ok (.aload_n 0, 1) := zsh_g zdk_336 (r := 1) (k := 0) rfl rfl rfl
theorem zd_336_5 : decode prog_14_method_169_code 5 = .ok (.getfield 322, 3) := zsh_g zdk_336 (r := 1) (k := 1) rfl rfl rfl
theorem zd_336_8 : decode prog_14_method_169_code 8 = .ok (.iload_n 1, 1) := zsh_g zdk_336 (r := 2) (k := 0) rfl rfl rfl
theorem zd_336_9 : decode prog_14_method_169_code 9 = .ok (.iaload, 1) := zsh_g zdk_336 (r := 2) (k := 1) rfl rfl rfl
theorem zd_336_10 : decode prog_14_method_169_code 10 = .ok (.if_icmp .eq 20, 3) := zsh_g zdk_336 (r := 2) (k := 2) rfl rfl rfl
theorem zd_336_13 : decode prog_14_method_169_code 13 = .ok (.aload_n 0, 1) := zsh_g zdk_336 (r := 3) (k := 0) rfl rfl rfl
theorem zd_336_14 : decode prog_14_method_169_code 14 = .ok (.iconst 5, 1) := zsh_g zdk_336 (r := 3) (k := 1) rfl rfl rfl
theorem zd_336_15 : decode prog_14_method_169_code 15 = .ok (.aload_n 0, 1) := zsh_g zdk_336 (r := 3) (k := 2) rfl rfl rfl
theorem zd_336_16 : decode prog_14_method_169_code 16 = .ok (.getfield 359, 3) := zsh_g zdk_336 (r := 4) (k := 0) rfl rfl rfl
theorem zd_336_19 : decode prog_14_method_169_code 19 = .ok (.aload_n 0, 1) := zsh_g zdk_336 (r := 4) (k := 1) rfl rfl rfl
theorem zd_336_20 : decode prog_14_method_169_code 20 = .ok (.getfield 1444, 3) := zsh_g zdk_336 (r := 5) (k := 0) rfl rfl rfl
theorem zd_336_23 : decode prog_14_method_169_code 23 = .ok (.iconst 1, 1) := zsh_g zdk_336 (r := 5) (k := 1) rfl rfl rfl
theorem zd_336_24 : decode prog_14_method_169_code 24 = .ok (.isub, 1) := zsh_g zdk_336 (r := 6) (k := 0) rfl rfl rfl
theorem zd_336_25 : decode prog_14_method_169_code 25 = .ok (.iaload, 1) := zsh_g zdk_336 (r := 6) (k := 1) rfl rfl rfl
theorem zd_336_26 : decode prog_14_method_169_code 26 = .ok (.invokevirtual 1180, 3) := zsh_g zdk_336 (r := 6) (k := 2) rfl rfl rfl
theorem zd_336_30 : decode prog_14_method_169_code 30 = .ok (.aload_n 0, 1) := zsh_g zdk_336 (r := 7) (k := 0) rfl rfl rfl
theorem zd_336_31 : decode prog_14_method_169_code 31 = .ok (.getfield 310, 3) := zsh_g zdk_336 (r := 7) (k := 1) rfl rfl rfl
theorem zd_336_34 : decode prog_14_method_169_code 34 = .ok (.iload_n 1, 1) := zsh_g zdk_336 (r := 8) (k := 0) rfl rfl rfl
theorem zd_336_35 : decode prog_14_method_169_code 35 = .ok (.dup2, 1) := zsh_g zdk_336 (r := 8) (k := 1) rfl rfl rfl
theorem zd_336_36 : decode prog_14_method_169_code 36 = .ok (.iaload, 1) := zsh_g zdk_336 (r := 9) (k := 0) rfl rfl rfl
theorem zd_336_37 : decode prog_14_method_169_code 37 = .ok (.iconst 1, 1) := zsh_g zdk_336 (r := 9) (k := 1) rfl rfl rfl
theorem zd_336_38 : decode prog_14_method_169_code 38 = .ok (.isub, 1) := zsh_g zdk_336 (r := 9) (k := 2) rfl rfl rfl
theorem zd_336_39 : decode prog_14_method_169_code 39 = .ok (.iastore, 1) := zsh_g zdk_336 (r := 9) (k := 3) rfl rfl rfl
theorem zd_336_40 : decode prog_14_method_169_code 40 = .ok (.aload_n 0, 1) := zsh_g zdk_336 (r := 10) (k := 0) rfl rfl rfl
theorem zd_336_41 : decode prog_14_method_169_code 41 = .ok (.getfield 307, 3) := zsh_g zdk_336 (r := 10) (k := 1) rfl rfl rfl
theorem zd_336_44 : decode prog_14_method_169_code 44 = .ok (.iload_n 1, 1) := zsh_g zdk_336 (r := 11) (k := 0) rfl rfl rfl
theorem zd_336_45 : decode prog_14_method_169_code 45 = .ok (.aload_n 0, 1) := zsh_g zdk_336 (r := 11) (k := 1) rfl rfl rfl
theorem zd_336_46 : decode prog_14_method_169_code 46 = .ok (.getfield 301, 3) := zsh_g zdk_336 (r := 11) (k := 2) rfl rfl rfl
theorem zd_336_49 : decode prog_14_method_169_code 49 = .ok (.iload_n 1, 1) := zsh_g zdk_336 (r := 12) (k := 0) rfl rfl rfl
theorem zd_336_50 : decode prog_14_method_169_code 50 = .ok (.iaload, 1) := zsh_g zdk_336 (r := 12) (k := 1) rfl rfl rfl
theorem zd_336_51 : decode prog_14_method_169_code 51 = .ok (.iastore, 1) := zsh_g zdk_336 (r := 12) (k := 2) rfl rfl rfl
theorem zd_336_52 : decode prog_14_method_169_code 52 = .ok (.aload_n 0, 1) := zsh_g zdk_336 (r := 13) (k := 0) rfl rfl rfl
theorem zd_336_53 : decode prog_14_method_169_code 53 = .ok (.getfield 310, 3) := zsh_g zdk_336 (r := 13) (k := 1) rfl rfl rfl
theorem zd_336_56 : decode prog_14_method_169_code 56 = .ok (.iload_n 1, 1) := zsh_g zdk_336 (r := 14) (k := 0) rfl rfl rfl
theorem zd_336_57 : decode prog_14_method_169_code 57 = .ok (.iaload, 1) := zsh_g zdk_336 (r := 14) (k := 1) rfl rfl rfl
theorem zd_336_58 : decode prog_14_method_169_code 58 = .ok (.ifCond .gt 34, 3) := zsh_g zdk_336 (r := 14) (k := 2) rfl rfl rfl
theorem zd_336_61 : decode prog_14_method_169_code 61 = .ok (.aload_n 0, 1) := zsh_g zdk_336 (r := 15) (k := 0) rfl rfl rfl
theorem zd_336_62 : decode prog_14_method_169_code 62 = .ok (.dup, 1) := zsh_g zdk_336 (r := 15) (k := 1) rfl rfl rfl
theorem zd_336_63 : decode prog_14_method_169_code 63 = .ok (.getfield 1447, 3) := zsh_g zdk_336 (r := 15) (k := 2) rfl rfl rfl
theorem zd_336_66 : decode prog_14_method_169_code 66 = .ok (.iconst 1, 1) := zsh_g zdk_336 (r := 16) (k := 0) rfl rfl rfl
theorem zd_336_67 : decode prog_14_method_169_code 67 = .ok (.isub, 1) := zsh_g zdk_336 (r := 16) (k := 1) rfl rfl rfl
theorem zd_336_68 : decode prog_14_method_169_code 68 = .ok (.putfield 1447, 3) := zsh_g zdk_336 (r := 17) (k := 0) rfl rfl rfl
theorem zd_336_71 : decode prog_14_method_169_code 71 = .ok (.aload_n 0, 1) := zsh_g zdk_336 (r := 17) (k := 1) rfl rfl rfl
theorem zd_336_72 : decode prog_14_method_169_code 72 = .ok (.aload_n 0, 1) := zsh_g zdk_336 (r := 18) (k := 0) rfl rfl rfl
theorem zd_336_73 : decode prog_14_method_169_code 73 = .ok (.getfield 1447, 3) := zsh_g zdk_336 (r := 18) (k := 1) rfl rfl rfl
theorem zd_336_76 : decode prog_14_method_169_code 76 = .ok (.ifCond .le 12, 3) := zsh_g zdk_336 (r := 19) (k := 0) rfl rfl rfl
theorem zd_336_79 : decode prog_14_method_169_code 79 = .ok (.aload_n 0, 1) := zsh_g zdk_336 (r := 19) (k := 1) rfl rfl rfl
theorem zd_336_80 : decode prog_14_method_169_code 80 = .ok (.getfield 446, 3) := zsh_g zdk_336 (r := 20) (k := 0) rfl rfl rfl
theorem zd_336_83 : decode prog_14_method_169_code 83 = .ok (.iload_n 1, 1) := zsh_g zdk_336 (r := 20) (k := 1) rfl rfl rfl
theorem zd_336_84 : decode prog_14_method_169_code 84 = .ok (.iaload, 1) := zsh_g zdk_336 (r := 21) (k := 0) rfl rfl rfl
theorem zd_336_85 : decode prog_14_method_169_code 85 = .ok (.goto 4, 3) := zsh_g zdk_336 (r := 21) (k := 1) rfl rfl rfl
theorem zd_336_88 : decode prog_14_method_169_code 88 = .ok (.iconst 0, 1) := zsh_g zdk_336 (r := 22) (k := 0) rfl rfl rfl
theorem zd_336_89 : decode prog_14_method_169_code 89 = .ok (.putfield 1468, 3) := zsh_g zdk_336 (r := 22) (k := 1) rfl rfl rfl
def zdl_337 : List (List (Nat × Instr × Nat)) := [[(0, (.aload_n 0), 1), (1, .dup, 1), (2, (.getfield 1453), 3)], [(1, (.iconst 1), 1), (2, .iadd, 1), (3, (.putfield 1453), 3)], [(2, (.aload_n 0), 1), (3, (.getfield 1453), 3)], [(2, (.sipush 4000), 3)], [(1, (.if_icmp .le 25), 3)], [(0, (.aload_n 0), 1), (1, (.bipush 6), 2), (3, (.aload_n 0), 1)], [(0, (.getfield 1447), 3), (3, (.iconst 1), 1)], [(0, (.if_icmp .ne 7), 3), (3, (.iload_n 1), 1)], [(0, (.goto 7), 3), (3, (.aload_n 0), 1)], [(0, (.getfield 1177), 3), (3, (.invokevirtual 1180), 3)]]
theorem zdk_337 : zsh_all 8 zdl_337 prog_14_method_164_code.data.toList = true := by decide +kernel
theorem zd_337_0 : decode prog_14_method_164_code 0 = .ok (.aload_n 0, 1) := zsh_g zdk_337 (r := 0) (k := 0) rfl rfl rfl
theorem zd_337_1 : decode prog_14_method_164_code 1 = .ok (.dup, 1) := zsh_g zdk_337 (r := 0) (k := 1) rfl rfl rfl
theorem zd_337_2 : decode prog_14_method_164_code 2 = .ok (.getfield 1453, 3) := zsh_g zdk_337 (r := 0) (k := 2) rfl rfl rfl
theorem zd_337_5 : decode prog_14_method_164_code 5 = .ok (.iconst 1, 1) := zsh_g zdk_337 (r := 1) (k := 0) rfl rfl rfl
theorem zd_337_6 : decode prog_14_method_164_code 6 = .ok (.iadd, 1) := zsh_g zdk_337 (r := 1) (k := 1) rfl rfl rfl
theorem zd_337_7 : decode prog_14_method_164_code 7 = .ok (.putfield 1453, 3) := zsh_g zdk_337 (r := 1) (k := 2) rfl rfl rfl
theorem zd_337_10 : decode prog_14_method_164_code 10 = .ok (.aload_n 0, 1) := zsh_g zdk_337 (r := 2) (k := 0) rfl rfl rfl
theorem zd_337_11 : decode prog_14_method_164_code 11 = .ok (.getfield 1453, 3) := zsh_g zdk_337 (r := 2) (k := 1) rfl rfl rfl
theorem zd_337_14 : decode prog_14_method_164_code 14 = .ok (.sipush 4000, 3) := zsh_g zdk_337 (r := 3) (k := 0) rfl rfl rfl
theorem zd_337_17 : decode prog_14_method_164_code 17 = .ok (.if_icmp .le 25, 3) := zsh_g zdk_337 (r := 4) (k := 0) rfl rfl rfl
theorem zd_337_20 : decode prog_14_method_164_code 20 = .ok (.aload_n 0, 1) := zsh_g zdk_337 (r := 5) (k := 0) rfl rfl rfl
theorem zd_337_21 : decode prog_14_method_164_code 21 = .ok (.bipush 6, 2) := zsh_g zdk_337 (r := 5) (k := 1) rfl rfl rfl
theorem zd_337_23 : decode prog_14_method_164_code 23 = .ok (.aload_n 0, 1) := zsh_g zdk_337 (r := 5) (k := 2) rfl rfl rfl
theorem zd_337_24 : decode prog_14_method_164_code 24 = .ok (.getfield 1447, 3) := zsh_g zdk_337 (r := 6) (k := 0) rfl rfl rfl
theorem zd_337_27 : decode prog_14_method_164_code 27 = .ok (.iconst 1, 1) := zsh_g zdk_337 (r := 6) (k := 1) rfl rfl rfl
theorem zd_337_28 : decode prog_14_method_164_code 28 = .ok (.if_icmp .ne 7, 3) := zsh_g zdk_337 (r := 7) (k := 0) rfl rfl rfl
theorem zd_337_31 : decode prog_14_method_164_code 31 = .ok (.iload_n 1, 1) := zsh_g zdk_337 (r := 7) (k := 1) rfl rfl rfl
theorem zd_337_32 : decode prog_14_method_164_code 32 = .ok (.goto 7, 3) := zsh_g zdk_337 (r := 8) (k := 0) rfl rfl rfl
theorem zd_337_35 : decode prog_14_method_164_code 35 = .ok (.aload_n 0, 1) := zsh_g zdk_337 (r := 8) (k := 1) rfl rfl rfl
theorem zd_337_36 : decode prog_14_method_164_code 36 = .ok (.getfield 1177, 3) := zsh_g zdk_337 (r := 9) (k := 0) rfl rfl rfl
theorem zd_337_39 : decode prog_14_method_164_code 39 = .ok (.invokevirtual 1180, 3) := zsh_g zdk_337 (r := 9) (k := 1) rfl rfl rfl
def zdl_338 : List (List (Nat × Instr × Nat)) := [[(0, (.aload_n 0), 1), (1, (.getfield 292), 3)], [(0, (.iload_n 1), 1), (1, .iaload, 1), (2, (.istore_n 2), 1), (3, (.iload_n 2), 1)], [(0, (.aload_n 0), 1), (1, (.getfield 295), 3)], [(0, (.iload_n 1), 1), (1, .iaload, 1), (2, (.if_icmp .ge 19), 3)], [(1, (.aload_n 0), 1), (2, (.iload_n 2), 1), (3, (.invokevirtual 1195), 3)], [(2, (.bipush 32), 2)], [(0, (.if_icmp .ne 9), 3), (3, (.iinc 2 1), 3)], [(2, (.goto (-23)), 3)], [(1, (.iload_n 2), 1), (2, (.istore_n 3), 1), (3, (.lconst 0), 1)], [(0, (.lstore 4), 2), (2, (.lconst 0), 1), (3, (.lstore 6), 2)], [(1, (.iload_n 2), 1), (2, (.aload_n 0), 1), (3, (.getfield 295), 3)], [(2, (.iload_n 1), 1), (3, .iaload, 1)], [(0, (.if_icmp .ge 112), 3), (3, (.iload_n 2), 1)], [(0, (.iload_n 3), 1), (1, (.if_icmp .ne 17), 3)], [(0, (.aload_n 0), 1), (1, (.iload_n 2), 1), (2, (.invokevirtual 1195), 3)], [(1, (.invokestatic 1198), 3)], [(0, (.ifCond .eq 96), 3), (3, (.goto 14), 3)], [(2, (.aload_n 0), 1), (3, (.iload_n 2), 1)], [(0, (.invokevirtual 1195), 3), (3, (.invokestatic 1201), 3)], [(2, (.ifCond .eq 82), 3)], [(1, (.iload_n 2), 1), (2, (.iload_n 3), 1), (3, .isub, 1)], [(0, (.istore 8), 2), (2, (.iload 8), 2)], [(0, (.bipush 8), 2), (2, (.if_icmp .ge 21), 3)], [(1, (.lload 4), 2), (3, (.aload_n 0), 1)], [(0, (.iload_n 2), 1), (1, (.invokevirtual 1195), 3)], [(0, .i2l, 1), (1, (.bipush 8), 2), (3, (.iload 8), 2)], [(1, .imul, 1), (2, .lshl, 1), (3, .lor, 1)], [(0, (.goto 5), 3), (3, (.lload 4), 2)], [(1, (.lstore 4), 2), (3, (.iload 8), 2)], [(1, (.bipush 8), 2), (3, (.if_icmp .lt 31), 3)], [(2, (.iload 8), 2)], [(0, (.bipush 16), 2), (2, (.if_icmp .ge 24), 3)], [(1, (.lload 6), 2), (3, (.aload_n 0), 1)], [(0, (.iload_n 2), 1), (1, (.invokevirtual 1195), 3)], [(0, .i2l, 1), (1, (.bipush 8), 2), (3, (.iload 8), 2)], [(1, (.bipush 8), 2), (3, .isub, 1)], [(0, .imul, 1), (1, .lshl, 1), (2, .lor, 1), (3, (.goto 5), 3)], [(2, (.lload 6), 2)], [(0, (.lstore 6), 2), (2, (.iinc 2 1), 3)], [(1, (.goto (-116)), 3)], [(0, (.iload_n 2), 1), (1, (.iload_n 3), 1), (2, (.if_icmp .eq 11), 3)], [(1, (.iload_n 2), 1), (2, (.iload_n 3), 1), (3, .isub, 1)], [(0, (.bipush 16), 2), (2, (.if_icmp .le 5), 3)], [(1, (.iconst (-1)), 1), (3, (.aload_n 0), 1)], [(0, (.lload 4), 2), (2, (.lload 6), 2)], [(0, (.invokevirtual 536), 3), (3, (.bipush 8), 2)], [(1, .isub, 1), (2, (.istore 8), 2)], [(0, (.iload 8), 2), (2, (.iconst 0), 1), (3, (.bipush 84), 2)], [(1, (.invokestatic 504), 3)], [(0, (.ifCond .eq 8), 3), (3, (.iload 8), 2)], [(1, (.goto 4), 3)], [(0, (.iconst (-1)), 1)]]
theorem zdk_338 : zsh_all 8 zdl_338 prog_14_method_104_code.data.toList = true := by decide +kernel
theorem zd_338_0 : decode prog_14_method_104_code 0 = .ok (.aload_n 0, 1) := zsh_g zdk_338 (r := 0) (k := 0) rfl rfl rfl
theorem zd_338_1 : decode prog_14_method_104_code 1 = .ok (.getfield 292, 3) := zsh_g zdk_338 (r := 0) (k := 1) rfl rfl rfl
theorem zd_338_4 : decode prog_14_method_104_code 4 = .ok (.iload_n 1, 1) := zsh_g zdk_338 (r := 1) (k := 0) rfl rfl rfl
theorem zd_338_5 : decode prog_14_method_104_code 5 = .ok (.iaload, 1) := zsh_g zdk_338 (r := 1) (k := 1) rfl rfl rfl
theorem zd_338_6 : decode prog_14_method_104_code 6 = .ok (.istore_n 2, 1) := zsh_g zdk_338 (r := 1) (k := 2) rfl rfl rfl
theorem zd_338_7 : decode prog_14_method_104_code 7 = .ok (.iload_n 2, 1) := zsh_g zdk_338 (r := 1) (k := 3) rfl rfl rfl
theorem zd_338_8 : decode prog_14_method_104_code 8 = .ok (.aload_n 0, 1) := zsh_g zdk_338 (r := 2) (k := 0) rfl rfl rfl
theorem zd_338_9 : decode prog_14_method_104_code 9 = .ok (.getfield 295, 3) := zsh_g zdk_338 (r := 2) (k := 1) rfl rfl rfl
theorem zd_338_12 : decode prog_14_method_104_code 12 = .ok (.iload_n 1, 1) := zsh_g zdk_338 (r := 3) (k := 0) rfl rfl rfl
theorem zd_338_13 : decode prog_14_method_104_code 13 = .ok (.iaload, 1) := zsh_g zdk_338 (r := 3) (k := 1) rfl rfl rfl
theorem zd_338_14 : decode prog_14_method_104_code 14 = .ok (.if_icmp .ge 19, 3) := zsh_g zdk_338 (r := 3) (k := 2) rfl rfl rfl
theorem zd_338_17 : decode prog_14_method_104_code 17 = .ok (.aload_n 0, 1) := zsh_g zdk_338 (r := 4) (k := 0) rfl rfl rfl
theorem zd_338_18 : decode prog_14_method_104_code 18 = .ok (.iload_n 2, 1) := zsh_g zdk_338 (r := 4) (k := 1) rfl rfl rfl
theorem zd_338_19 : decode prog_14_method_104_code 19 = .ok (.invokevirtual 1195, 3) := zsh_g zdk_338 (r := 4) (k := 2) rfl rfl rfl
theorem zd_338_22 : decode prog_14_method_104_code 22 = .ok (.bipush 32, 2) := zsh_g zdk_338 (r := 5) (k := 0) rfl rfl rfl
theorem zd_338_24 : decode prog_14_method_104_code 24 = .ok (.if_icmp .ne 9, 3) := zsh_g zdk_338 (r := 6) (k := 0) rfl rfl rfl
theorem zd_338_27 : decode prog_14_method_104_code 27 = .ok (.iinc 2 1, 3) := zsh_g zdk_338 (r := 6) (k := 1) rfl rfl rfl
theorem zd_338_30 : decode prog_14_method_104_code 30 = .ok (.goto (-23), 3) := zsh_g zdk_338 (r := 7) (k := 0) rfl rfl rfl
theorem zd_338_33 : decode prog_14_method_104_code 33 = .ok (.iload_n 2, 1) := zsh_g zdk_338 (r := 8) (k := 0) rfl rfl rfl
theorem zd_338_34 : decode prog_14_method_104_code 34 = .ok (.istore_n 3, 1) := zsh_g zdk_338 (r := 8) (k := 1) rfl rfl rfl
theorem zd_338_35 : decode prog_14_method_104_code 35 = .ok (.lconst 0, 1) := zsh_g zdk_338 (r := 8) (k := 2) rfl rfl rfl
theorem zd_338_36 : decode prog_14_method_104_code 36 = .ok (.lstore 4, 2) := zsh_g zdk_338 (r := 9) (k := 0) rfl rfl rfl
theorem zd_338_38 : decode prog_14_method_104_code 38 = .ok (.lconst 0, 1) := zsh_g zdk_338 (r := 9) (k := 1) rfl rfl rfl
theorem zd_338_39 : decode prog_14_method_104_code 39 = .ok (.lstore 6, 2) := zsh_g zdk_338 (r := 9) (k := 2) rfl rfl rfl
theorem zd_338_41 : decode prog_14_method_104_code 41 = .ok (.iload_n 2, 1) := zsh_g zdk_338 (r := 10) (k := 0) rfl rfl rfl
theorem zd_338_42 : decode prog_14_method_104_code 42 = .ok (.aload_n 0, 1) := zsh_g zdk_338 (r := 10) (k := 1) rfl rfl rfl
theorem zd_338_43 : decode prog_14_method_104_code 43 = .ok (.getfield 295, 3) := zsh_g zdk_338 (r := 10) (k := 2) rfl rfl rfl
theorem zd_338_46 : decode prog_14_method_104_code 46 = .ok (.iload_n 1, 1) := zsh_g zdk_338 (r := 11) (k := 0) rfl rfl rfl
theorem zd_338_47 : decode prog_14_method_104_code 47 = .ok (.iaload, 1) := zsh_g zdk_338 (r := 11) (k := 1) rfl rfl rfl
theorem zd_338_48 : decode prog_14_method_104_code 48 = .ok (.if_icmp .ge 112, 3) := zsh_g zdk_338 (r := 12) (k := 0) rfl rfl rfl
theorem zd_338_51 : decode prog_14_method_104_code 51 = .ok (.iload_n 2, 1) := zsh_g zdk_338 (r := 12) (k := 1) rfl rfl rfl
theorem zd_338_52 : decode prog_14_method_104_code 52 = .ok (.iload_n 3, 1) := zsh_g zdk_338 (r := 13) (k := 0) rfl rfl rfl
theorem zd_338_53 : decode prog_14_method_104_code 53 = .ok (.if_icmp .ne 17, 3) := zsh_g zdk_338 (r := 13) (k := 1) rfl rfl rfl
theorem zd_338_56 : decode prog_14_method_104_code 56 = .ok (.aload_n 0, 1) := zsh_g zdk_338 (r := 14) (k := 0) rfl rfl rfl
theorem zd_338_57 : decode prog_14_method_104_code 57 = .ok (.iload_n 2, 1) := zsh_g zdk_338 (r := 14) (k := 1) rfl rfl rfl
theorem zd_338_58 : decode prog_14_method_104_code 58 = .ok (.invokevirtual 1195, 3) := zsh_g zdk_338 (r := 14) (k := 2) rfl rfl rfl
theorem zd_338_61 : decode prog_14_method_104_code 61 = .ok (.invokestatic 1198, 3) := zsh_g zdk_338 (r := 15) (k := 0) rfl rfl rfl
theorem zd_338_64 : decode prog_14_method_104_code 64 = .ok (.ifCond .eq 96, 3) := zsh_g zdk_338 (r := 16) (k := 0) rfl rfl rfl
theorem zd_338_67 : decode prog_14_method_104_code 67 = .ok (.goto 14, 3) := zsh_g zdk_338 (r := 16) (k := 1) rfl rfl rfl
theorem zd_338_70 : decode prog_14_method_104_code 70 = .ok (.aload_n 0, 1) := zsh_g zdk_338 (r := 17) (k := 0) rfl rfl rfl
theorem zd_338_71 : decode prog_14_method_104_code 71 = .ok (.iload_n 2, 1) := zsh_g zdk_338 (r := 17) (k := 1) rfl rfl rfl
theorem zd_338_72 : decode prog_14_method_104_code 72 = .ok (.invokevirtual 1195, 3) := zsh_g zdk_338 (r := 18) (k := 0) rfl rfl rfl
theorem zd_338_75 : decode prog_14_method_104_code 75 = .ok (.invokestatic 1201, 3) := zsh_g zdk_338 (r := 18) (k := 1) rfl rfl rfl
theorem zd_338_78 : decode prog_14_method_104_code 78 = .ok (.ifCond .eq 82, 3) := zsh_g zdk_338 (r := 19) (k := 0) rfl rfl rfl
theorem zd_338_81 : decode prog_14_method_104_code 81 = .ok (.iload_n 2, 1) := zsh_g zdk_338 (r := 20) (k := 0) rfl rfl rfl
theorem zd_338_82 : decode prog_14_method_104_code 82 = .ok (.iload_n 3, 1) := zsh_g zdk_338 (r := 20) (k := 1) rfl rfl rfl
theorem zd_338_83 : decode prog_14_method_104_code 83 = .ok (.isub, 1) := zsh_g zdk_338 (r := 20) (k := 2) rfl rfl rfl
theorem zd_338_84 : decode prog_14_method_104_code 84 = .ok (.istore 8, 2) := zsh_g zdk_338 (r := 21) (k := 0) rfl rfl rfl
theorem zd_338_86 : decode prog_14_method_104_code 86 = .ok (.iload 8, 2) := zsh_g zdk_338 (r := 21) (k := 1) rfl rfl rfl
theorem zd_338_88 : decode prog_14_method_104_code 88 = .ok (.bipush 8, 2) := zsh_g zdk_338 (r := 22) (k := 0) rfl rfl rfl
theorem zd_338_90 : decode prog_14_method_104_code 90 = .ok (.if_icmp .ge 21, 3) := zsh_g zdk_338 (r := 22) (k := 1) rfl rfl rfl
theorem zd_338_93 : decode prog_14_method_104_code 93 = .ok (.lload 4, 2) := zsh_g zdk_338 (r := 23) (k := 0) rfl rfl rfl
theorem zd_338_95 : decode prog_14_method_104_code 95 = .ok (.aload_n 0, 1) := zsh_g zdk_338 (r := 23) (k := 1) rfl rfl rfl
theorem zd_338_96 : decode prog_14_method_104_code 96 = .ok (.iload_n 2, 1) := zsh_g zdk_338 (r := 24) (k := 0) rfl rfl rfl
theorem zd_338_97 : decode prog_14_method_104_code 97 = .ok (.invokevirtual 1195, 3) := zsh_g zdk_338 (r := 24) (k := 1) rfl rfl rfl
theorem zd_338_100 : decode prog_14_method_104_code 100 = .ok (.i2l, 1) := zsh_g zdk_338 (r := 25) (k := 0) rfl rfl rfl
theorem zd_338_101 : decode prog_14_method_104_code 101 = .ok (.bipush 8, 2) := zsh_g zdk_338 (r := 25) (k := 1) rfl rfl rfl
theorem zd_338_103 : decode prog_14_method_104_code 103 = .ok (.iload 8, 2) := zsh_g zdk_338 (r := 25) (k := 2) rfl rfl rfl
theorem zd_338_105 : decode prog_14_method_104_code 105 = .ok (.imul, 1) := zsh_g zdk_338 (r := 26) (k := 0) rfl rfl rfl
theorem zd_338_106 : decode prog_14_method_104_code 106 = .ok (.lshl, 1) := zsh_g zdk_338 (r := 26) (k := 1) rfl rfl rfl
theorem zd_338_107 : decode prog_14_method_104_code 107 = .ok (.lor, 1) := zsh_g zdk_338 (r := 26) (k := 2) rfl rfl rfl
theorem zd_338_108 : decode prog_14_method_104_code 108 = .ok (.goto 5, 3) := zsh_g zdk_338 (r := 27) (k := 0) rfl rfl rfl
theorem zd_338_111 : decode prog_14_method_104_code 111 = .ok (.lload 4, 2) := zsh_g zdk_338 (r := 27) (k := 1) rfl rfl rfl
theorem zd_338_113 : decode prog_14_method_104_code 113 = .ok (.lstore 4, 2) := zsh_g zdk_338 (r := 28) (k := 0) rfl rfl rfl
theorem zd_338_115 : decode prog_14_method_104_code 115 = .ok (.iload 8, 2) := zsh_g zdk_338 (r := 28) (k := 1) rfl rfl rfl
theorem zd_338_117 : decode prog_14_method_104_code 117 = .ok (.bipush 8, 2) := zsh_g zdk_338 (r := 29) (k := 0) rfl rfl rfl
theorem zd_338_119 : decode prog_14_method_104_code 119 = .ok (.if_icmp .lt 31, 3) := zsh_g zdk_338 (r := 29) (k := 1) rfl rfl rfl
theorem zd_338_122 : decode prog_14_method_104_code 122 = .ok (.iload 8, 2) := zsh_g zdk_338 (r := 30) (k := 0) rfl rfl rfl
theorem zd_338_124 : decode prog_14_method_104_code 124 = .ok (.bipush 16, 2) := zsh_g zdk_338 (r := 31) (k := 0) rfl rfl rfl
theorem zd_338_126 : decode prog_14_method_104_code 126 = .ok (.if_icmp .ge 24, 3) := zsh_g zdk_338 (r := 31) (k := 1) rfl rfl rfl
theorem zd_338_129 : decode prog_14_method_104_code 129 = .ok (.lload 6, 2) := zsh_g zdk_338 (r := 32) (k := 0) rfl rfl rfl
theorem zd_338_131 : decode prog_14_method_104_code 131 = .ok (.aload_n 0, 1) := zsh_g zdk_338 (r := 32) (k := 1) rfl rfl rfl
theorem zd_338_132 : decode prog_14_method_104_code 132 = .ok (.iload_n 2, 1) := zsh_g zdk_338 (r := 33) (k := 0) rfl rfl rfl
theorem zd_338_133 : decode prog_14_method_104_code 133 = .ok (.invokevirtual 1195, 3) := zsh_g zdk_338 (r := 33) (k := 1) rfl rfl rfl
theorem zd_338_136 : decode prog_14_method_104_code 136 = .ok (.i2l, 1) := zsh_g zdk_338 (r := 34) (k := 0) rfl rfl rfl
theorem zd_338_137 : decode prog_14_method_104_code 137 = .ok (.bipush 8, 2) := zsh_g zdk_338 (r := 34) (k := 1) rfl rfl rfl
theorem zd_338_139 : decode prog_14_method_104_code 139 = .ok (.iload 8, 2) := zsh_g zdk_338 (r := 34) (k := 2) rfl rfl rfl
theorem zd_338_141 : decode prog_14_method_104_code 141 = .ok (.bipush 8, 2) := zsh_g zdk_338 (r := 35) (k := 0) rfl rfl rfl
theorem zd_338_143 : decode prog_14_method_104_code 143 = .ok (.isub, 1) := zsh_g zdk_338 (r := 35) (k := 1) rfl rfl rfl
theorem zd_338_144 : decode prog_14_method_104_code 144 = .ok (.imul, 1) := zsh_g zdk_338 (r := 36) (k := 0) rfl rfl rfl
theorem zd_338_145 : decode prog_14_method_104_code 145 = .ok (.lshl, 1) := zsh_g zdk_338 (r := 36) (k := 1) rfl rfl rfl
theorem zd_338_146 : decode prog_14_method_104_code 146 = .ok (.lor, 1) := zsh_g zdk_338 (r := 36) (k := 2) rfl rfl rfl
theorem zd_338_147 : decode prog_14_method_104_code 147 = .ok (.goto 5, 3) := zsh_g zdk_338 (r := 36) (k := 3) rfl rfl rfl
theorem zd_338_150 : decode prog_14_method_104_code 150 = .ok (.lload 6, 2) := zsh_g zdk_338 (r := 37) (k := 0) rfl rfl rfl
theorem zd_338_152 : decode prog_14_method_104_code 152 = .ok (.lstore 6, 2) := zsh_g zdk_338 (r := 38) (k := 0) rfl rfl rfl
theorem zd_338_154 : decode prog_14_method_104_code 154 = .ok (.iinc 2 1, 3) := zsh_g zdk_338 (r := 38) (k := 1) rfl rfl rfl
theorem zd_338_157 : decode prog_14_method_104_code 157 = .ok (.goto (-116), 3) := zsh_g zdk_338 (r := 39) (k := 0) rfl rfl rfl
theorem zd_338_160 : decode prog_14_method_104_code 160 = .ok (.iload_n 2, 1) := zsh_g zdk_338 (r := 40) (k := 0) rfl rfl rfl
theorem zd_338_161 : decode prog_14_method_104_code 161 = .ok (.iload_n 3, 1) := zsh_g zdk_338 (r := 40) (k := 1) rfl rfl rfl
theorem zd_338_162 : decode prog_14_method_104_code 162 = .ok (.if_icmp .eq 11, 3) := zsh_g zdk_338 (r := 40) (k := 2) rfl rfl rfl
theorem zd_338_165 : decode prog_14_method_104_code 165 = .ok (.iload_n 2, 1) := zsh_g zdk_338 (r := 41) (k := 0) rfl rfl rfl
theorem zd_338_166 : decode prog_14_method_104_code 166 = .ok (.iload_n 3, 1) := zsh_g zdk_338 (r := 41) (k := 1) rfl rfl rfl
theorem zd_338_167 : decode prog_14_method_104_code 167 = .ok (.isub, 1) := zsh_g zdk_338 (r := 41) (k := 2) rfl rfl rfl
theorem zd_338_168 : decode prog_14_method_104_code 168 = .ok (.bipush 16, 2) := zsh_g zdk_338 (r := 42) (k := 0) rfl rfl rfl
theorem zd_338_170 : decode prog_14_method_104_code 170 = .ok (.if_icmp .le 5, 3) := zsh_g zdk_338 (r := 42) (k := 1) rfl rfl rfl
theorem zd_338_173 : decode prog_14_method_104_code 173 = .ok (.iconst (-1), 1) := zsh_g zdk_338 (r := 43) (k := 0) rfl rfl rfl
theorem zd_338_175 : decode prog_14_method_104_code 175 = .ok (.aload_n 0, 1) := zsh_g zdk_338 (r := 43) (k := 1) rfl rfl rfl
theorem zd_338_176 : decode prog_14_method_104_code 176 = .ok (.lload 4, 2) := zsh_g zdk_338 (r := 44) (k := 0) rfl rfl rfl
theorem zd_338_178 : decode prog_14_method_104_code 178 = .ok (.lload 6, 2) := zsh_g zdk_338 (r := 44) (k := 1) rfl rfl rfl
theorem zd_338_180 : decode prog_14_method_104_code 180 = .ok (.invokevirtual 536, 3) := zsh_g zdk_338 (r := 45) (k := 0) rfl rfl rfl
theorem zd_338_183 : decode prog_14_method_104_code 183 = .ok (.bipush 8, 2) := zsh_g zdk_338 (r := 45) (k := 1) rfl rfl rfl
theorem zd_338_185 : decode prog_14_method_104_code 185 = .ok (.isub, 1) := zsh_g zdk_338 (r := 46) (k := 0) rfl rfl rfl
theorem zd_338_186 : decode prog_14_method_104_code 186 = .ok (.istore 8, 2) := zsh_g zdk_338 (r := 46) (k := 1) rfl rfl rfl
theorem zd_338_188 : decode prog_14_method_104_code 188 = .ok (.iload 8, 2) := zsh_g zdk_338 (r := 47) (k := 0) rfl rfl rfl
theorem zd_338_190 : decode prog_14_method_104_code 190 = .ok (.iconst 0, 1) := zsh_g zdk_338 (r := 47) (k := 1) rfl rfl rfl
theorem zd_338_191 : decode prog_14_method_104_code 191 = .ok (.bipush 84, 2) := zsh_g zdk_338 (r := 47) (k := 2) rfl rfl rfl
theorem zd_338_193 : decode prog_14_method_104_code 193 = .ok (.invokestatic 504, 3) := zsh_g zdk_338 (r := 48) (k := 0) rfl rfl rfl
theorem zd_338_196 : decode prog_14_method_104_code 196 = .ok (.ifCond .eq 8, 3) := zsh_g zdk_338 (r := 49) (k := 0) rfl rfl rfl
theorem zd_338_199 : decode prog_14_method_104_code 199 = .ok (.iload 8, 2) := zsh_g zdk_338 (r := 49) (k := 1) rfl rfl rfl
theorem zd_338_201 : decode prog_14_method_104_code 201 = .ok (.goto 4, 3) := zsh_g zdk_338 (r := 50) (k := 0) rfl rfl rfl
theorem zd_338_204 : decode prog_14_method_104_code 204 = .ok (.iconst (-1), 1) := zsh_g zdk_338 (r := 51) (k := 0) rfl rfl rfl
def zdl_339 : List (List (Nat × Instr × Nat)) := [[(0, (.iload_n 1), 1), (1, (.bipush 77), 2), (3, (.if_icmp .eq 9), 3)], [(2, (.iload_n 1), 1), (3, (.bipush 78), 2)], [(1, (.if_icmp .ne 12), 3)], [(0, (.aload_n 0), 1), (1, (.iconst 0), 1), (2, (.iconst 1), 1), (3, (.invokevirtual 1428), 3)], [(2, (.goto 20), 3)], [(1, (.iload_n 1), 1), (2, (.bipush 79), 2)], [(0, (.if_icmp .eq 9), 3), (3, (.iload_n 1), 1)], [(0, (.bipush 80), 2), (2, (.if_icmp .ne 8), 3)], [(1, (.aload_n 0), 1), (2, (.iload_n 1), 1), (3, (.invokevirtual 1435), 3)]]
theorem zdk_339 : zsh_all 8 zdl_339 prog_14_method_170_code.data.toList = true := by decide +kernel
theorem zd_339_0 : decode prog_14_method_170_code 0 = .ok (.iload_n 1, 1) := zsh_g zdk_339 (r := 0) (k := 0) rfl rfl rfl
theorem zd_339_1 : decode prog_14_method_170_code 1 = .ok (.bipush 77, 2) := zsh_g zdk_339 (r := 0) (k := 1) rfl rfl rfl
theorem zd_339_3 : decode prog_14_method_170_code 3 = .ok (.if_icmp .eq 9, 3) := zsh_g zdk_339 (r := 0) (k := 2) rfl rfl rfl
theorem zd_339_6 : decode prog_14_method_170_code 6 = .ok (.iload_n 1, 1) := zsh_g zdk_339 (r := 1) (k := 0) rfl rfl rfl
theorem zd_339_7 : decode prog_14_method_170_code 7 = .ok (.bipush 78, 2) := zsh_g zdk_339 (r := 1) (k := 1) rfl rfl rfl
theorem zd_339_9 : decode prog_14_method_170_code 9 = .ok (.if_icmp .ne 12, 3) := zsh_g zdk_339 (r := 2) (k := 0) rfl rfl rfl
theorem zd_339_12 : decode prog_14_method_170_code 12 = .ok (.aload_n 0, 1) := zsh_g zdk_339 (r := 3) (k := 0) rfl rfl rfl
theorem zd_339_13 : decode prog_14_method_170_code 13 = .ok (.iconst 0, 1) := zsh_g zdk_339 (r := 3) (k := 1) rfl rfl rfl
theorem zd_339_14 : decode prog_14_method_170_code 14 = .ok (.iconst 1, 1) := zsh_g zdk_339 (r := 3) (k := 2) rfl rfl rfl
theorem zd_339_15 : decode prog_14_method_170_code 15 = .ok (.invokevirtual 1428, 3) := zsh_g zdk_339 (r := 3) (k := 3) rfl rfl rfl
theorem zd_339_18 : decode prog_14_method_170_code 18 = .ok (.goto 20, 3) := zsh_g zdk_339 (r := 4) (k := 0) rfl rfl rfl
theorem zd_339_21 : decode prog_14_method_170_code 21 = .ok (.iload_n 1, 1) := zsh_g zdk_339 (r := 5) (k := 0) rfl rfl rfl
theorem zd_339_22 : decode prog_14_method_170_code 22 = .ok (.bipush 79, 2) := zsh_g zdk_339 (r := 5) (k := 1) rfl rfl rfl
theorem zd_339_24 : decode prog_14_method_170_code 24 = .ok (.if_icmp .eq 9, 3) := zsh_g zdk_339 (r := 6) (k := 0) rfl rfl rfl
theorem zd_339_27 : decode prog_14_method_170_code 27 = .ok (.iload_n 1, 1) := zsh_g zdk_339 (r := 6) (k := 1) rfl rfl rfl
theorem zd_339_28 : decode prog_14_method_170_code 28 = .ok (.bipush 80, 2) := zsh_g zdk_339 (r := 7) (k := 0) rfl rfl rfl
theorem zd_339_30 : decode prog_14_method_170_code 30 = .ok (.if_icmp .ne 8, 3) := zsh_g zdk_339 (r := 7) (k := 1) rfl rfl rfl
theorem zd_339_33 : decode prog_14_method_170_code 33 = .ok (.aload_n 0, 1) := zsh_g zdk_339 (r := 8) (k := 0) rfl rfl rfl
theorem zd_339_34 : decode prog_14_method_170_code 34 = .ok (.iload_n 1, 1) := zsh_g zdk_339 (r := 8) (k := 1) rfl rfl rfl
theorem zd_339_35 : decode prog_14_method_170_code 35 = .ok (.invokevirtual 1435, 3) := zsh_g zdk_339 (r := 8) (k := 2) rfl rfl rfl
def zdl_340 : List (List (Nat × Instr × Nat)) := [[(0, (.aload_n 0), 1), (1, (.iconst 0), 1), (2, (.putfield 1204), 3)], [(1, (.aload_n 0), 1), (2, (.getfield 319), 3)], [(1, (.iload_n 2), 1), (2, .iaload, 1), (3, (.istore_n 3), 1)], [(0, (.aload_n 0), 1), (1, (.getfield 292), 3)], [(0, (.iload_n 1), 1), (1, .iaload, 1), (2, (.istore 4), 2)], [(0, (.iload 4), 2), (2, (.aload_n 0), 1), (3, (.getfield 295), 3)], [(2, (.iload_n 1), 1), (3, .iaload, 1)], [(0, (.if_icmp .ge 106), 3), (3, (.aload_n 0), 1)], [(0, (.getfield 1183), 3), (3, (.ifCond .ne 99), 3)], [(2, (.aload_n 0), 1), (3, (.iload 4), 2)], [(1, (.invokevirtual 1195), 3)], [(0, (.istore 5), 2), (2, (.iload 5), 2)], [(0, (.bipush 92), 2), (2, (.if_icmp .ne 7), 3)], [(1, (.iload_n 3), 1), (2, (.ifCond .ge 15), 3)], [(1, (.aload_n 0), 1), (2, (.iload 5), 2)], [(0, (.invokevirtual 1207), 3), (3, (.iinc 4 1), 3)], [(2, (.goto 65), 3)], [(1, (.iload 4), 2), (3, (.iconst 1), 1)], [(0, .iadd, 1), (1, (.aload_n 0), 1), (2, (.getfield 295), 3)], [(1, (.iload_n 1), 1), (2, .iaload, 1), (3, (.if_icmp .ge 35), 3)], [(2, (.aload_n 0), 1), (3, (.iload 4), 2)], [(1, (.iconst 1), 1), (2, .iadd, 1), (3, (.invokevirtual 1195), 3)], [(2, (.bipush 64), 2)], [(0, (.if_icmp .ne 22), 3), (3, (.aload_n 0), 1)], [(0, (.aload_n 0), 1), (1, (.getfield 316), 3)], [(0, (.iload_n 3), 1), (1, .iaload, 1), (2, (.invokevirtual 1210), 3)], [(1, (.iload 4), 2), (3, (.iconst 2), 1)], [(0, .iadd, 1), (1, (.istore 4), 2), (3, (.goto 20), 3)], [(2, (.aload_n 0), 1), (3, (.iload 4), 2)], [(1, (.iconst 1), 1), (2, .iadd, 1), (3, (.aload_n 0), 1)], [(0, (.getfield 295), 3), (3, (.iload_n 1), 1)], [(0, .iaload, 1), (1, (.iload_n 3), 1), (2, (.invokevirtual 1213), 3)], [(1, (.istore 4), 2), (3, (.goto (-111)), 3)], [(2, (.iload_n 3), 1), (3, (.ifCond .lt 19), 3)], [(2, (.aload_n 0), 1), (3, (.getfield 1204), 3)], [(2, (.sipush 200), 3)], [(1, (.if_icmp .le 9), 3)], [(0, (.aload_n 0), 1), (1, (.bipush 6), 2), (3, (.invokevirtual 1216), 3)]]
theorem zdk_340 : zsh_all 8 zdl_340 prog_14_method_107_code.data.toList = true := by decide +kernel
theorem zd_340_0 : decode prog_14_method_107_code 0 = .ok (.aload_n 0, 1) := zsh_g zdk_340 (r := 0) (k := 0) rfl rfl rfl
theorem zd_340_1 : decode prog_14_method_107_code 1 = .ok (.iconst 0, 1) := zsh_g zdk_340 (r := 0) (k := 1) rfl rfl rfl
theorem zd_340_2 : decode prog_14_method_107_code 2 = .ok (.putfield 1204, 3) := zsh_g zdk_340 (r := 0) (k := 2) rfl rfl rfl
theorem zd_340_5 : decode prog_14_method_107_code 5 = .ok (.aload_n 0, 1) := zsh_g zdk_340 (r := 1) (k := 0) rfl rfl rfl
theorem zd_340_6 : decode prog_14_method_107_code 6 = .ok (.getfield 319, 3) := zsh_g zdk_340 (r := 1) (k := 1) rfl rfl rfl
theorem zd_340_9 : decode prog_14_method_107_code 9 = .ok (.iload_n 2, 1) := zsh_g zdk_340 (r := 2) (k := 0) rfl rfl rfl
theorem zd_340_10 : decode prog_14_method_107_code 10 = .ok (.iaload, 1) := zsh_g zdk_340 (r := 2) (k := 1) rfl rfl rfl
theorem zd_340_11 : decode prog_14_method_107_code 11 = .ok (.istore_n 3, 1) := zsh_g zdk_340 (r := 2) (k := 2) rfl rfl rfl
theorem zd_340_12 : decode prog_14_method_107_code 12 = .ok (.aload_n 0, 1) := zsh_g zdk_340 (r := 3) (k := 0) rfl rfl rfl
theorem zd_340_13 : decode prog_14_method_107_code 13 = .ok (.getfield 292, 3) := zsh_g zdk_340 (r := 3) (k := 1) rfl rfl rfl
theorem zd_340_16 : decode prog_14_method_107_code 16 = .ok (.iload_n 1, 1) := zsh_g zdk_340 (r := 4) (k := 0) rfl rfl rfl
theorem zd_340_17 : decode prog_14_method_107_code 17 = .ok (.iaload, 1) := zsh_g zdk_340 (r := 4) (k := 1) rfl rfl rfl
theorem zd_340_18 : decode prog_14_method_107_code 18 = .ok (.istore 4, 2) := zsh_g zdk_340 (r := 4) (k := 2) rfl rfl rfl
theorem zd_340_20 : decode prog_14_method_107_code 20 = .ok (.iload 4, 2) := zsh_g zdk_340 (r := 5) (k := 0) rfl rfl rfl
theorem zd_340_22 : decode prog_14_method_107_code 22 = .ok (.aload_n 0, 1) := zsh_g zdk_340 (r := 5) (k := 1) rfl rfl rfl
theorem zd_340_23 : decode prog_14_method_107_code 23 = .ok (.getfield 295, 3) := zsh_g zdk_340 (r := 5) (k := 2) rfl rfl rfl
theorem zd_340_26 : decode prog_14_method_107_code 26 = .ok (.iload_n 1, 1) := zsh_g zdk_340 (r := 6) (k := 0) rfl rfl rfl
theorem zd_340_27 : decode prog_14_method_107_code 27 = .ok (.iaload, 1) := zsh_g zdk_340 (r := 6) (k := 1) rfl rfl rfl
theorem zd_340_28 : decode prog_14_method_107_code 28 = .ok (.if_icmp .ge 106, 3) := zsh_g zdk_340 (r := 7) (k := 0) rfl rfl rfl
theorem zd_340_31 : decode prog_14_method_107_code 31 = .ok (.aload_n 0, 1) := zsh_g zdk_340 (r := 7) (k := 1) rfl rfl rfl
theorem zd_340_32 : decode prog_14_method_107_code 32 = .ok (.getfield 1183, 3) := zsh_g zdk_340 (r := 8) (k := 0) rfl rfl rfl
theorem zd_340_35 : decode prog_14_method_107_code 35 = .ok (.ifCond .ne 99, 3) := zsh_g zdk_340 (r := 8) (k := 1) rfl rfl rfl
theorem zd_340_38 : decode prog_14_method_107_code 38 = .ok (.aload_n 0, 1) := zsh_g zdk_340 (r := 9) (k := 0) rfl rfl rfl
theorem zd_340_39 : decode prog_14_method_107_code 39 = .ok (.iload 4, 2) := zsh_g zdk_340 (r := 9) (k := 1) rfl rfl rfl
theorem zd_340_41 : decode prog_14_method_107_code 41 = .ok (.invokevirtual 1195, 3) := zsh_g zdk_340 (r := 10) (k := 0) rfl rfl rfl
theorem zd_340_44 : decode prog_14_method_107_code 44 = .ok (.istore 5, 2) := zsh_g zdk_340 (r := 11) (k := 0) rfl rfl rfl
theorem zd_340_46 : decode prog_14_method_107_code 46 = .ok (.iload 5, 2) := zsh_g zdk_340 (r := 11) (k := 1) rfl rfl rfl
theorem zd_340_48 : decode prog_14_method_107_code 48 = .ok (.bipush 92, 2) := zsh_g zdk_340 (r := 12) (k := 0) rfl rfl rfl
theorem zd_340_50 : decode prog_14_method_107_code 50 = .ok (.if_icmp .ne 7, 3) := zsh_g zdk_340 (r := 12) (k := 1) rfl rfl rfl
theorem zd_340_53 : decode prog_14_method_107_code 53 = .ok (.iload_n 3, 1) := zsh_g zdk_340 (r := 13) (k := 0) rfl rfl rfl
theorem zd_340_54 : decode prog_14_method_107_code 54 = .ok (.ifCond .ge 15, 3) := zsh_g zdk_340 (r := 13) (k := 1) rfl rfl rfl
theorem zd_340_57 : decode prog_14_method_107_code 57 = .ok (.aload_n 0, 1) := zsh_g zdk_340 (r := 14) (k := 0) rfl rfl rfl
theorem zd_340_58 : decode prog_14_method_107_code 58 = .ok (.iload 5, 2) := zsh_g zdk_340 (r := 14) (k := 1) rfl rfl rfl
theorem zd_340_60 : decode prog_14_method_107_code 60 = .ok (.invokevirtual 1207, 3) := zsh_g zdk_340 (r := 15) (k := 0) rfl rfl rfl
theorem zd_340_63 : decode prog_14_method_107_code 63 = .ok (.iinc 4 1, 3) := zsh_g zdk_340 (r := 15) (k := 1) rfl rfl rfl
theorem zd_340_66 : decode prog_14_method_107_code 66 = .ok (.goto 65, 3) := zsh_g zdk_340 (r := 16) (k := 0) rfl rfl rfl
theorem zd_340_69 : decode prog_14_method_107_code 69 = .ok (.iload 4, 2) := zsh_g zdk_340 (r := 17) (k := 0) rfl rfl rfl
theorem zd_340_71 : decode prog_14_method_107_code 71 = .ok (.iconst 1, 1) := zsh_g zdk_340 (r := 17) (k := 1) rfl rfl rfl
theorem zd_340_72 : decode prog_14_method_107_code 72 = .ok (.iadd, 1) := zsh_g zdk_340 (r := 18) (k := 0) rfl rfl rfl
theorem zd_340_73 : decode prog_14_method_107_code 73 = .ok (.aload_n 0, 1) := zsh_g zdk_340 (r := 18) (k := 1) rfl rfl rfl
theorem zd_340_74 : decode prog_14_method_107_code 74 = .ok (.getfield 295, 3) := zsh_g zdk_340 (r := 18) (k := 2) rfl rfl rfl
theorem zd_340_77 : decode prog_14_method_107_code 77 = .ok (.iload_n 1, 1) := zsh_g zdk_340 (r := 19) (k := 0) rfl rfl rfl
theorem zd_340_78 : decode prog_14_method_107_code 78 = .ok (.iaload, 1) := zsh_g zdk_340 (r := 19) (k := 1) rfl rfl rfl
theorem zd_340_79 : decode prog_14_method_107_code 79 = .ok (.if_icmp .ge 35, 3) := zsh_g zdk_340 (r := 19) (k := 2) rfl rfl rfl
theorem zd_340_82 : decode prog_14_method_107_code 82 = .ok (.aload_n 0, 1) := zsh_g zdk_340 (r := 20) (k := 0) rfl rfl rfl
theorem zd_340_83 : decode prog_14_method_107_code 83 = .ok (.iload 4, 2) := zsh_g zdk_340 (r := 20) (k := 1) rfl rfl rfl
theorem zd_340_85 : decode prog_14_method_107_code 85 = .ok (.iconst 1, 1) := zsh_g zdk_340 (r := 21) (k := 0) rfl rfl rfl
theorem zd_340_86 : decode prog_14_method_107_code 86 = .ok (.iadd, 1) := zsh_g zdk_340 (r := 21) (k := 1) rfl rfl rfl
theorem zd_340_87 : decode prog_14_method_107_code 87 = .ok (.invokevirtual 1195, 3) := zsh_g zdk_340 (r := 21) (k := 2) rfl rfl rfl
theorem zd_340_90 : decode prog_14_method_107_code 90 = .ok (.bipush 64, 2) := zsh_g zdk_340 (r := 22) (k := 0) rfl rfl rfl
theorem zd_340_92 : decode prog_14_method_107_code 92 = .ok (.if_icmp .ne 22, 3) := zsh_g zdk_340 (r := 23) (k := 0) rfl rfl rfl
theorem zd_340_95 : decode prog_14_method_107_code 95 = .ok (.aload_n 0, 1) := zsh_g zdk_340 (r := 23) (k := 1) rfl rfl rfl
theorem zd_340_96 : decode prog_14_method_107_code 96 = .ok (.aload_n 0, 1) := zsh_g zdk_340 (r := 24) (k := 0) rfl rfl rfl
theorem zd_340_97 : decode prog_14_method_107_code 97 = .ok (.getfield 316, 3) := zsh_g zdk_340 (r := 24) (k := 1) rfl rfl rfl
theorem zd_340_100 : decode prog_14_method_107_code 100 = .ok (.iload_n 3, 1) := zsh_g zdk_340 (r := 25) (k := 0) rfl rfl rfl
theorem zd_340_101 : decode prog_14_method_107_code 101 = .ok (.iaload, 1) := zsh_g zdk_340 (r := 25) (k := 1) rfl rfl rfl
theorem zd_340_102 : decode prog_14_method_107_code 102 = .ok (.invokevirtual 1210, 3) := zsh_g zdk_340 (r := 25) (k := 2) rfl rfl rfl
theorem zd_340_105 : decode prog_14_method_107_code 105 = .ok (.iload 4, 2) := zsh_g zdk_340 (r := 26) (k := 0) rfl rfl rfl
theorem zd_340_107 : decode prog_14_method_107_code 107 = .ok (.iconst 2, 1) := zsh_g zdk_340 (r := 26) (k := 1) rfl rfl rfl
theorem zd_340_108 : decode prog_14_method_107_code 108 = .ok (.iadd, 1) := zsh_g zdk_340 (r := 27) (k := 0) rfl rfl rfl
theorem zd_340_109 : decode prog_14_method_107_code 109 = .ok (.istore 4, 2) := zsh_g zdk_340 (r := 27) (k := 1) rfl rfl rfl
theorem zd_340_111 : decode prog_14_method_107_code 111 = .ok (.goto 20, 3) := zsh_g zdk_340 (r := 27) (k := 2) rfl rfl rfl
theorem zd_340_114 : decode prog_14_method_107_code 114 = .ok (.aload_n 0, 1) := zsh_g zdk_340 (r := 28) (k := 0) rfl rfl rfl
theorem zd_340_115 : decode prog_14_method_107_code 115 = .ok (.iload 4, 2) := zsh_g zdk_340 (r := 28) (k := 1) rfl rfl rfl
theorem zd_340_117 : decode prog_14_method_107_code 117 = .ok (.iconst 1, 1) := zsh_g zdk_340 (r := 29) (k := 0) rfl rfl rfl
theorem zd_340_118 : decode prog_14_method_107_code 118 = .ok (.iadd, 1) := zsh_g zdk_340 (r := 29) (k := 1) rfl rfl rfl
theorem zd_340_119 : decode prog_14_method_107_code 119 = .ok (.aload_n 0, 1) := zsh_g zdk_340 (r := 29) (k := 2) rfl rfl rfl
theorem zd_340_120 : decode prog_14_method_107_code 120 = .ok (.getfield 295, 3) := zsh_g zdk_340 (r := 30) (k := 0) rfl rfl rfl
theorem zd_340_123 : decode prog_14_method_107_code 123 = .ok (.iload_n 1, 1) := zsh_g zdk_340 (r := 30) (k := 1) rfl rfl rfl
theorem zd_340_124 : decode prog_14_method_107_code 124 = .ok (.iaload, 1) := zsh_g zdk_340 (r := 31) (k := 0) rfl rfl rfl
theorem zd_340_125 : decode prog_14_method_107_code 125 = .ok (.iload_n 3, 1) := zsh_g zdk_340 (r := 31) (k := 1) rfl rfl rfl
theorem zd_340_126 : decode prog_14_method_107_code 126 = .ok (.invokevirtual 1213, 3) := zsh_g zdk_340 (r := 31) (k := 2) rfl rfl rfl
theorem zd_340_129 : decode prog_14_method_107_code 129 = .ok (.istore 4, 2) := zsh_g zdk_340 (r := 32) (k := 0) rfl rfl rfl
theorem zd_340_131 : decode prog_14_method_107_code 131 = .ok (.goto (-111), 3) := zsh_g zdk_340 (r := 32) (k := 1) rfl rfl rfl
theorem zd_340_134 : decode prog_14_method_107_code 134 = .ok (.iload_n 3, 1) := zsh_g zdk_340 (r := 33) (k := 0) rfl rfl rfl
theorem zd_340_135 : decode prog_14_method_107_code 135 = .ok (.ifCond .lt 19, 3) := zsh_g zdk_340 (r := 33) (k := 1) rfl rfl rfl
theorem zd_340_138 : decode prog_14_method_107_code 138 = .ok (.aload_n 0, 1) := zsh_g zdk_340 (r := 34) (k := 0) rfl rfl rfl
theorem zd_340_139 : decode prog_14_method_107_code 139 = .ok (.getfield 1204, 3) := zsh_g zdk_340 (r := 34) (k := 1) rfl rfl rfl
theorem zd_340_142 : decode prog_14_method_107_code 142 = .ok (.sipush 200, 3) := zsh_g zdk_340 (r := 35) (k := 0) rfl rfl rfl
theorem zd_340_145 : decode prog_14_method_107_code 145 = .ok (.if_icmp .le 9, 3) := zsh_g zdk_340 (r := 36) (k := 0) rfl rfl rfl
theorem zd_340_148 : decode prog_14_method_107_code 148 = .ok (.aload_n 0, 1) := zsh_g zdk_340 (r := 37) (k := 0) rfl rfl rfl
theorem zd_340_149 : decode prog_14_method_107_code 149 = .ok (.bipush 6, 2) := zsh_g zdk_340 (r := 37) (k := 1) rfl rfl rfl
theorem zd_340_151 : decode prog_14_method_107_code 151 = .ok (.invokevirtual 1216, 3) := zsh_g zdk_340 (r := 37) (k := 2) rfl rfl rfl
def zdl_341 : List (List (Nat × Instr × Nat)) := [[(0, (.aload_n 0), 1), (1, (.iconst 0), 1), (2, (.putfield 1219), 3)], [(1, (.aload_n 0), 1), (2, (.iconst 1), 1), (3, (.putfield 1228), 3)], [(2, (.aload_n 0), 1), (3, (.iconst 0), 1)], [(0, (.putfield 1260), 3), (3, (.iconst 0), 1)], [(0, (.istore_n 1), 1), (1, (.aload_n 0), 1), (2, (.getfield 1183), 3)], [(1, (.ifCond .ne 173), 3)], [(0, (.aload_n 0), 1), (1, (.invokevirtual 1225), 3)], [(0, (.aload_n 0), 1), (1, (.getfield 1219), 3)], [(0, (.aload_n 0), 1), (1, (.getfield 1204), 3)], [(0, (.if_icmp .lt 4), 3)], [(0, (.aload_n 0), 1), (1, (.invokevirtual 1222), 3)], [(0, (.invokestatic 1198), 3), (3, (.ifCond .eq 45), 3)], [(2, (.aload_n 0), 1), (3, (.invokevirtual 1254), 3)], [(2, (.istore_n 2), 1), (3, (.aload_n 0), 1)], [(0, (.getfield 1228), 3), (3, (.ifCond .ne 9), 3)], [(2, (.aload_n 0), 1), (3, (.iconst 1), 1)], [(0, (.invokevirtual 1216), 3)], [(0, (.aload_n 0), 1), (1, (.bipush 58), 2), (3, (.invokevirtual 1330), 3)], [(2, (.ifCond .ne 10), 3)], [(1, (.aload_n 0), 1), (2, (.iload_n 2), 1), (3, (.iload_n 1), 1)], [(0, (.invokevirtual 1483), 3)], [(0, (.aload_n 0), 1), (1, (.iload_n 2), 1), (2, (.invokevirtual 1486), 3)], [(1, (.goto 90), 3)], [(0, (.aload_n 0), 1), (1, (.invokevirtual 1222), 3)], [(0, (.invokestatic 553), 3), (3, (.ifCond .eq 74), 3)], [(2, (.aload_n 0), 1), (3, (.getfield 1219), 3)], [(2, (.iconst 1), 1), (3, .iadd, 1)], [(0, (.aload_n 0), 1), (1, (.getfield 1204), 3)], [(0, (.if_icmp .ge 20), 3), (3, (.aload_n 0), 1)], [(0, (.getfield 298), 3), (3, (.aload_n 0), 1)], [(0, (.getfield 1219), 3), (3, (.iconst 1), 1)], [(0, .iadd, 1), (1, .iaload, 1), (2, (.invokestatic 1201), 3)], [(1, (.ifCond .ne 44), 3)], [(0, (.aload_n 0), 1), (1, (.invokevirtual 1222), 3)], [(0, (.bipush 48), 2), (2, .isub, 1), (3, (.istore_n 2), 1)], [(0, (.aload_n 0), 1), (1, .dup, 1), (2, (.getfield 1219), 3)], [(1, (.iconst 1), 1), (2, .iadd, 1), (3, (.putfield 1219), 3)], [(2, (.aload_n 0), 1), (3, (.bipush 58), 2)], [(1, (.invokevirtual 1330), 3)], [(0, (.ifCond .ne 9), 3), (3, (.aload_n 0), 1)], [(0, (.iconst 1), 1), (1, (.invokevirtual 1216), 3)], [(1, (.aload_n 0), 1), (2, (.iload_n 2), 1), (3, (.invokevirtual 1489), 3)], [(2, (.goto 9), 3)], [(1, (.aload_n 0), 1), (2, (.iconst 1), 1), (3, (.invokevirtual 1216), 3)], [(3, (.aload_n 0), 1)], [(0, .dup, 1), (1, (.getfield 1219), 3)], [(0, (.iconst 1), 1), (1, .iadd, 1), (2, (.putfield 1219), 3)], [(1, (.iconst 1), 1), (2, (.istore_n 1), 1), (3, (.goto (-174)), 3)]]
theorem zdk_341 : zsh_all 8 zdl_341 prog_14_method_172_code.data.toList = true := by decide +kernel
theorem zd_341_0 : decode prog_14_method_172_code 0 = .ok (.aload_n 0, 1) := zsh_g zdk_341 (r := 0) (k := 0) rfl rfl rfl
theorem zd_341_1 : decode prog_14_method_172_code 1 = .ok (.iconst 0, 1) := zsh_g zdk_341 (r := 0) (k := 1) rfl rfl rfl
theorem zd_341_2 : decode prog_14_method_172_code 2 = .ok (.putfield 1219, 3) := zsh_g zdk_341 (r := 0) (k := 2) rfl rfl rfl
theorem zd_341_5 : decode prog_14_method_172_code 5 = .ok (.aload_n 0, 1) := zsh_g zdk_341 (r := 1) (k := 0) rfl rfl rfl
theorem zd_341_6 : decode prog_14_method_172_code 6 = .ok (.iconst 1, 1) := zsh_g zdk_341 (r := 1) (k := 1) rfl rfl rfl
theorem zd_341_7 : decode prog_14_method_172_code 7 = .ok (.putfield 1228, 3) := zsh_g zdk_341 (r := 1) (k := 2) rfl rfl rfl
theorem zd_341_10 : decode prog_14_method_172_code 10 = .ok (.aload_n 0, 1) := zsh_g zdk_341 (r := 2) (k := 0) rfl rfl rfl
theorem zd_341_11 : decode prog_14_method_172_code 11 = .ok (.iconst 0, 1) := zsh_g zdk_341 (r := 2) (k := 1) rfl rfl rfl
theorem zd_341_12 : decode prog_14_method_172_code 12 = .ok (.putfield 1260, 3) := zsh_g zdk_341 (r := 3) (k := 0) rfl rfl rfl
theorem zd_341_15 : decode prog_14_method_172_code 15 = .ok (.iconst 0, 1) := zsh_g zdk_341 (r := 3) (k := 1) rfl rfl rfl
theorem zd_341_16 : decode prog_14_method_172_code 16 = .ok (.istore_n 1, 1) := zsh_g zdk_341 (r := 4) (k := 0) rfl rfl rfl
theorem zd_341_17 : decode prog_14_method_172_code 17 = .ok (.aload_n 0, 1) := zsh_g zdk_341 (r := 4) (k := 1) rfl rfl rfl
theorem zd_341_18 : decode prog_14_method_172_code 18 = .ok (.getfield 1183, 3) := zsh_g zdk_341 (r := 4) (k := 2) rfl rfl rfl
theorem zd_341_21 : decode prog_14_method_172_code 21 = .ok (.ifCond .ne 173, 3) := zsh_g zdk_341 (r := 5) (k := 0) rfl rfl rfl
theorem zd_341_24 : decode prog_14_method_172_code 24 = .ok (.aload_n 0, 1) := zsh_g zdk_341 (r := 6) (k := 0) rfl rfl rfl
theorem zd_341_25 : decode prog_14_method_172_code 25 = .ok (.invokevirtual 1225, 3) := zsh_g zdk_341 (r := 6) (k := 1) rfl rfl rfl
theorem zd_341_28 : decode prog_14_method_172_code 28 = .ok (.aload_n 0, 1) := zsh_g zdk_341 (r := 7) (k := 0) rfl rfl rfl
theorem zd_341_29 : decode prog_14_method_172_code 29 = .ok (.getfield 1219, 3) := zsh_g zdk_341 (r := 7) (k := 1) rfl rfl rfl
theorem zd_341_32 : decode prog_14_method_172_code 32 = .ok (.aload_n 0, 1) := zsh_g zdk_341 (r := 8) (k := 0) rfl rfl rfl
theorem zd_341_33 : decode prog_14_method_172_code 33 = .ok (.getfield 1204, 3) := zsh_g zdk_341 (r := 8) (k := 1) rfl rfl rfl
theorem zd_341_36 : decode prog_14_method_172_code 36 = .ok (.if_icmp .lt 4, 3) := zsh_g zdk_341 (r := 9) (k := 0) rfl rfl rfl
theorem zd_341_40 : decode prog_14_method_172_code 40 = .ok (.aload_n 0, 1) := zsh_g zdk_341 (r := 10) (k := 0) rfl rfl rfl
theorem zd_341_41 : decode prog_14_method_172_code 41 = .ok (.invokevirtual 1222, 3) := zsh_g zdk_341 (r := 10) (k := 1) rfl rfl rfl
theorem zd_341_44 : decode prog_14_method_172_code 44 = .ok (.invokestatic 1198, 3) := zsh_g zdk_341 (r := 11) (k := 0) rfl rfl rfl
theorem zd_341_47 : decode prog_14_method_172_code 47 = .ok (.ifCond .eq 45, 3) := zsh_g zdk_341 (r := 11) (k := 1) rfl rfl rfl
theorem zd_341_50 : decode prog_14_method_172_code 50 = .ok (.aload_n 0, 1) := zsh_g zdk_341 (r := 12) (k := 0) rfl rfl rfl
theorem zd_341_51 : decode prog_14_method_172_code 51 = .ok (.invokevirtual 1254, 3) := zsh_g zdk_341 (r := 12) (k := 1) rfl rfl rfl
theorem zd_341_54 : decode prog_14_method_172_code 54 = .ok (.istore_n 2, 1) := zsh_g zdk_341 (r := 13) (k := 0) rfl rfl rfl
theorem zd_341_55 : decode prog_14_method_172_code 55 = .ok (.aload_n 0, 1) := zsh_g zdk_341 (r := 13) (k := 1) rfl rfl rfl
theorem zd_341_56 : decode prog_14_method_172_code 56 = .ok (.getfield 1228, 3) := zsh_g zdk_341 (r := 14) (k := 0) rfl rfl rfl
theorem zd_341_59 : decode prog_14_method_172_code 59 = .ok (.ifCond .ne 9, 3) := zsh_g zdk_341 (r := 14) (k := 1) rfl rfl rfl
theorem zd_341_62 : decode prog_14_method_172_code 62 = .ok (.aload_n 0, 1) := zsh_g zdk_341 (r := 15) (k := 0) rfl rfl rfl
theorem zd_341_63 : decode prog_14_method_172_code 63 = .ok (.iconst 1, 1) := zsh_g zdk_341 (r := 15) (k := 1) rfl rfl rfl
theorem zd_341_64 : decode prog_14_method_172_code 64 = .ok (.invokevirtual 1216, 3) := zsh_g zdk_341 (r := 16) (k := 0) rfl rfl rfl
theorem zd_341_68 : decode prog_14_method_172_code 68 = .ok (.aload_n 0, 1) := zsh_g zdk_341 (r := 17) (k := 0) rfl rfl rfl
theorem zd_341_69 : decode prog_14_method_172_code 69 = .ok (.bipush 58, 2) := zsh_g zdk_341 (r := 17) (k := 1) rfl rfl rfl
theorem zd_341_71 : decode prog_14_method_172_code 71 = .ok (.invokevirtual 1330, 3) := zsh_g zdk_341 (r := 17) (k := 2) rfl rfl rfl
theorem zd_341_74 : decode prog_14_method_172_code 74 = .ok (.ifCond .ne 10, 3) := zsh_g zdk_341 (r := 18) (k := 0) rfl rfl rfl
theorem zd_341_77 : decode prog_14_method_172_code 77 = .ok (.aload_n 0, 1) := zsh_g zdk_341 (r := 19) (k := 0) rfl rfl rfl
theorem zd_341_78 : decode prog_14_method_172_code 78 = .ok (.iload_n 2, 1) := zsh_g zdk_341 (r := 19) (k := 1) rfl rfl rfl
theorem zd_341_79 : decode prog_14_method_172_code 79 = .ok (.iload_n 1, 1) := zsh_g zdk_341 (r := 19) (k := 2) rfl rfl rfl
theorem zd_341_80 : decode prog_14_method_172_code 80 = .ok (.invokevirtual 1483, 3) := zsh_g zdk_341 (r := 20) (k := 0) rfl rfl rfl
theorem zd_341_84 : decode prog_14_method_172_code 84 = .ok (.aload_n 0, 1) := zsh_g zdk_341 (r := 21) (k := 0) rfl rfl rfl
theorem zd_341_85 : decode prog_14_method_172_code 85 = .ok (.iload_n 2, 1) := zsh_g zdk_341 (r := 21) (k := 1) rfl rfl rfl
theorem zd_341_86 : decode prog_14_method_172_code 86 = .ok (.invokevirtual 1486, 3) := zsh_g zdk_341 (r := 21) (k := 2) rfl rfl rfl
theorem zd_341_89 : decode prog_14_method_172_code 89 = .ok (.goto 90, 3) := zsh_g zdk_341 (r := 22) (k := 0) rfl rfl rfl
theorem zd_341_92 : decode prog_14_method_172_code 92 = .ok (.aload_n 0, 1) := zsh_g zdk_341 (r := 23) (k := 0) rfl rfl rfl
theorem zd_341_93 : decode prog_14_method_172_code 93 = .ok (.invokevirtual 1222, 3) := zsh_g zdk_341 (r := 23) (k := 1) rfl rfl rfl
theorem zd_341_96 : decode prog_14_method_172_code 96 = .ok (.invokestatic 553, 3) := zsh_g zdk_341 (r := 24) (k := 0) rfl rfl rfl
theorem zd_341_99 : decode prog_14_method_172_code 99 = .ok (.ifCond .eq 74, 3) := zsh_g zdk_341 (r := 24) (k := 1) rfl rfl rfl
theorem zd_341_102 : decode prog_14_method_172_code 102 = .ok (.aload_n 0, 1) := zsh_g zdk_341 (r := 25) (k := 0) rfl rfl rfl
theorem zd_341_103 : decode prog_14_method_172_code 103 = .ok (.getfield 1219, 3) := zsh_g zdk_341 (r := 25) (k := 1) rfl rfl rfl
theorem zd_341_106 : decode prog_14_method_172_code 106 = .ok (.iconst 1, 1) := zsh_g zdk_341 (r := 26) (k := 0) rfl rfl rfl
theorem zd_341_107 : decode prog_14_method_172_code 107 = .ok (.iadd, 1) := zsh_g zdk_341 (r := 26) (k := 1) rfl rfl rfl
theorem zd_341_108 : decode prog_14_method_172_code 108 = .ok (.aload_n 0, 1) := zsh_g zdk_341 (r := 27) (k := 0) rfl rfl rfl
theorem zd_341_109 : decode prog_14_method_172_code 109 = .ok (.getfield 1204, 3) := zsh_g zdk_341 (r := 27) (k := 1) rfl rfl rfl
theorem zd_341_112 : decode prog_14_method_172_code 112 = .ok (.if_icmp .ge 20, 3) := zsh_g zdk_341 (r := 28) (k := 0) rfl rfl rfl
theorem zd_341_115 : decode prog_14_method_172_code 115 = .ok (.aload_n 0, 1) := zsh_g zdk_341 (r := 28) (k := 1) rfl rfl rfl
theorem zd_341_116 : decode prog_14_method_172_code 116 = .ok (.getfield 298, 3) := zsh_g zdk_341 (r := 29) (k := 0) rfl rfl rfl
theorem zd_341_119 : decode prog_14_method_172_code 119 = .ok (.aload_n 0, 1) := zsh_g zdk_341 (r := 29) (k := 1) rfl rfl rfl
theorem zd_341_120 : decode prog_14_method_172_code 120 = .ok (.getfield 1219, 3) := zsh_g zdk_341 (r := 30) (k := 0) rfl rfl rfl
theorem zd_341_123 : decode prog_14_method_172_code 123 = .ok (.iconst 1, 1) := zsh_g zdk_341 (r := 30) (k := 1) rfl rfl rfl
theorem zd_341_124 : decode prog_14_method_172_code 124 = .ok (.iadd, 1) := zsh_g zdk_341 (r := 31) (k := 0) rfl rfl rfl
theorem zd_341_125 : decode prog_14_method_172_code 125 = .ok (.iaload, 1) := zsh_g zdk_341 (r := 31) (k := 1) rfl rfl rfl
theorem zd_341_126 : decode prog_14_method_172_code 126 = .ok (.invokestatic 1201, 3) := zsh_g zdk_341 (r := 31) (k := 2) rfl rfl rfl
theorem zd_341_129 : decode prog_14_method_172_code 129 = .ok (.ifCond .ne 44, 3) := zsh_g zdk_341 (r := 32) (k := 0) rfl rfl rfl
theorem zd_341_132 : decode prog_14_method_172_code 132 = .ok (.aload_n 0, 1) := zsh_g zdk_341 (r := 33) (k := 0) rfl rfl rfl
theorem zd_341_133 : decode prog_14_method_172_code 133 = .ok (.invokevirtual 1222, 3) := zsh_g zdk_341 (r := 33) (k := 1) rfl rfl rfl
theorem zd_341_136 : decode prog_14_method_172_code 136 = .ok (.bipush 48, 2) := zsh_g zdk_341 (r := 34) (k := 0) rfl rfl rfl
theorem zd_341_138 : decode prog_14_method_172_code 138 = .ok (.isub, 1) := zsh_g zdk_341 (r := 34) (k := 1) rfl rfl rfl
theorem zd_341_139 : decode prog_14_method_172_code 139 = .ok (.istore_n 2, 1) := zsh_g zdk_341 (r := 34) (k := 2) rfl rfl rfl
theorem zd_341_140 : decode prog_14_method_172_code 140 = .ok (.aload_n 0, 1) := zsh_g zdk_341 (r := 35) (k := 0) rfl rfl rfl
theorem zd_341_141 : decode prog_14_method_172_code 141 = .ok (.dup, 1) := zsh_g zdk_341 (r := 35) (k := 1) rfl rfl rfl
theorem zd_341_142 : decode prog_14_method_172_code 142 = .ok (.getfield 1219, 3) := zsh_g zdk_341 (r := 35) (k := 2) rfl rfl rfl
theorem zd_341_145 : decode prog_14_method_172_code 145 = .ok (.iconst 1, 1) := zsh_g zdk_341 (r := 36) (k := 0) rfl rfl rfl
theorem zd_341_146 : decode prog_14_method_172_code 146 = .ok (.iadd, 1) := zsh_g zdk_341 (r := 36) (k := 1) rfl rfl rfl
theorem zd_341_147 : decode prog_14_method_172_code 147 = .ok (.putfield 1219, 3) := zsh_g zdk_341 (r := 36) (k := 2) rfl rfl rfl
theorem zd_341_150 : decode prog_14_method_172_code 150 = .ok (.aload_n 0, 1) := zsh_g zdk_341 (r := 37) (k := 0) rfl rfl rfl
theorem zd_341_151 : decode prog_14_method_172_code 151 = .ok (.bipush 58, 2) := zsh_g zdk_341 (r := 37) (k := 1) rfl rfl rfl
theorem zd_341_153 : decode prog_14_method_172_code 153 = .ok (.invokevirtual 1330, 3) := zsh_g zdk_341 (r := 38) (k := 0) rfl rfl rfl
theorem zd_341_156 : decode prog_14_method_172_code 156 = .ok (.ifCond .ne 9, 3) := zsh_g zdk_341 (r := 39) (k := 0) rfl rfl rfl
theorem zd_341_159 : decode prog_14_method_172_code 159 = .ok (.aload_n 0, 1) := zsh_g zdk_341 (r := 39) (k := 1) rfl rfl rfl
theorem zd_341_160 : decode prog_14_method_172_code 160 = .ok (.iconst 1, 1) := zsh_g zdk_341 (r := 40) (k := 0) rfl rfl rfl
theorem zd_341_161 : decode prog_14_method_172_code 161 = .ok (.invokevirtual 1216, 3) := zsh_g zdk_341 (r := 40) (k := 1) rfl rfl rfl
theorem zd_341_165 : decode prog_14_method_172_code 165 = .ok (.aload_n 0, 1) := zsh_g zdk_341 (r := 41) (k := 0) rfl rfl rfl
theorem zd_341_166 : decode prog_14_method_172_code 166 = .ok (.iload_n 2, 1) := zsh_g zdk_341 (r := 41) (k := 1) rfl rfl rfl
theorem zd_341_167 : decode prog_14_method_172_code 167 = .ok (.invokevirtual 1489, 3) := zsh_g zdk_341 (r := 41) (k := 2) rfl rfl rfl
theorem zd_341_170 : decode prog_14_method_172_code 170 = .ok (.goto 9, 3) := zsh_g zdk_341 (r := 42) (k := 0) rfl rfl rfl
theorem zd_341_173 : decode prog_14_method_172_code 173 = .ok (.aload_n 0, 1) := zsh_g zdk_341 (r := 43) (k := 0) rfl rfl rfl
theorem zd_341_174 : decode prog_14_method_172_code 174 = .ok (.iconst 1, 1) := zsh_g zdk_341 (r := 43) (k := 1) rfl rfl rfl
theorem zd_341_175 : decode prog_14_method_172_code 175 = .ok (.invokevirtual 1216, 3) := zsh_g zdk_341 (r := 43) (k := 2) rfl rfl rfl
theorem zd_341_179 : decode prog_14_method_172_code 179 = .ok (.aload_n 0, 1) := zsh_g zdk_341 (r := 44) (k := 0) rfl rfl rfl
theorem zd_341_180 : decode prog_14_method_172_code 180 = .ok (.dup, 1) := zsh_g zdk_341 (r := 45) (k := 0) rfl rfl rfl
theorem zd_341_181 : decode prog_14_method_172_code 181 = .ok (.getfield 1219, 3) := zsh_g zdk_341 (r := 45) (k := 1) rfl rfl rfl
theorem zd_341_184 : decode prog_14_method_172_code 184 = .ok (.iconst 1, 1) := zsh_g zdk_341 (r := 46) (k := 0) rfl rfl rfl
theorem zd_341_185 : decode prog_14_method_172_code 185 = .ok (.iadd, 1) := zsh_g zdk_341 (r := 46) (k := 1) rfl rfl rfl
theorem zd_341_186 : decode prog_14_method_172_code 186 = .ok (.putfield 1219, 3) := zsh_g zdk_341 (r := 46) (k := 2) rfl rfl rfl
theorem zd_341_189 : decode prog_14_method_172_code 189 = .ok (.iconst 1, 1) := zsh_g zdk_341 (r := 47) (k := 0) rfl rfl rfl
theorem zd_341_190 : decode prog_14_method_172_code 190 = .ok (.istore_n 1, 1) := zsh_g zdk_341 (r := 47) (k := 1) rfl rfl rfl
theorem zd_341_191 : decode prog_14_method_172_code 191 = .ok (.goto (-174), 3) := zsh_g zdk_341 (r := 47) (k := 2) rfl rfl rfl
def zdl_342 : List (List (Nat × Instr × Nat)) := [[(0, (.aload_n 0), 1), (1, (.getfield 416), 3)], [(0, (.iload_n 1), 1), (1, .iaload, 1), (2, (.iconst 3), 1), (3, (.if_icmp .ne 15), 3)], [(2, (.aload_n 0), 1), (3, (.iconst 4), 1)], [(0, (.aload_n 0), 1), (1, (.getfield 428), 3)], [(0, (.iload_n 1), 1), (1, .iaload, 1), (2, (.invokevirtual 1180), 3)], [(2, (.iconst (-1)), 1), (3, (.istore_n 2), 1)], [(0, (.aload_n 0), 1), (1, (.getfield 425), 3)], [(0, (.iload_n 1), 1), (1, .iaload, 1), (2, (.istore_n 3), 1), (3, (.aload_n 0), 1)], [(0, (.getfield 422), 3), (3, (.iload_n 1), 1)], [(0, .iaload, 1), (1, (.istore 4), 2), (3, (.aload_n 0), 1)], [(0, (.getfield 416), 3), (3, (.iload_n 1), 1)], [(0, .iaload, 1), (1, (.iconst 1), 1), (2, (.if_icmp .ne 86), 3)], [(1, (.aload_n 0), 1), (2, (.aload_n 0), 1), (3, (.getfield 419), 3)], [(2, (.iload_n 1), 1), (3, .iaload, 1)], [(0, (.invokevirtual 1299), 3), (3, (.istore 5), 2)], [(1, (.iload 5), 2), (3, (.ifCond .ge 12), 3)], [(2, (.aload_n 0), 1), (3, (.getfield 419), 3)], [(2, (.iload_n 1), 1), (3, .iaload, 1)], [(0, (.goto 4), 3), (3, (.iconst (-1)), 1)], [(0, (.istore_n 2), 1), (1, (.iload 5), 2), (3, (.ifCond .ge 7), 3)], [(2, (.iconst (-1)), 1), (3, (.goto 19), 3)], [(2, (.aload_n 0), 1), (3, (.getfield 78), 3)], [(2, (.sipush 600), 3)], [(1, (.aload_n 0), 1), (2, (.getfield 1174), 3)], [(1, .imul, 1), (2, (.iload 5), 2)], [(0, .iadd, 1), (1, .iaload, 1), (2, (.istore 4), 2)], [(0, (.iload 5), 2), (2, (.ifCond .ge 7), 3)], [(1, (.iload_n 3), 1), (2, (.goto 21), 3)], [(1, (.iload_n 3), 1), (2, (.aload_n 0), 1), (3, (.getfield 81), 3)], [(2, (.sipush 600), 3)], [(1, (.aload_n 0), 1), (2, (.getfield 1174), 3)], [(1, .imul, 1), (2, (.iload 5), 2)], [(0, .iadd, 1), (1, .iaload, 1), (2, .iadd, 1), (3, (.istore_n 3), 1)], [(0, (.aload_n 0), 1), (1, (.getfield 413), 3)], [(0, (.iload_n 1), 1), (1, .iaload, 1), (2, (.iconst 4), 1), (3, (.if_icmp .ne 115), 3)], [(2, (.iload 4), 2)], [(0, (.aload_n 0), 1), (1, (.getfield 407), 3)], [(0, (.iload_n 1), 1), (1, .iaload, 1), (2, (.if_icmp .ne 104), 3)], [(1, (.iload_n 3), 1), (2, (.aload_n 0), 1), (3, (.getfield 410), 3)], [(2, (.iload_n 1), 1), (3, .iaload, 1)], [(0, (.iconst 4), 1), (1, .iadd, 1), (2, .isub, 1), (3, (.istore 5), 2)], [(1, (.iload 5), 2), (3, (.iconst 4), 1)], [(0, .irem, 1), (1, (.ifCond .ne 19), 3)], [(0, (.iload 5), 2), (2, (.iconst 4), 1), (3, .idiv, 1)], [(0, (.sipush (-32768)), 3), (3, (.sipush 32767), 3)], [(2, (.invokestatic 504), 3)], [(1, (.ifCond .ne 15), 3)], [(0, (.aload_n 0), 1), (1, (.iconst 3), 1), (2, (.aload_n 0), 1), (3, (.getfield 428), 3)], [(2, (.iload_n 1), 1), (3, .iaload, 1)], [(0, (.invokevirtual 1180), 3)], [(0, (.aload_n 0), 1), (1, (.getfield 59), 3)], [(0, (.bipush 64), 2), (2, (.aload_n 0), 1), (3, (.getfield 1174), 3)], [(2, .imul, 1), (3, (.iload 4), 2)], [(1, .iadd, 1), (2, .iaload, 1), (3, (.aload_n 0), 1)], [(0, (.getfield 410), 3), (3, (.iload_n 1), 1)], [(0, .iaload, 1), (1, .iadd, 1), (2, (.istore 6), 2)], [(0, (.aload_n 0), 1), (1, (.getfield 69), 3)], [(0, (.iload 6), 2), (2, (.iload 5), 2)], [(0, (.iconst 4), 1), (1, .idiv, 1), (2, .i2b, 1), (3, .bastore, 1)], [(0, (.aload_n 0), 1), (1, (.getfield 69), 3)], [(0, (.iload 6), 2), (2, (.iconst 1), 1), (3, .iadd, 1)], [(0, (.iload 5), 2), (2, (.iconst 4), 1), (3, .idiv, 1)], [(0, (.bipush 8), 2), (2, .ishr, 1), (3, .i2b, 1)], [(0, .bastore, 1), (2, (.sipush 3000), 3)], [(1, (.aload_n 0), 1), (2, (.getfield 1174), 3)], [(1, .imul, 1), (2, (.aload_n 0), 1), (3, (.getfield 93), 3)], [(2, (.aload_n 0), 1), (3, (.getfield 1174), 3)], [(2, .iaload, 1), (3, .iadd, 1)], [(0, (.istore 5), 2), (2, (.aload_n 0), 1), (3, (.getfield 96), 3)], [(2, (.iload 5), 2)], [(0, (.aload_n 0), 1), (1, (.getfield 407), 3)], [(0, (.iload_n 1), 1), (1, .iaload, 1), (2, .iastore, 1), (3, (.aload_n 0), 1)], [(0, (.getfield 99), 3), (3, (.iload 5), 2)], [(1, (.aload_n 0), 1), (2, (.getfield 410), 3)], [(1, (.iload_n 1), 1), (2, .iaload, 1), (3, .iastore, 1)], [(0, (.aload_n 0), 1), (1, (.getfield 102), 3)], [(0, (.iload 5), 2), (2, (.aload_n 0), 1), (3, (.getfield 413), 3)], [(2, (.iload_n 1), 1), (3, .iaload, 1)], [(0, .iastore, 1), (1, (.aload_n 0), 1), (2, (.getfield 105), 3)], [(1, (.iload 5), 2), (3, (.iload 4), 2)], [(1, .iastore, 1), (2, (.aload_n 0), 1), (3, (.getfield 108), 3)], [(2, (.iload 5), 2)], [(0, (.iload_n 3), 1), (1, .iastore, 1), (2, (.aload_n 0), 1), (3, (.getfield 111), 3)], [(2, (.iload 5), 2)], [(0, (.iload_n 2), 1), (1, .iastore, 1), (2, (.aload_n 0), 1), (3, (.getfield 114), 3)], [(2, (.iload 5), 2)], [(0, (.aload_n 0), 1), (1, (.getfield 428), 3)], [(0, (.iload_n 1), 1), (1, .iaload, 1), (2, .iastore, 1), (3, (.aload_n 0), 1)], [(0, (.getfield 93), 3), (3, (.aload_n 0), 1)], [(0, (.getfield 1174), 3), (3, .dup2, 1)], [(0, .iaload, 1), (1, (.iconst 1), 1), (2, .iadd, 1), (3, .iastore, 1)]]
theorem zdk_342 : zsh_all 8 zdl_342 prog_14_method_177_code.data.toList = true := by decide +kernel
theorem zd_342_0 : decode prog_14_method_177_code 0 = .ok (.aload_n 0, 1) := zsh_g zdk_342 (r := 0) (k := 0) rfl rfl rfl
theorem zd_342_1 : decode prog_14_method_177_code 1 = .ok (.getfield 416, 3) := zsh_g zdk_342 (r := 0) (k := 1) rfl rfl rfl
theorem zd_342_4 : decode prog_14_method_177_code 4 = .ok (.iload_n 1, 1) := zsh_g zdk_342 (r := 1) (k := 0) rfl rfl rfl
theorem zd_342_5 : decode prog_14_method_177_code 5 = .ok (.iaload, 1) := zsh_g zdk_342 (r := 1) (k := 1) rfl rfl rfl
theorem zd_342_6 : decode prog_14_method_177_code 6 = .ok (.iconst 3, 1) := zsh_g zdk_342 (r := 1) (k := 2) rfl rfl rfl
theorem zd_342_7 : decode prog_14_method_177_code 7 = .ok (.if_icmp .ne 15, 3) := zsh_g zdk_342 (r := 1) (k := 3) rfl rfl rfl
theorem zd_342_10 : decode prog_14_method_177_code 10 = .ok (.aload_n 0, 1) := zsh_g zdk_342 (r := 2) (k := 0) rfl rfl rfl
theorem zd_342_11 : decode prog_14_method_177_code 11 = .ok (.iconst 4, 1) := zsh_g zdk_342 (r := 2) (k := 1) rfl rfl rfl
theorem zd_342_12 : decode prog_14_method_177_code 12 = .ok (.aload_n 0, 1) := zsh_g zdk_342 (r := 3) (k := 0) rfl rfl rfl
theorem zd_342_13 : decode prog_14_method_177_code 13 = .ok (.getfield 428, 3) := zsh_g zdk_342 (r := 3) (k := 1) rfl rfl rfl
theorem zd_342_16 : decode prog_14_method_177_code 16 = .ok (.iload_n 1, 1) := zsh_g zdk_342 (r := 4) (k := 0) rfl rfl rfl
theorem zd_342_17 : decode prog_14_method_177_code 17 = .ok (.iaload, 1) := zsh_g zdk_342 (r := 4) (k := 1) rfl rfl rfl
theorem zd_342_18 : decode prog_14_method_177_code 18 = .ok (.invokevirtual 1180, 3) := zsh_g zdk_342 (r := 4) (k := 2) rfl rfl rfl
theorem zd_342_22 : decode prog_14_method_177_code 22 = .ok (.iconst (-1), 1) := zsh_g zdk_342 (r := 5) (k := 0) rfl rfl rfl
theorem zd_342_23 : decode prog_14_method_177_code 23 = .ok (.istore_n 2, 1) := zsh_g zdk_342 (r := 5) (k := 1) rfl rfl rfl
theorem zd_342_24 : decode prog_14_method_177_code 24 = .ok (.aload_n 0, 1) := zsh_g zdk_342 (r := 6) (k := 0) rfl rfl rfl
theorem zd_342_25 : decode prog_14_method_177_code 25 = .ok (.getfield 425, 3) := zsh_g zdk_342 (r := 6) (k := 1) rfl rfl rfl
theorem zd_342_28 : decode prog_14_method_177_code 28 = .ok (.iload_n 1, 1) := zsh_g zdk_342 (r := 7) (k := 0) rfl rfl rfl
theorem zd_342_29 : decode prog_14_method_177_code 29 = .ok (.iaload, 1) := zsh_g zdk_342 (r := 7) (k := 1) rfl rfl rfl
theorem zd_342_30 : decode prog_14_method_177_code 30 = .ok (.istore_n 3, 1) := zsh_g zdk_342 (r := 7) (k := 2) rfl rfl rfl
theorem zd_342_31 : decode prog_14_method_177_code 31 = .ok (.aload_n 0, 1) := zsh_g zdk_342 (r := 7) (k := 3) rfl rfl rfl
theorem zd_342_32 : decode prog_14_method_177_code 32 = .ok (.getfield 422, 3) := zsh_g zdk_342 (r := 8) (k := 0) rfl rfl rfl
theorem zd_342_35 : decode prog_14_method_177_code 35 = .ok (.iload_n 1, 1) := zsh_g zdk_342 (r := 8) (k := 1) rfl rfl rfl
theorem zd_342_36 : decode prog_14_method_177_code 36 = .ok (.iaload, 1) := zsh_g zdk_342 (r := 9) (k := 0) rfl rfl rfl
theorem zd_342_37 : decode prog_14_method_177_code 37 = .ok (.istore 4, 2) := zsh_g zdk_342 (r := 9) (k := 1) rfl rfl rfl
theorem zd_342_39 : decode prog_14_method_177_code 39 = .ok (.aload_n 0, 1) := zsh_g zdk_342 (r := 9) (k := 2) rfl rfl rfl
theorem zd_342_40 : decode prog_14_method_177_code 40 = .ok (.getfield 416, 3) := zsh_g zdk_342 (r := 10) (k := 0) rfl rfl rfl
theorem zd_342_43 : decode prog_14_method_177_code 43 = .ok (.iload_n 1, 1) := zsh_g zdk_342 (r := 10) (k := 1) rfl rfl rfl
theorem zd_342_44 : decode prog_14_method_177_code 44 = .ok (.iaload, 1) := zsh_g zdk_342 (r := 11) (k := 0) rfl rfl rfl
theorem zd_342_45 : decode prog_14_method_177_code 45 = .ok (.iconst 1, 1) := zsh_g zdk_342 (r := 11) (k := 1) rfl rfl rfl
theorem zd_342_46 : decode prog_14_method_177_code 46 = .ok (.if_icmp .ne 86, 3) := zsh_g zdk_342 (r := 11) (k := 2) rfl rfl rfl
theorem zd_342_49 : decode prog_14_method_177_code 49 = .ok (.aload_n 0, 1) := zsh_g zdk_342 (r := 12) (k := 0) rfl rfl rfl
theorem zd_342_50 : decode prog_14_method_177_code 50 = .ok (.aload_n 0, 1) := zsh_g zdk_342 (r := 12) (k := 1) rfl rfl rfl
theorem zd_342_51 : decode prog_14_method_177_code 51 = .ok (.getfield 419, 3) := zsh_g zdk_342 (r := 12) (k := 2) rfl rfl rfl
theorem zd_342_54 : decode prog_14_method_177_code 54 = .ok (.iload_n 1, 1) := zsh_g zdk_342 (r := 13) (k := 0) rfl rfl rfl
theorem zd_342_55 : decode prog_14_method_177_code 55 = .ok (.iaload, 1) := zsh_g zdk_342 (r := 13) (k := 1) rfl rfl rfl
theorem zd_342_56 : decode prog_14_method_177_code 56 = .ok (.invokevirtual 1299, 3) := zsh_g zdk_342 (r := 14) (k := 0) rfl rfl rfl
theorem zd_342_59 : decode prog_14_method_177_code 59 = .ok (.istore 5, 2) := zsh_g zdk_342 (r := 14) (k := 1) rfl rfl rfl
theorem zd_342_61 : decode prog_14_method_177_code 61 = .ok (.iload 5, 2) := zsh_g zdk_342 (r := 15) (k := 0) rfl rfl rfl
theorem zd_342_63 : decode prog_14_method_177_code 63 = .ok (.ifCond .ge 12, 3) := zsh_g zdk_342 (r := 15) (k := 1) rfl rfl rfl
theorem zd_342_66 : decode prog_14_method_177_code 66 = .ok (.aload_n 0, 1) := zsh_g zdk_342 (r := 16) (k := 0) rfl rfl rfl
theorem zd_342_67 : decode prog_14_method_177_code 67 = .ok (.getfield 419, 3) := zsh_g zdk_342 (r := 16) (k := 1) rfl rfl rfl
theorem zd_342_70 : decode prog_14_method_177_code 70 = .ok (.iload_n 1, 1) := zsh_g zdk_342 (r := 17) (k := 0) rfl rfl rfl
theorem zd_342_71 : decode prog_14_method_177_code 71 = .ok (.iaload, 1) := zsh_g zdk_342 (r := 17) (k := 1) rfl rfl rfl
theorem zd_342_72 : decode prog_14_method_177_code 72 = .ok (.goto 4, 3) := zsh_g zdk_342 (r := 18) (k := 0) rfl rfl rfl
theorem zd_342_75 : decode prog_14_method_177_code 75 = .ok (.iconst (-1), 1) := zsh_g zdk_342 (r := 18) (k := 1) rfl rfl rfl
theorem zd_342_76 : decode prog_14_method_177_code 76 = .ok (.istore_n 2, 1) := zsh_g zdk_342 (r := 19) (k := 0) rfl rfl rfl
theorem zd_342_77 : decode prog_14_method_177_code 77 = .ok (.iload 5, 2) := zsh_g zdk_342 (r := 19) (k := 1) rfl rfl rfl
theorem zd_342_79 : decode prog_14_method_177_code 79 = .ok (.ifCond .ge 7, 3) := zsh_g zdk_342 (r := 19) (k := 2) rfl rfl rfl
theorem zd_342_82 : decode prog_14_method_177_code 82 = .ok (.iconst (-1), 1) := zsh_g zdk_342 (r := 20) (k := 0) rfl rfl rfl
theorem zd_342_83 : decode prog_14_method_177_code 83 = .ok (.goto 19, 3) := zsh_g zdk_342 (r := 20) (k := 1) rfl rfl rfl
theorem zd_342_86 : decode prog_14_method_177_code 86 = .ok (.aload_n 0, 1) := zsh_g zdk_342 (r := 21) (k := 0) rfl rfl rfl
theorem zd_342_87 : decode prog_14_method_177_code 87 = .ok (.getfield 78, 3) := zsh_g zdk_342 (r := 21) (k := 1) rfl rfl rfl
theorem zd_342_90 : decode prog_14_method_177_code 90 = .ok (.sipush 600, 3) := zsh_g zdk_342 (r := 22) (k := 0) rfl rfl rfl
theorem zd_342_93 : decode prog_14_method_177_code 93 = .ok (.aload_n 0, 1) := zsh_g zdk_342 (r := 23) (k := 0) rfl rfl rfl
theorem zd_342_94 : decode prog_14_method_177_code 94 = .ok (.getfield 1174, 3) := zsh_g zdk_342 (r := 23) (k := 1) rfl rfl rfl
theorem zd_342_97 : decode prog_14_method_177_code 97 = .ok (.imul, 1) := zsh_g zdk_342 (r := 24) (k := 0) rfl rfl rfl
theorem zd_342_98 : decode prog_14_method_177_code 98 = .ok (.iload 5, 2) := zsh_g zdk_342 (r := 24) (k := 1) rfl rfl rfl
theorem zd_342_100 : decode prog_14_method_177_code 100 = .ok (.iadd, 1) := zsh_g zdk_342 (r := 25) (k := 0) rfl rfl rfl
theorem zd_342_101 : decode prog_14_method_177_code 101 = .ok (.iaload, 1) := zsh_g zdk_342 (r := 25) (k := 1) rfl rfl rfl
theorem zd_342_102 : decode prog_14_method_177_code 102 = .ok (.istore 4, 2) := zsh_g zdk_342 (r := 25) (k := 2) rfl rfl rfl
theorem zd_342_104 : decode prog_14_method_177_code 104 = .ok (.iload 5, 2) := zsh_g zdk_342 (r := 26) (k := 0) rfl rfl rfl
theorem zd_342_106 : decode prog_14_method_177_code 106 = .ok (.ifCond .ge 7, 3) := zsh_g zdk_342 (r := 26) (k := 1) rfl rfl rfl
theorem zd_342_109 : decode prog_14_method_177_code 109 = .ok (.iload_n 3, 1) := zsh_g zdk_342 (r := 27) (k := 0) rfl rfl rfl
theorem zd_342_110 : decode prog_14_method_177_code 110 = .ok (.goto 21, 3) := zsh_g zdk_342 (r := 27) (k := 1) rfl rfl rfl
theorem zd_342_113 : decode prog_14_method_177_code 113 = .ok (.iload_n 3, 1) := zsh_g zdk_342 (r := 28) (k := 0) rfl rfl rfl
theorem zd_342_114 : decode prog_14_method_177_code 114 = .ok (.aload_n 0, 1) := zsh_g zdk_342 (r := 28) (k := 1) rfl rfl rfl
theorem zd_342_115 : decode prog_14_method_177_code 115 = .ok (.getfield 81, 3) := zsh_g zdk_342 (r := 28) (k := 2) rfl rfl rfl
theorem zd_342_118 : decode prog_14_method_177_code 118 = .ok (.sipush 600, 3) := zsh_g zdk_342 (r := 29) (k := 0) rfl rfl rfl
theorem zd_342_121 : decode prog_14_method_177_code 121 = .ok (.aload_n 0, 1) := zsh_g zdk_342 (r := 30) (k := 0) rfl rfl rfl
theorem zd_342_122 : decode prog_14_method_177_code 122 = .ok (.getfield 1174, 3) := zsh_g zdk_342 (r := 30) (k := 1) rfl rfl rfl
theorem zd_342_125 : decode prog_14_method_177_code 125 = .ok (.imul, 1) := zsh_g zdk_342 (r := 31) (k := 0) rfl rfl rfl
theorem zd_342_126 : decode prog_14_method_177_code 126 = .ok (.iload 5, 2) := zsh_g zdk_342 (r := 31) (k := 1) rfl rfl rfl
theorem zd_342_128 : decode prog_14_method_177_code 128 = .ok (.iadd, 1) := zsh_g zdk_342 (r := 32) (k := 0) rfl rfl rfl
theorem zd_342_129 : decode prog_14_method_177_code 129 = .ok (.iaload, 1) := zsh_g zdk_342 (r := 32) (k := 1) rfl rfl rfl
theorem zd_342_130 : decode prog_14_method_177_code 130 = .ok (.iadd, 1) := zsh_g zdk_342 (r := 32) (k := 2) rfl rfl rfl
theorem zd_342_131 : decode prog_14_method_177_code 131 = .ok (.istore_n 3, 1) := zsh_g zdk_342 (r := 32) (k := 3) rfl rfl rfl
theorem zd_342_132 : decode prog_14_method_177_code 132 = .ok (.aload_n 0, 1) := zsh_g zdk_342 (r := 33) (k := 0) rfl rfl rfl
theorem zd_342_133 : decode prog_14_method_177_code 133 = .ok (.getfield 413, 3) := zsh_g zdk_342 (r := 33) (k := 1) rfl rfl rfl
theorem zd_342_136 : decode prog_14_method_177_code 136 = .ok (.iload_n 1, 1) := zsh_g zdk_342 (r := 34) (k := 0) rfl rfl rfl
theorem zd_342_137 : decode prog_14_method_177_code 137 = .ok (.iaload, 1) := zsh_g zdk_342 (r := 34) (k := 1) rfl rfl rfl
theorem zd_342_138 : decode prog_14_method_177_code 138 = .ok (.iconst 4, 1) := zsh_g zdk_342 (r := 34) (k := 2) rfl rfl rfl
theorem zd_342_139 : decode prog_14_method_177_code 139 = .ok (.if_icmp .ne 115, 3) := zsh_g zdk_342 (r := 34) (k := 3) rfl rfl rfl
theorem zd_342_142 : decode prog_14_method_177_code 142 = .ok (.iload 4, 2) := zsh_g zdk_342 (r := 35) (k := 0) rfl rfl rfl
theorem zd_342_144 : decode prog_14_method_177_code 144 = .ok (.aload_n 0, 1) := zsh_g zdk_342 (r := 36) (k := 0) rfl rfl rfl
theorem zd_342_145 : decode prog_14_method_177_code 145 = .ok (.getfield 407, 3) := zsh_g zdk_342 (r := 36) (k := 1) rfl rfl rfl
theorem zd_342_148 : decode prog_14_method_177_code 148 = .ok (.iload_n 1, 1) := zsh_g zdk_342 (r := 37) (k := 0) rfl rfl rfl
theorem zd_342_149 : decode prog_14_method_177_code 149 = .ok (.iaload, 1) := zsh_g zdk_342 (r := 37) (k := 1) rfl rfl rfl
theorem zd_342_150 : decode prog_14_method_177_code 150 = .ok (.if_icmp .ne 104, 3) := zsh_g zdk_342 (r := 37) (k := 2) rfl rfl rfl
theorem zd_342_153 : decode prog_14_method_177_code 153 = .ok (.iload_n 3, 1) := zsh_g zdk_342 (r := 38) (k := 0) rfl rfl rfl
theorem zd_342_154 : decode prog_14_method_177_code 154 = .ok (.aload_n 0, 1) := zsh_g zdk_342 (r := 38) (k := 1) rfl rfl rfl
theorem zd_342_155 : decode prog_14_method_177_code 155 = .ok (.getfield 410, 3) := zsh_g zdk_342 (r := 38) (k := 2) rfl rfl rfl
theorem zd_342_158 : decode prog_14_method_177_code 158 = .ok (.iload_n 1, 1) := zsh_g zdk_342 (r := 39) (k := 0) rfl rfl rfl
theorem zd_342_159 : decode prog_14_method_177_code 159 = .ok (.iaload, 1) := zsh_g zdk_342 (r := 39) (k := 1) rfl rfl rfl
theorem zd_342_160 : decode prog_14_method_177_code 160 = .ok (.iconst 4, 1) := zsh_g zdk_342 (r := 40) (k := 0) rfl rfl rfl
theorem zd_342_161 : decode prog_14_method_177_code 161 = .ok (.iadd, 1) := zsh_g zdk_342 (r := 40) (k := 1) rfl rfl rfl
theorem zd_342_162 : decode prog_14_method_177_code 162 = .ok (.isub, 1) := zsh_g zdk_342 (r := 40) (k := 2) rfl rfl rfl
theorem zd_342_163 : decode prog_14_method_177_code 163 = .ok (.istore 5, 2) := zsh_g zdk_342 (r := 40) (k := 3) rfl rfl rfl
theorem zd_342_165 : decode prog_14_method_177_code 165 = .ok (.iload 5, 2) := zsh_g zdk_342 (r := 41) (k := 0) rfl rfl rfl
theorem zd_342_167 : decode prog_14_method_177_code 167 = .ok (.iconst 4, 1) := zsh_g zdk_342 (r := 41) (k := 1) rfl rfl rfl
theorem zd_342_168 : decode prog_14_method_177_code 168 = .ok (.irem, 1) := zsh_g zdk_342 (r := 42) (k := 0) rfl rfl rfl
theorem zd_342_169 : decode prog_14_method_177_code 169 = .ok (.ifCond .ne 19, 3) := zsh_g zdk_342 (r := 42) (k := 1) rfl rfl rfl
theorem zd_342_172 : decode prog_14_method_177_code 172 = .ok (.iload 5, 2) := zsh_g zdk_342 (r := 43) (k := 0) rfl rfl rfl
theorem zd_342_174 : decode prog_14_method_177_code 174 = .ok (.iconst 4, 1) := zsh_g zdk_342 (r := 43) (k := 1) rfl rfl rfl
theorem zd_342_175 : decode prog_14_method_177_code 175 = .ok (.idiv, 1) := zsh_g zdk_342 (r := 43) (k := 2) rfl rfl rfl
theorem zd_342_176 : decode prog_14_method_177_code 176 = .ok (.sipush (-32768), 3) := zsh_g zdk_342 (r := 44) (k := 0) rfl rfl rfl
theorem zd_342_179 : decode prog_14_method_177_code 179 = .ok (.sipush 32767, 3) := zsh_g zdk_342 (r := 44) (k := 1) rfl rfl rfl
theorem zd_342_182 : decode prog_14_method_177_code 182 = .ok (.invokestatic 504, 3) := zsh_g zdk_342 (r := 45) (k := 0) rfl rfl rfl
theorem zd_342_185 : decode prog_14_method_177_code 185 = .ok (.ifCond .ne 15, 3) := zsh_g zdk_342 (r := 46) (k := 0) rfl rfl rfl
theorem zd_342_188 : decode prog_14_method_177_code 188 = .ok (.aload_n 0, 1) := zsh_g zdk_342 (r := 47) (k := 0) rfl rfl rfl
theorem zd_342_189 : decode prog_14_method_177_code 189 = .ok (.iconst 3, 1) := zsh_g zdk_342 (r := 47) (k := 1) rfl rfl rfl
theorem zd_342_190 : decode prog_14_method_177_code 190 = .ok (.aload_n 0, 1) := zsh_g zdk_342 (r := 47) (k := 2) rfl rfl rfl
theorem zd_342_191 : decode prog_14_method_177_code 191 = .ok (.getfield 428, 3) := zsh_g zdk_342 (r := 47) (k := 3) rfl rfl rfl
theorem zd_342_194 : decode prog_14_method_177_code 194 = .ok (.iload_n 1, 1) := zsh_g zdk_342 (r := 48) (k := 0) rfl rfl rfl
theorem zd_342_195 : decode prog_14_method_177_code 195 = .ok (.iaload, 1) := zsh_g zdk_342 (r := 48) (k := 1) rfl rfl rfl
theorem zd_342_196 : decode prog_14_method_177_code 196 = .ok (.invokevirtual 1180, 3) := zsh_g zdk_342 (r := 49) (k := 0) rfl rfl rfl
theorem zd_342_200 : decode prog_14_method_177_code 200 = .ok (.aload_n 0, 1) := zsh_g zdk_342 (r := 50) (k := 0) rfl rfl rfl
theorem zd_342_201 : decode prog_14_method_177_code 201 = .ok (.getfield 59, 3) := zsh_g zdk_342 (r := 50) (k := 1) rfl rfl rfl
theorem zd_342_204 : decode prog_14_method_177_code 204 = .ok (.bipush 64, 2) := zsh_g zdk_342 (r := 51) (k := 0) rfl rfl rfl
theorem zd_342_206 : decode prog_14_method_177_code 206 = .ok (.aload_n 0, 1) := zsh_g zdk_342 (r := 51) (k := 1) rfl rfl rfl
theorem zd_342_207 : decode prog_14_method_177_code 207 = .ok (.getfield 1174, 3) := zsh_g zdk_342 (r := 51) (k := 2) rfl rfl rfl
theorem zd_342_210 : decode prog_14_method_177_code 210 = .ok (.imul, 1) := zsh_g zdk_342 (r := 52) (k := 0) rfl rfl rfl
theorem zd_342_211 : decode prog_14_method_177_code 211 = .ok (.iload 4, 2) := zsh_g zdk_342 (r := 52) (k := 1) rfl rfl rfl
theorem zd_342_213 : decode prog_14_method_177_code 213 = .ok (.iadd, 1) := zsh_g zdk_342 (r := 53) (k := 0) rfl rfl rfl
theorem zd_342_214 : decode prog_14_method_177_code 214 = .ok (.iaload, 1) := zsh_g zdk_342 (r := 53) (k := 1) rfl rfl rfl
theorem zd_342_215 : decode prog_14_method_177_code 215 = .ok (.aload_n 0, 1) := zsh_g zdk_342 (r := 53) (k := 2) rfl rfl rfl
theorem zd_342_216 : decode prog_14_method_177_code 216 = .ok (.getfield 410, 3) := zsh_g zdk_342 (r := 54) (k := 0) rfl rfl rfl
theorem zd_342_219 : decode prog_14_method_177_code 219 = .ok (.iload_n 1, 1) := zsh_g zdk_342 (r := 54) (k := 1) rfl rfl rfl
theorem zd_342_220 : decode prog_14_method_177_code 220 = .ok (.iaload, 1) := zsh_g zdk_342 (r := 55) (k := 0) rfl rfl rfl
theorem zd_342_221 : decode prog_14_method_177_code 221 = .ok (.iadd, 1) := zsh_g zdk_342 (r := 55) (k := 1) rfl rfl rfl
theorem zd_342_222 : decode prog_14_method_177_code 222 = .ok (.istore 6, 2) := zsh_g zdk_342 (r := 55) (k := 2) rfl rfl rfl
theorem zd_342_224 : decode prog_14_method_177_code 224 = .ok (.aload_n 0, 1) := zsh_g zdk_342 (r := 56) (k := 0) rfl rfl rfl
theorem zd_342_225 : decode prog_14_method_177_code 225 = .ok (.getfield 69, 3) := zsh_g zdk_342 (r := 56) (k := 1) rfl rfl rfl
theorem zd_342_228 : decode prog_14_method_177_code 228 = .ok (.iload 6, 2) := zsh_g zdk_342 (r := 57) (k := 0) rfl rfl rfl
theorem zd_342_230 : decode prog_14_method_177_code 230 = .ok (.iload 5, 2) := zsh_g zdk_342 (r := 57) (k := 1) rfl rfl rfl
theorem zd_342_232 : decode prog_14_method_177_code 232 = .ok (.iconst 4, 1) := zsh_g zdk_342 (r := 58) (k := 0) rfl rfl rfl
theorem zd_342_233 : decode prog_14_method_177_code 233 = .ok (.idiv, 1) := zsh_g zdk_342 (r := 58) (k := 1) rfl rfl rfl
theorem zd_342_234 : decode prog_14_method_177_code 234 = .ok (.i2b, 1) := zsh_g zdk_342 (r := 58) (k := 2) rfl rfl rfl
theorem zd_342_235 : decode prog_14_method_177_code 235 = .ok (.bastore, 1) := zsh_g zdk_342 (r := 58) (k := 3) rfl rfl rfl
theorem zd_342_236 : decode prog_14_method_177_code 236 = .ok (.aload_n 0, 1) := zsh_g zdk_342 (r := 59) (k := 0) rfl rfl rfl
theorem zd_342_237 : decode prog_14_method_177_code 237 = .ok (.getfield 69, 3) := zsh_g zdk_342 (r := 59) (k := 1) rfl rfl rfl
theorem zd_342_240 : decode prog_14_method_177_code 240 = .ok (.iload 6, 2) := zsh_g zdk_342 (r := 60) (k := 0) rfl rfl rfl
theorem zd_342_242 : decode prog_14_method_177_code 242 = .ok (.iconst 1, 1) := zsh_g zdk_342 (r := 60) (k := 1) rfl rfl rfl
theorem zd_342_243 : decode prog_14_method_177_code 243 = .ok (.iadd, 1) := zsh_g zdk_342 (r := 60) (k := 2) rfl rfl rfl
theorem zd_342_244 : decode prog_14_method_177_code 244 = .ok (.iload 5, 2) := zsh_g zdk_342 (r := 61) (k := 0) rfl rfl rfl
theorem zd_342_246 : decode prog_14_method_177_code 246 = .ok (.iconst 4, 1) := zsh_g zdk_342 (r := 61) (k := 1) rfl rfl rfl
theorem zd_342_247 : decode prog_14_method_177_code 247 = .ok (.idiv, 1) := zsh_g zdk_342 (r := 61) (k := 2) rfl rfl rfl
theorem zd_342_248 : decode prog_14_method_177_code 248 = .ok (.bipush 8, 2) := zsh_g zdk_342 (r := 62) (k := 0) rfl rfl rfl
theorem zd_342_250 : decode prog_14_method_177_code 250 = .ok (.ishr, 1) := zsh_g zdk_342 (r := 62) (k := 1) rfl rfl rfl
theorem zd_342_251 : decode prog_14_method_177_code 251 = .ok (.i2b, 1) := zsh_g zdk_342 (r := 62) (k := 2) rfl rfl rfl
theorem zd_342_252 : decode prog_14_method_177_code 252 = .ok (.bastore, 1) := zsh_g zdk_342 (r := 63) (k := 0) rfl rfl rfl
theorem zd_342_254 : decode prog_14_method_177_code 254 = .ok (.sipush 3000, 3) := zsh_g zdk_342 (r := 63) (k := 1) rfl rfl rfl
theorem zd_342_257 : decode prog_14_method_177_code 257 = .ok (.aload_n 0, 1) := zsh_g zdk_342 (r := 64) (k := 0) rfl rfl rfl
theorem zd_342_258 : decode prog_14_method_177_code 258 = .ok (.getfield 1174, 3) := zsh_g zdk_342 (r := 64) (k := 1) rfl rfl rfl
theorem zd_342_261 : decode prog_14_method_177_code 261 = .ok (.imul, 1) := zsh_g zdk_342 (r := 65) (k := 0) rfl rfl rfl
theorem zd_342_262 : decode prog_14_method_177_code 262 = .ok (.aload_n 0, 1) := zsh_g zdk_342 (r := 65) (k := 1) rfl rfl rfl
theorem zd_342_263 : decode prog_14_method_177_code 263 = .ok (.getfield 93, 3) := zsh_g zdk_342 (r := 65) (k := 2) rfl rfl rfl
theorem zd_342_266 : decode prog_14_method_177_code 266 = .ok (.aload_n 0, 1) := zsh_g zdk_342 (r := 66) (k := 0) rfl rfl rfl
theorem zd_342_267 : decode prog_14_method_177_code 267 = .ok (.getfield 1174, 3) := zsh_g zdk_342 (r := 66) (k := 1) rfl rfl rfl
theorem zd_342_270 : decode prog_14_method_177_code 270 = .ok (.iaload, 1) := zsh_g zdk_342 (r := 67) (k := 0) rfl rfl rfl
theorem zd_342_271 : decode prog_14_method_177_code 271 = .ok (.iadd, 1) := zsh_g zdk_342 (r := 67) (k := 1) rfl rfl rfl
theorem zd_342_272 : decode prog_14_method_177_code 272 = .ok (.istore 5, 2) := zsh_g zdk_342 (r := 68) (k := 0) rfl rfl rfl
theorem zd_342_274 : decode prog_14_method_177_code 274 = .ok (.aload_n 0, 1) := zsh_g zdk_342 (r := 68) (k := 1) rfl rfl rfl
theorem zd_342_275 : decode prog_14_method_177_code 275 = .ok (.getfield 96, 3) := zsh_g zdk_342 (r := 68) (k := 2) rfl rfl rfl
theorem zd_342_278 : decode prog_14_method_177_code 278 = .ok (.iload 5, 2) := zsh_g zdk_342 (r := 69) (k := 0) rfl rfl rfl
theorem zd_342_280 : decode prog_14_method_177_code 280 = .ok (.aload_n 0, 1) := zsh_g zdk_342 (r := 70) (k := 0) rfl rfl rfl
theorem zd_342_281 : decode prog_14_method_177_code 281 = .ok (.getfield 407, 3) := zsh_g zdk_342 (r := 70) (k := 1) rfl rfl rfl
theorem zd_342_284 : decode prog_14_method_177_code 284 = .ok (.iload_n 1, 1) := zsh_g zdk_342 (r := 71) (k := 0) rfl rfl rfl
theorem zd_342_285 : decode prog_14_method_177_code 285 = .ok (.iaload, 1) := zsh_g zdk_342 (r := 71) (k := 1) rfl rfl rfl
theorem zd_342_286 : decode prog_14_method_177_code 286 = .ok (.iastore, 1) := zsh_g zdk_342 (r := 71) (k := 2) rfl rfl rfl
theorem zd_342_287 : decode prog_14_method_177_code 287 = .ok (.aload_n 0, 1) := zsh_g zdk_342 (r := 71) (k := 3) rfl rfl rfl
theorem zd_342_288 : decode prog_14_method_177_code 288 = .ok (.getfield 99, 3) := zsh_g zdk_342 (r := 72) (k := 0) rfl rfl rfl
theorem zd_342_291 : decode prog_14_method_177_code 291 = .ok (.iload 5, 2) := zsh_g zdk_342 (r := 72) (k := 1) rfl rfl rfl
theorem zd_342_293 : decode prog_14_method_177_code 293 = .ok (.aload_n 0, 1) := zsh_g zdk_342 (r := 73) (k := 0) rfl rfl rfl
theorem zd_342_294 : decode prog_14_method_177_code 294 = .ok (.getfield 410, 3) := zsh_g zdk_342 (r := 73) (k := 1) rfl rfl rfl
theorem zd_342_297 : decode prog_14_method_177_code 297 = .ok (.iload_n 1, 1) := zsh_g zdk_342 (r := 74) (k := 0) rfl rfl rfl
theorem zd_342_298 : decode prog_14_method_177_code 298 = .ok (.iaload, 1) := zsh_g zdk_342 (r := 74) (k := 1) rfl rfl rfl
theorem zd_342_299 : decode prog_14_method_177_code 299 = .ok (.iastore, 1) := zsh_g zdk_342 (r := 74) (k := 2) rfl rfl rfl
theorem zd_342_300 : decode prog_14_method_177_code 300 = .ok (.aload_n 0, 1) := zsh_g zdk_342 (r := 75) (k := 0) rfl rfl rfl
theorem zd_342_301 : decode prog_14_method_177_code 301 = .ok (.getfield 102, 3) := zsh_g zdk_342 (r := 75) (k := 1) rfl rfl rfl
theorem zd_342_304 : decode prog_14_method_177_code 304 = .ok (.iload 5, 2) := zsh_g zdk_342 (r := 76) (k := 0) rfl rfl rfl
theorem zd_342_306 : decode prog_14_method_177_code 306 = .ok (.aload_n 0, 1) := zsh_g zdk_342 (r := 76) (k := 1) rfl rfl rfl
theorem zd_342_307 : decode prog_14_method_177_code 307 = .ok (.getfield 413, 3) := zsh_g zdk_342 (r := 76) (k := 2) rfl rfl rfl
theorem zd_342_310 : decode prog_14_method_177_code 310 = .ok (.iload_n 1, 1) := zsh_g zdk_342 (r := 77) (k := 0) rfl rfl rfl
theorem zd_342_311 : decode prog_14_method_177_code 311 = .ok (.iaload, 1) := zsh_g zdk_342 (r := 77) (k := 1) rfl rfl rfl
theorem zd_342_312 : decode prog_14_method_177_code 312 = .ok (.iastore, 1) := zsh_g zdk_342 (r := 78) (k := 0) rfl rfl rfl
theorem zd_342_313 : decode prog_14_method_177_code 313 = .ok (.aload_n 0, 1) := zsh_g zdk_342 (r := 78) (k := 1) rfl rfl rfl
theorem zd_342_314 : decode prog_14_method_177_code 314 = .ok (.getfield 105, 3) := zsh_g zdk_342 (r := 78) (k := 2) rfl rfl rfl
theorem zd_342_317 : decode prog_14_method_177_code 317 = .ok (.iload 5, 2) := zsh_g zdk_342 (r := 79) (k := 0) rfl rfl rfl
theorem zd_342_319 : decode prog_14_method_177_code 319 = .ok (.iload 4, 2) := zsh_g zdk_342 (r := 79) (k := 1) rfl rfl rfl
theorem zd_342_321 : decode prog_14_method_177_code 321 = .ok (.iastore, 1) := zsh_g zdk_342 (r := 80) (k := 0) rfl rfl rfl
theorem zd_342_322 : decode prog_14_method_177_code 322 = .ok (.aload_n 0, 1) := zsh_g zdk_342 (r := 80) (k := 1) rfl rfl rfl
theorem zd_342_323 : decode prog_14_method_177_code 323 = .ok (.getfield 108, 3) := zsh_g zdk_342 (r := 80) (k := 2) rfl rfl rfl
theorem zd_342_326 : decode prog_14_method_177_code 326 = .ok (.iload 5, 2) := zsh_g zdk_342 (r := 81) (k := 0) rfl rfl rfl
theorem zd_342_328 : decode prog_14_method_177_code 328 = .ok (.iload_n 3, 1) := zsh_g zdk_342 (r := 82) (k := 0) rfl rfl rfl
theorem zd_342_329 : decode prog_14_method_177_code 329 = .ok (.iastore, 1) := zsh_g zdk_342 (r := 82) (k := 1) rfl rfl rfl
theorem zd_342_330 : decode prog_14_method_177_code 330 = .ok (.aload_n 0, 1) := zsh_g zdk_342 (r := 82) (k := 2) rfl rfl rfl
theorem zd_342_331 : decode prog_14_method_177_code 331 = .ok (.getfield 111, 3) := zsh_g zdk_342 (r := 82) (k := 3) rfl rfl rfl
theorem zd_342_334 : decode prog_14_method_177_code 334 = .ok (.iload 5, 2) := zsh_g zdk_342 (r := 83) (k := 0) rfl rfl rfl
theorem zd_342_336 : decode prog_14_method_177_code 336 = .ok (.iload_n 2, 1) := zsh_g zdk_342 (r := 84) (k := 0) rfl rfl rfl
theorem zd_342_337 : decode prog_14_method_177_code 337 = .ok (.iastore, 1) := zsh_g zdk_342 (r := 84) (k := 1) rfl rfl rfl
theorem zd_342_338 : decode prog_14_method_177_code 338 = .ok (.aload_n 0, 1) := zsh_g zdk_342 (r := 84) (k := 2) rfl rfl rfl
theorem zd_342_339 : decode prog_14_method_177_code 339 = .ok (.getfield 114, 3) := zsh_g zdk_342 (r := 84) (k := 3) rfl rfl rfl
theorem zd_342_342 : decode prog_14_method_177_code 342 = .ok (.iload 5, 2) := zsh_g zdk_342 (r := 85) (k := 0) rfl rfl rfl
theorem zd_342_344 : decode prog_14_method_177_code 344 = .ok (.aload_n 0, 1) := zsh_g zdk_342 (r := 86) (k := 0) rfl rfl rfl
theorem zd_342_345 : decode prog_14_method_177_code 345 = .ok (.getfield 428, 3) := zsh_g zdk_342 (r := 86) (k := 1) rfl rfl rfl
theorem zd_342_348 : decode prog_14_method_177_code 348 = .ok (.iload_n 1, 1) := zsh_g zdk_342 (r := 87) (k := 0) rfl rfl rfl
theorem zd_342_349 : decode prog_14_method_177_code 349 = .ok (.iaload, 1) := zsh_g zdk_342 (r := 87) (k := 1) rfl rfl rfl
theorem zd_342_350 : decode prog_14_method_177_code 350 = .ok (.iastore, 1) := zsh_g zdk_342 (r := 87) (k := 2) rfl rfl rfl
theorem zd_342_351 : decode prog_14_method_177_code 351 = .ok (.aload_n 0, 1) := zsh_g zdk_342 (r := 87) (k := 3) rfl rfl rfl
theorem zd_342_352 : decode prog_14_method_177_code 352 = .ok (.getfield 93, 3) := zsh_g zdk_342 (r := 88) (k := 0) rfl rfl rfl
theorem zd_342_355 : decode prog_14_method_177_code 355 = .ok (.aload_n 0, 1) := zsh_g zdk_342 (r := 88) (k := 1) rfl rfl rfl
theorem zd_342_356 : decode prog_14_method_177_code 356 = .ok (.getfield 1174, 3) := zsh_g zdk_342 (r := 89) (k := 0) rfl rfl rfl
theorem zd_342_359 : decode prog_14_method_177_code 359 = .ok (.dup2, 1) := zsh_g zdk_342 (r := 89) (k := 1) rfl rfl rfl
theorem zd_342_360 : decode prog_14_method_177_code 360 = .ok (.iaload, 1) := zsh_g zdk_342 (r := 90) (k := 0) rfl rfl rfl
theorem zd_342_361 : decode prog_14_method_177_code 361 = .ok (.iconst 1, 1) := zsh_g zdk_342 (r := 90) (k := 1) rfl rfl rfl
theorem zd_342_362 : decode prog_14_method_177_code 362 = .ok (.iadd, 1) := zsh_g zdk_342 (r := 90) (k := 2) rfl rfl rfl
theorem zd_342_363 : decode prog_14_method_177_code 363 = .ok (.iastore, 1) := zsh_g zdk_342 (r := 90) (k := 3) rfl rfl rfl
def zdl_343 : List (List (Nat × Instr × Nat)) := [[(0, (.iconst (-1)), 1), (1, (.istore_n 2), 1), (2, (.iconst 0), 1), (3, (.istore_n 3), 1)], [(0, (.iload_n 3), 1), (1, (.aload_n 0), 1), (2, (.getfield 1389), 3)], [(1, (.if_icmp .ge 25), 3)], [(0, (.aload_n 0), 1), (1, (.getfield 371), 3)], [(0, (.iload_n 3), 1), (1, .iaload, 1), (2, (.iload_n 1), 1), (3, (.if_icmp .ne 7), 3)], [(2, (.iload_n 3), 1), (3, (.goto 4), 3)], [(2, (.iload_n 2), 1), (3, (.istore_n 2), 1)], [(0, (.iinc 3 1), 3), (3, (.goto (-27)), 3)], [(2, (.iload_n 2), 1)]]
theorem zdk_343 : zsh_all 8 zdl_343 prog_14_method_151_code.data.toList = true := by decide +kernel
theorem zd_343_0 : decode prog_14_method_151_code 0 = .ok (.iconst (-1), 1) := zsh_g zdk_343 (r := 0) (k := 0) rfl rfl rfl
theorem zd_343_1 : decode prog_14_method_151_code 1 = .ok (.istore_n 2, 1) := zsh_g zdk_343 (r := 0) (k := 1) rfl rfl rfl
theorem zd_343_2 : decode prog_14_method_151_code 2 = .ok (.iconst 0, 1) := zsh_g zdk_343 (r := 0) (k := 2) rfl rfl rfl
theorem zd_343_3 : decode prog_14_method_151_code 3 = .ok (.istore_n 3, 1) := zsh_g zdk_343 (r := 0) (k := 3) rfl rfl rfl
theorem zd_343_4 : decode prog_14_method_151_code 4 = .ok (.iload_n 3, 1) := zsh_g zdk_343 (r := 1) (k := 0) rfl rfl rfl
theorem zd_343_5 : decode prog_14_method_151_code 5 = .ok (.aload_n 0, 1) := zsh_g zdk_343 (r := 1) (k := 1) rfl rfl rfl
theorem zd_343_6 : decode prog_14_method_151_code 6 = .ok (.getfield 1389, 3) := zsh_g zdk_343 (r := 1) (k := 2) rfl rfl rfl
theorem zd_343_9 : decode prog_14_method_151_code 9 = .ok (.if_icmp .ge 25, 3) := zsh_g zdk_343 (r := 2) (k := 0) rfl rfl rfl
theorem zd_343_12 : decode prog_14_method_151_code 12 = .ok (.aload_n 0, 1) := zsh_g zdk_343 (r := 3) (k := 0) rfl rfl rfl
theorem zd_343_13 : decode prog_14_method_151_code 13 = .ok (.getfield 371, 3) := zsh_g zdk_343 (r := 3) (k := 1) rfl rfl rfl
theorem zd_343_16 : decode prog_14_method_151_code 16 = .ok (.iload_n 3, 1) := zsh_g zdk_343 (r := 4) (k := 0) rfl rfl rfl
theorem zd_343_17 : decode prog_14_method_151_code 17 = .ok (.iaload, 1) := zsh_g zdk_343 (r := 4) (k := 1) rfl rfl rfl
theorem zd_343_18 : decode prog_14_method_151_code 18 = .ok (.iload_n 1, 1) := zsh_g zdk_343 (r := 4) (k := 2) rfl rfl rfl
theorem zd_343_19 : decode prog_14_method_151_code 19 = .ok (.if_icmp .ne 7, 3) := zsh_g zdk_343 (r := 4) (k := 3) rfl rfl rfl
theorem zd_343_22 : decode prog_14_method_151_code 22 = .ok (.iload_n 3, 1) := zsh_g zdk_343 (r := 5) (k := 0) rfl rfl rfl
theorem zd_343_23 : decode prog_14_method_151_code 23 = .ok (.goto 4, 3) := zsh_g zdk_343 (r := 5) (k := 1) rfl rfl rfl
theorem zd_343_26 : decode prog_14_method_151_code 26 = .ok (.iload_n 2, 1) := zsh_g zdk_343 (r := 6) (k := 0) rfl rfl rfl
theorem zd_343_27 : decode prog_14_method_151_code 27 = .ok (.istore_n 2, 1) := zsh_g zdk_343 (r := 6) (k := 1) rfl rfl rfl
theorem zd_343_28 : decode prog_14_method_151_code 28 = .ok (.iinc 3 1, 3) := zsh_g zdk_343 (r := 7) (k := 0) rfl rfl rfl
theorem zd_343_31 : decode prog_14_method_151_code 31 = .ok (.goto (-27), 3) := zsh_g zdk_343 (r := 7) (k := 1) rfl rfl rfl
theorem zd_343_34 : decode prog_14_method_151_code 34 = .ok (.iload_n 2, 1) := zsh_g zdk_343 (r := 8) (k := 0) rfl rfl rfl
def zdl_344 : List (List (Nat × Instr × Nat)) := [[(0, (.iconst 0), 1), (1, (.istore_n 2), 1), (2, (.iconst 0), 1), (3, (.istore_n 3), 1)], [(0, (.iload_n 3), 1), (1, (.aload_n 0), 1), (2, (.getfield 1392), 3)], [(1, (.if_icmp .ge 29), 3)], [(0, (.iload_n 2), 1), (1, (.ifCond .ne 13), 3)], [(0, (.aload_n 0), 1), (1, (.getfield 368), 3)], [(0, (.iload_n 3), 1), (1, .iaload, 1), (2, (.iload_n 1), 1), (3, (.if_icmp .ne 7), 3)], [(2, (.iconst 1), 1), (3, (.goto 4), 3)], [(2, (.iconst 0), 1), (3, (.istore_n 2), 1)], [(0, (.iinc 3 1), 3), (3, (.goto (-31)), 3)], [(2, (.iload_n 2), 1)]]
theorem zdk_344 : zsh_all 8 zdl_344 prog_14_method_152_code.data.toList = true := by decide +kernel
theorem zd_344_0 : decode prog_14_method_152_code 0 = .ok (.iconst 0, 1) := zsh_g zdk_344 (r := 0) (k := 0) rfl rfl rfl
theorem zd_344_1 : decode prog_14_method_152_code 1 = .ok (.istore_n 2, 1) := zsh_g zdk_344 (r := 0) (k := 1) rfl rfl rfl
theorem zd_344_2 : decode prog_14_method_152_code 2 = .ok (.iconst 0, 1) := zsh_g zdk_344 (r := 0) (k := 2) rfl rfl rfl
theorem zd_344_3 : decode prog_14_method_152_code 3 = .ok (.istore_n 3, 1) := zsh_g zdk_344 (r := 0) (k := 3) rfl rfl rfl
theorem zd_344_4 : decode prog_14_method_152_code 4 = .ok (.iload_n 3, 1) := zsh_g zdk_344 (r := 1) (k := 0) rfl rfl rfl
theorem zd_344_5 : decode prog_14_method_152_code 5 = .ok (.aload_n 0, 1) := zsh_g zdk_344 (r := 1) (k := 1) rfl rfl rfl
theorem zd_344_6 : decode prog_14_method_152_code 6 = .ok (.getfield 1392, 3) := zsh_g zdk_344 (r := 1) (k := 2) rfl rfl rfl
theorem zd_344_9 : decode prog_14_method_152_code 9 = .ok (.if_icmp .ge 29, 3) := zsh_g zdk_344 (r := 2) (k := 0) rfl rfl rfl
theorem zd_344_12 : decode prog_14_method_152_code 12 = .ok (.iload_n 2, 1) := zsh_g zdk_344 (r := 3) (k := 0) rfl rfl rfl
theorem zd_344_13 : decode prog_14_method_152_code 13 = .ok (.ifCond .ne 13, 3) := zsh_g zdk_344 (r := 3) (k := 1) rfl rfl rfl
theorem zd_344_16 : decode prog_14_method_152_code 16 = .ok (.aload_n 0, 1) := zsh_g zdk_344 (r := 4) (k := 0) rfl rfl rfl
theorem zd_344_17 : decode prog_14_method_152_code 17 = .ok (.getfield 368, 3) := zsh_g zdk_344 (r := 4) (k := 1) rfl rfl rfl
theorem zd_344_20 : decode prog_14_method_152_code 20 = .ok (.iload_n 3, 1) := zsh_g zdk_344 (r := 5) (k := 0) rfl rfl rfl
theorem zd_344_21 : decode prog_14_method_152_code 21 = .ok (.iaload, 1) := zsh_g zdk_344 (r := 5) (k := 1) rfl rfl rfl
theorem zd_344_22 : decode prog_14_method_152_code 22 = .ok (.iload_n 1, 1) := zsh_g zdk_344 (r := 5) (k := 2) rfl rfl rfl
theorem zd_344_23 : decode prog_14_method_152_code 23 = .ok (.if_icmp .ne 7, 3) := zsh_g zdk_344 (r := 5) (k := 3) rfl rfl rfl
theorem zd_344_26 : decode prog_14_method_152_code 26 = .ok (.iconst 1, 1) := zsh_g zdk_344 (r := 6) (k := 0) rfl rfl rfl
theorem zd_344_27 : decode prog_14_method_152_code 27 = .ok (.goto 4, 3) := zsh_g zdk_344 (r := 6) (k := 1) rfl rfl rfl
theorem zd_344_30 : decode prog_14_method_152_code 30 = .ok (.iconst 0, 1) := zsh_g zdk_344 (r := 7) (k := 0) rfl rfl rfl
theorem zd_344_31 : decode prog_14_method_152_code 31 = .ok (.istore_n 2, 1) := zsh_g zdk_344 (r := 7) (k := 1) rfl rfl rfl
theorem zd_344_32 : decode prog_14_method_152_code 32 = .ok (.iinc 3 1, 3) := zsh_g zdk_344 (r := 8) (k := 0) rfl rfl rfl
theorem zd_344_35 : decode prog_14_method_152_code 35 = .ok (.goto (-31), 3) := zsh_g zdk_344 (r := 8) (k := 1) rfl rfl rfl
theorem zd_344_38 : decode prog_14_method_152_code 38 = .ok (.iload_n 2, 1) := zsh_g zdk_344 (r := 9) (k := 0) rfl rfl rfl
def zdl_345 : List (List (Nat × Instr × Nat)) := [[(0, (.aload_n 0), 1), (1, (.getfield 105), 3)], [(0, (.iload_n 1), 1), (1, .iaload, 1), (2, (.ifCond .lt 21), 3)], [(1, (.aload_n 0), 1), (2, (.getfield 62), 3)], [(1, (.aload_n 0), 1), (2, (.iload_n 1), 1), (3, (.invokevirtual 1588), 3)], [(2, .iaload, 1), (3, (.aload_n 0), 1)], [(0, (.getfield 108), 3), (3, (.iload_n 1), 1)], [(0, .iaload, 1), (1, .iadd, 1), (3, (.aload_n 0), 1)], [(0, (.getfield 62), 3), (3, (.aload_n 0), 1)], [(0, (.iload_n 1), 1), (1, (.invokevirtual 1588), 3)], [(0, .iaload, 1), (1, (.aload_n 0), 1), (2, (.getfield 81), 3)], [(1, (.aload_n 0), 1), (2, (.aload_n 0), 1), (3, (.getfield 111), 3)], [(2, (.iload_n 1), 1), (3, .iaload, 1)], [(0, (.invokevirtual 1585), 3), (3, .iaload, 1)], [(0, .iadd, 1), (1, (.aload_n 0), 1), (2, (.getfield 108), 3)], [(1, (.iload_n 1), 1), (2, .iaload, 1), (3, .iadd, 1)]]
theorem zdk_345 : zsh_all 8 zdl_345 prog_14_method_194_code.data.toList = true := by decide +kernel
theorem zd_345_0 : decode prog_14_method_194_code 0 = .ok (.aload_n 0, 1) := zsh_g zdk_345 (r := 0) (k := 0) rfl rfl rfl
theorem zd_345_1 : decode prog_14_method_194_code 1 = .ok (.getfield 105, 3) := zsh_g zdk_345 (r := 0) (k := 1) rfl rfl rfl
theorem zd_345_4 : decode prog_14_method_194_code 4 = .ok (.iload_n 1, 1) := zsh_g zdk_345 (r := 1) (k := 0) rfl rfl rfl
theorem zd_345_5 : decode prog_14_method_194_code 5 = .ok (.iaload, 1) := zsh_g zdk_345 (r := 1) (k := 1) rfl rfl rfl
theorem zd_345_6 : decode prog_14_method_194_code 6 = .ok (.ifCond .lt 21, 3) := zsh_g zdk_345 (r := 1) (k := 2) rfl rfl rfl
theorem zd_345_9 : decode prog_14_method_194_code 9 = .ok (.aload_n 0, 1) := zsh_g zdk_345 (r := 2) (k := 0) rfl rfl rfl
theorem zd_345_10 : decode prog_14_method_194_code 10 = .ok (.getfield 62, 3) := zsh_g zdk_345 (r := 2) (k := 1) rfl rfl rfl
theorem zd_345_13 : decode prog_14_method_194_code 13 = .ok (.aload_n 0, 1) := zsh_g zdk_345 (r := 3) (k := 0) rfl rfl rfl
theorem zd_345_14 : decode prog_14_method_194_code 14 = .ok (.iload_n 1, 1) := zsh_g zdk_345 (r := 3) (k := 1) rfl rfl rfl
theorem zd_345_15 : decode prog_14_method_194_code 15 = .ok (.invokevirtual 1588, 3) := zsh_g zdk_345 (r := 3) (k := 2) rfl rfl rfl
theorem zd_345_18 : decode prog_14_method_194_code 18 = .ok (.iaload, 1) := zsh_g zdk_345 (r := 4) (k := 0) rfl rfl rfl
theorem zd_345_19 : decode prog_14_method_194_code 19 = .ok (.aload_n 0, 1) := zsh_g zdk_345 (r := 4) (k := 1) rfl rfl rfl
theorem zd_345_20 : decode prog_14_method_194_code 20 = .ok (.getfield 108, 3) := zsh_g zdk_345 (r := 5) (k := 0) rfl rfl rfl
theorem zd_345_23 : decode prog_14_method_194_code 23 = .ok (.iload_n 1, 1) := zsh_g zdk_345 (r := 5) (k := 1) rfl rfl rfl
theorem zd_345_24 : decode prog_14_method_194_code 24 = .ok (.iaload, 1) := zsh_g zdk_345 (r := 6) (k := 0) rfl rfl rfl
theorem zd_345_25 : decode prog_14_method_194_code 25 = .ok (.iadd, 1) := zsh_g zdk_345 (r := 6) (k := 1) rfl rfl rfl
theorem zd_345_27 : decode prog_14_method_194_code 27 = .ok (.aload_n 0, 1) := zsh_g zdk_345 (r := 6) (k := 2) rfl rfl rfl
theorem zd_345_28 : decode prog_14_method_194_code 28 = .ok (.getfield 62, 3) := zsh_g zdk_345 (r := 7) (k := 0) rfl rfl rfl
theorem zd_345_31 : decode prog_14_method_194_code 31 = .ok (.aload_n 0, 1) := zsh_g zdk_345 (r := 7) (k := 1) rfl rfl rfl
theorem zd_345_32 : decode prog_14_method_194_code 32 = .ok (.iload_n 1, 1) := zsh_g zdk_345 (r := 8) (k := 0) rfl rfl rfl
theorem zd_345_33 : decode prog_14_method_194_code 33 = .ok (.invokevirtual 1588, 3) := zsh_g zdk_345 (r := 8) (k := 1) rfl rfl rfl
theorem zd_345_36 : decode prog_14_method_194_code 36 = .ok (.iaload, 1) := zsh_g zdk_345 (r := 9) (k := 0) rfl rfl rfl
theorem zd_345_37 : decode prog_14_method_194_code 37 = .ok (.aload_n 0, 1) := zsh_g zdk_345 (r := 9) (k := 1) rfl rfl rfl
theorem zd_345_38 : decode prog_14_method_194_code 38 = .ok (.getfield 81, 3) := zsh_g zdk_345 (r := 9) (k := 2) rfl rfl rfl
theorem zd_345_41 : decode prog_14_method_194_code 41 = .ok (.aload_n 0, 1) := zsh_g zdk_345 (r := 10) (k := 0) rfl rfl rfl
theorem zd_345_42 : decode prog_14_method_194_code 42 = .ok (.aload_n 0, 1) := zsh_g zdk_345 (r := 10) (k := 1) rfl rfl rfl
theorem zd_345_43 : decode prog_14_method_194_code 43 = .ok (.getfield 111, 3) := zsh_g zdk_345 (r := 10) (k := 2) rfl rfl rfl
theorem zd_345_46 : decode prog_14_method_194_code 46 = .ok (.iload_n 1, 1) := zsh_g zdk_345 (r := 11) (k := 0) rfl rfl rfl
theorem zd_345_47 : decode prog_14_method_194_code 47 = .ok (.iaload, 1) := zsh_g zdk_345 (r := 11) (k := 1) rfl rfl rfl
theorem zd_345_48 : decode prog_14_method_194_code 48 = .ok (.invokevirtual 1585, 3) := zsh_g zdk_345 (r := 12) (k := 0) rfl rfl rfl
theorem zd_345_51 : decode prog_14_method_194_code 51 = .ok (.iaload, 1) := zsh_g zdk_345 (r := 12) (k := 1) rfl rfl rfl
theorem zd_345_52 : decode prog_14_method_194_code 52 = .ok (.iadd, 1) := zsh_g zdk_345 (r := 13) (k := 0) rfl rfl rfl
theorem zd_345_53 : decode prog_14_method_194_code 53 = .ok (.aload_n 0, 1) := zsh_g zdk_345 (r := 13) (k := 1) rfl rfl rfl
theorem zd_345_54 : decode prog_14_method_194_code 54 = .ok (.getfield 108, 3) := zsh_g zdk_345 (r := 13) (k := 2) rfl rfl rfl
theorem zd_345_57 : decode prog_14_method_194_code 57 = .ok (.iload_n 1, 1) := zsh_g zdk_345 (r := 14) (k := 0) rfl rfl rfl
theorem zd_345_58 : decode prog_14_method_194_code 58 = .ok (.iaload, 1) := zsh_g zdk_345 (r := 14) (k := 1) rfl rfl rfl
theorem zd_345_59 : decode prog_14_method_194_code 59 = .ok (.iadd, 1) := zsh_g zdk_345 (r := 14) (k := 2) rfl rfl rfl
def zdl_346 : List (List (Nat × Instr × Nat)) := [[(0, (.aload_n 0), 1), (1, (.getfield 452), 3)], [(0, (.iload_n 1), 1), (1, (.iload_n 2), 1), (2, .i2b, 1), (3, .bastore, 1)], [(0, (.aload_n 0), 1), (1, (.getfield 452), 3)], [(0, (.iload_n 1), 1), (1, (.iconst 1), 1), (2, .iadd, 1), (3, (.iload_n 2), 1)], [(0, (.bipush 8), 2), (2, .ishr, 1), (3, .i2b, 1)], [(0, .bastore, 1)]]
theorem zdk_346 : zsh_all 8 zdl_346 prog_14_method_202_code.data.toList = true := by decide +kernel
theorem zd_346_0 : decode prog_14_method_202_code 0 = .ok (.aload_n 0, 1) := zsh_g zdk_346 (r := 0) (k := 0) rfl rfl rfl
theorem zd_346_1 : decode prog_14_method_202_code 1 = .ok (.getfield 452, 3) := zsh_g zdk_346 (r := 0) (k := 1) rfl rfl rfl
theorem zd_346_4 : decode prog_14_method_202_code 4 = .ok (.iload_n 1, 1) := zsh_g zdk_346 (r := 1) (k := 0) rfl rfl rfl
theorem zd_346_5 : decode prog_14_method_202_code 5 = .ok (.iload_n 2, 1) := zsh_g zdk_346 (r := 1) (k := 1) rfl rfl rfl
theorem zd_346_6 : decode prog_14_method_202_code 6 = .ok (.i2b, 1) := zsh_g zdk_346 (r := 1) (k := 2) rfl rfl rfl
theorem zd_346_7 : decode prog_14_method_202_code 7 = .ok (.bastore, 1) := zsh_g zdk_346 (r := 1) (k := 3) rfl rfl rfl
theorem zd_346_8 : decode prog_14_method_202_code 8 = .ok (.aload_n 0, 1) := zsh_g zdk_346 (r := 2) (k := 0) rfl rfl rfl
theorem zd_346_9 : decode prog_14_method_202_code 9 = .ok (.getfield 452, 3) := zsh_g zdk_346 (r := 2) (k := 1) rfl rfl rfl
theorem zd_346_12 : decode prog_14_method_202_code 12 = .ok (.iload_n 1, 1) := zsh_g zdk_346 (r := 3) (k := 0) rfl rfl rfl
theorem zd_346_13 : decode prog_14_method_202_code 13 = .ok (.iconst 1, 1) := zsh_g zdk_346 (r := 3) (k := 1) rfl rfl rfl
theorem zd_346_14 : decode prog_14_method_202_code 14 = .ok (.iadd, 1) := zsh_g zdk_346 (r := 3) (k := 2) rfl rfl rfl
theorem zd_346_15 : decode prog_14_method_202_code 15 = .ok (.iload_n 2, 1) := zsh_g zdk_346 (r := 3) (k := 3) rfl rfl rfl
theorem zd_346_16 : decode prog_14_method_202_code 16 = .ok (.bipush 8, 2) := zsh_g zdk_346 (r := 4) (k := 0) rfl rfl rfl
theorem zd_346_18 : decode prog_14_method_202_code 18 = .ok (.ishr, 1) := zsh_g zdk_346 (r := 4) (k := 1) rfl rfl rfl
theorem zd_346_19 : decode prog_14_method_202_code 19 = .ok (.i2b, 1) := zsh_g zdk_346 (r := 4) (k := 2) rfl rfl rfl
theorem zd_346_20 : decode prog_14_method_202_code 20 = .ok (.bastore, 1) := zsh_g zdk_346 (r := 5) (k := 0) rfl rfl rfl
def zdl_347 : List (List (Nat × Instr × Nat)) := [[(0, (.iload_n 1), 1), (1, (.ifCond .le 10), 3)], [(0, (.aload_n 0), 1), (1, (.getfield 458), 3)], [(0, (.iload_n 1), 1), (1, (.iload_n 2), 1), (2, .iastore, 1)]]
theorem zdk_347 : zsh_all 8 zdl_347 prog_14_method_214_code.data.toList = true := by decide +kernel
theorem zd_347_0 : decode prog_14_method_214_code 0 = .ok (.iload_n 1, 1) := zsh_g zdk_347 (r := 0) (k := 0) rfl rfl rfl
theorem zd_347_1 : decode prog_14_method_214_code 1 = .ok (.ifCond .le 10, 3) := zsh_g zdk_347 (r := 0) (k := 1) rfl rfl rfl
theorem zd_347_4 : decode prog_14_method_214_code 4 = .ok (.aload_n 0, 1) := zsh_g zdk_347 (r := 1) (k := 0) rfl rfl rfl
theorem zd_347_5 : decode prog_14_method_214_code 5 = .ok (.getfield 458, 3) := zsh_g zdk_347 (r := 1) (k := 1) rfl rfl rfl
theorem zd_347_8 : decode prog_14_method_214_code 8 = .ok (.iload_n 1, 1) := zsh_g zdk_347 (r := 2) (k := 0) rfl rfl rfl
theorem zd_347_9 : decode prog_14_method_214_code 9 = .ok (.iload_n 2, 1) := zsh_g zdk_347 (r := 2) (k := 1) rfl rfl rfl
theorem zd_347_10 : decode prog_14_method_214_code 10 = .ok (.iastore, 1) := zsh_g zdk_347 (r := 2) (k := 2) rfl rfl rfl
def zdl_348 : List (List (Nat × Instr × Nat)) := [[(0, (.aload_n 0), 1), (1, (.iload_n 1), 1), (2, (.iload_n 2), 1), (3, (.invokevirtual 1680), 3)], [(2, (.ifCond .ne 11), 3)], [(1, (.aload_n 0), 1), (2, (.iconst 3), 1), (3, (.iload_n 1), 1)], [(0, (.invokevirtual 1684), 3), (3, (.iconst 0), 1)], [(1, (.iload_n 1), 1), (2, (.aload_n 0), 1), (3, (.getfield 1632), 3)], [(2, (.if_icmp .ge 11), 3)], [(1, (.aload_n 0), 1), (2, (.iconst 4), 1), (3, (.iload_n 1), 1)], [(0, (.invokevirtual 1684), 3), (3, (.iconst 0), 1)], [(1, (.iconst 1), 1)]]
theorem zdk_348 : zsh_all 8 zdl_348 prog_14_method_215_code.data.toList = true := by decide +kernel
theorem zd_348_0 : decode prog_14_method_215_code 0 = .ok (.aload_n 0, 1) := zsh_g zdk_348 (r := 0) (k := 0) rfl rfl rfl
theorem zd_348_1 : decode prog_14_method_215_code 1 = .ok (.iload_n 1, 1) := zsh_g zdk_348 (r := 0) (k := 1) rfl rfl rfl
theorem zd_348_2 : decode prog_14_method_215_code 2 = .ok (.iload_n 2, 1) := zsh_g zdk_348 (r := 0) (k := 2) rfl rfl rfl
theorem zd_348_3 : decode prog_14_method_215_code 3 = .ok (.invokevirtual 1680, 3) := zsh_g zdk_348 (r := 0) (k := 3) rfl rfl rfl
theorem zd_348_6 : decode prog_14_method_215_code 6 = .ok (.ifCond .ne 11, 3) := zsh_g zdk_348 (r := 1) (k := 0) rfl rfl rfl
theorem zd_348_9 : decode prog_14_method_215_code 9 = .ok (.aload_n 0, 1) := zsh_g zdk_348 (r := 2) (k := 0) rfl rfl rfl
theorem zd_348_10 : decode prog_14_method_215_code 10 = .ok (.iconst 3, 1) := zsh_g zdk_348 (r := 2) (k := 1) rfl rfl rfl
theorem zd_348_11 : decode prog_14_method_215_code 11 = .ok (.iload_n 1, 1) := zsh_g zdk_348 (r := 2) (k := 2) rfl rfl rfl
theorem zd_348_12 : decode prog_14_method_215_code 12 = .ok (.invokevirtual 1684, 3) := zsh_g zdk_348 (r := 3) (k := 0) rfl rfl rfl
theorem zd_348_15 : decode prog_14_method_215_code 15 = .ok (.iconst 0, 1) := zsh_g zdk_348 (r := 3) (k := 1) rfl rfl rfl
theorem zd_348_17 : decode prog_14_method_215_code 17 = .ok (.iload_n 1, 1) := zsh_g zdk_348 (r := 4) (k := 0) rfl rfl rfl
theorem zd_348_18 : decode prog_14_method_215_code 18 = .ok (.aload_n 0, 1) := zsh_g zdk_348 (r := 4) (k := 1) rfl rfl rfl
theorem zd_348_19 : decode prog_14_method_215_code 19 = .ok (.getfield 1632, 3) := zsh_g zdk_348 (r := 4) (k := 2) rfl rfl rfl
theorem zd_348_22 : decode prog_14_method_215_code 22 = .ok (.if_icmp .ge 11, 3) := zsh_g zdk_348 (r := 5) (k := 0) rfl rfl rfl
theorem zd_348_25 : decode prog_14_method_215_code 25 = .ok (.aload_n 0, 1) := zsh_g zdk_348 (r := 6) (k := 0) rfl rfl rfl
theorem zd_348_26 : decode prog_14_method_215_code 26 = .ok (.iconst 4, 1) := zsh_g zdk_348 (r := 6) (k := 1) rfl rfl rfl
theorem zd_348_27 : decode prog_14_method_215_code 27 = .ok (.iload_n 1, 1) := zsh_g zdk_348 (r := 6) (k := 2) rfl rfl rfl
theorem zd_348_28 : decode prog_14_method_215_code 28 = .ok (.invokevirtual 1684, 3) := zsh_g zdk_348 (r := 7) (k := 0) rfl rfl rfl
theorem zd_348_31 : decode prog_14_method_215_code 31 = .ok (.iconst 0, 1) := zsh_g zdk_348 (r := 7) (k := 1) rfl rfl rfl
theorem zd_348_33 : decode prog_14_method_215_code 33 = .ok (.iconst 1, 1) := zsh_g zdk_348 (r := 8) (k := 0) rfl rfl rfl
def zdl_349 : List (List (Nat × Instr × Nat)) := [[(0, (.iload_n 1), 1)], [], [], [], [], [], [], [], [], [], [], [(0, (.aload_n 0), 1), (1, (.iload_n 2), 1), (2, (.iload_n 3), 1), (3, (.iload_n 1), 1)], [(0, (.bipush 15), 2), (2, (.if_icmp .ne 7), 3)], [(1, (.iconst 1), 1), (2, (.goto 4), 3)], [(1, (.iconst 0), 1), (2, (.invokevirtual 1699), 3)], [(1, (.goto 62), 3)], [(0, (.aload_n 0), 1), (1, (.iload_n 2), 1), (2, (.iload_n 3), 1), (3, (.iload_n 1), 1)], [(0, (.bipush 17), 2), (2, (.if_icmp .ne 7), 3)], [(1, (.iconst 1), 1), (2, (.goto 4), 3)], [(1, (.iconst 0), 1), (2, (.invokevirtual 1702), 3)], [(1, (.goto 42), 3)], [(0, (.aload_n 0), 1), (1, (.iload 4), 2), (3, (.aload_n 0), 1)], [(0, (.getfield 1644), 3), (3, (.invokevirtual 1690), 3)], [(2, (.goto 29), 3)], [(1, (.aload_n 0), 1), (2, (.iload 4), 2)], [(0, (.aload_n 0), 1), (1, (.getfield 1647), 3)], [(0, (.invokevirtual 1690), 3), (3, (.goto 16), 3)], [(2, (.aload_n 0), 1), (3, (.iload_n 2), 1)], [(0, (.putfield 1644), 3), (3, (.goto 8), 3)], [(2, (.aload_n 0), 1), (3, (.iload_n 2), 1)], [(0, (.putfield 1647), 3)]]
theorem zdk_349 : zsh_all 8 zdl_349 prog_14_method_220_code.data.toList = true := by decide +kernel
theorem zd_349_0 : decode prog_14_method_220_code 0 = .ok (.iload_n 1, 1) := zsh_g zdk_349 (r := 0) (k := 0) rfl rfl rfl
theorem zd_349_44 : decode prog_14_method_220_code 44 = .ok (.aload_n 0, 1) := zsh_g zdk_349 (r := 11) (k := 0) rfl rfl rfl
theorem zd_349_45 : decode prog_14_method_220_code 45 = .ok (.iload_n 2, 1) := zsh_g zdk_349 (r := 11) (k := 1) rfl rfl rfl
theorem zd_349_46 : decode prog_14_method_220_code 46 = .ok (.iload_n 3, 1) := zsh_g zdk_349 (r := 11) (k := 2) rfl rfl rfl
theorem zd_349_47 : decode prog_14_method_220_code 47 = .ok (.iload_n 1, 1) := zsh_g zdk_349 (r := 11) (k := 3) rfl rfl rfl
theorem zd_349_48 : decode prog_14_method_220_code 48 = .ok (.bipush 15, 2) := zsh_g zdk_349 (r := 12) (k := 0) rfl rfl rfl
theorem zd_349_50 : decode prog_14_method_220_code 50 = .ok (.if_icmp .ne 7, 3) := zsh_g zdk_349 (r := 12) (k := 1) rfl rfl rfl
theorem zd_349_53 : decode prog_14_method_220_code 53 = .ok (.iconst 1, 1) := zsh_g zdk_349 (r := 13) (k := 0) rfl rfl rfl
theorem zd_349_54 : decode prog_14_method_220_code 54 = .ok (.goto 4, 3) := zsh_g zdk_349 (r := 13) (k := 1) rfl rfl rfl
theorem zd_349_57 : decode prog_14_method_220_code 57 = .ok (.iconst 0, 1) := zsh_g zdk_349 (r := 14) (k := 0) rfl rfl rfl
theorem zd_349_58 : decode prog_14_method_220_code 58 = .ok (.invokevirtual 1699, 3) := zsh_g zdk_349 (r := 14) (k := 1) rfl rfl rfl
theorem zd_349_61 : decode prog_14_method_220_code 61 = .ok (.goto 62, 3) := zsh_g zdk_349 (r := 15) (k := 0) rfl rfl rfl
theorem zd_349_64 : decode prog_14_method_220_code 64 = .ok (.aload_n 0, 1) := zsh_g zdk_349 (r := 16) (k := 0) rfl rfl rfl
theorem zd_349_65 : decode prog_14_method_220_code 65 = .ok (.iload_n 2, 1) := zsh_g zdk_349 (r := 16) (k := 1) rfl rfl rfl
theorem zd_349_66 : decode prog_14_method_220_code 66 = .ok (.iload_n 3, 1) := zsh_g zdk_349 (r := 16) (k := 2) rfl rfl rfl
theorem zd_349_67 : decode prog_14_method_220_code 67 = .ok (.iload_n 1, 1) := zsh_g zdk_349 (r := 16) (k := 3) rfl rfl rfl
theorem zd_349_68 : decode prog_14_method_220_code 68 = .ok (.bipush 17, 2) := zsh_g zdk_349 (r := 17) (k := 0) rfl rfl rfl
theorem zd_349_70 : decode prog_14_method_220_code 70 = .ok (.if_icmp .ne 7, 3) := zsh_g zdk_349 (r := 17) (k := 1) rfl rfl rfl
theorem zd_349_73 : decode prog_14_method_220_code 73 = .ok (.iconst 1, 1) := zsh_g zdk_349 (r := 18) (k := 0) rfl rfl rfl
theorem zd_349_74 : decode prog_14_method_220_code 74 = .ok (.goto 4, 3) := zsh_g zdk_349 (r := 18) (k := 1) rfl rfl rfl
theorem zd_349_77 : decode prog_14_method_220_code 77 = .ok (.iconst 0, 1) := zsh_g zdk_349 (r := 19) (k := 0) rfl rfl rfl
theorem zd_349_78 : decode prog_14_method_220_code 78 = .ok (.invokevirtual 1702, 3) := zsh_g zdk_349 (r := 19) (k := 1) rfl rfl rfl
theorem zd_349_81 : decode prog_14_method_220_code 81 = .ok (.goto 42, 3) := zsh_g zdk_349 (r := 20) (k := 0) rfl rfl rfl
theorem zd_349_84 : decode prog_14_method_220_code 84 = .ok (.aload_n 0, 1) := zsh_g zdk_349 (r := 21) (k := 0) rfl rfl rfl
theorem zd_349_85 : decode prog_14_method_220_code 85 = .ok (.iload 4, 2) := zsh_g zdk_349 (r := 21) (k := 1) rfl rfl rfl
theorem zd_349_87 : decode prog_14_method_220_code 87 = .ok (.aload_n 0, 1) := zsh_g zdk_349 (r := 21) (k := 2) rfl rfl rfl
theorem zd_349_88 : decode prog_14_method_220_code 88 = .ok (.getfield 1644, 3) := zsh_g zdk_349 (r := 22) (k := 0) rfl rfl rfl
theorem zd_349_91 : decode prog_14_method_220_code 91 = .ok (.invokevirtual 1690, 3) := zsh_g zdk_349 (r := 22) (k := 1) rfl rfl rfl
theorem zd_349_94 : decode prog_14_method_220_code 94 = .ok (.goto 29, 3) := zsh_g zdk_349 (r := 23) (k := 0) rfl rfl rfl
theorem zd_349_97 : decode prog_14_method_220_code 97 = .ok (.aload_n 0, 1) := zsh_g zdk_349 (r := 24) (k := 0) rfl rfl rfl
theorem zd_349_98 : decode prog_14_method_220_code 98 = .ok (.iload 4, 2) := zsh_g zdk_349 (r := 24) (k := 1) rfl rfl rfl
theorem zd_349_100 : decode prog_14_method_220_code 100 = .ok (.aload_n 0, 1) := zsh_g zdk_349 (r := 25) (k := 0) rfl rfl rfl
theorem zd_349_101 : decode prog_14_method_220_code 101 = .ok (.getfield 1647, 3) := zsh_g zdk_349 (r := 25) (k := 1) rfl rfl rfl
theorem zd_349_104 : decode prog_14_method_220_code 104 = .ok (.invokevirtual 1690, 3) := zsh_g zdk_349 (r := 26) (k := 0) rfl rfl rfl
theorem zd_349_107 : decode prog_14_method_220_code 107 = .ok (.goto 16, 3) := zsh_g zdk_349 (r := 26) (k := 1) rfl rfl rfl
theorem zd_349_110 : decode prog_14_method_220_code 110 = .ok (.aload_n 0, 1) := zsh_g zdk_349 (r := 27) (k := 0) rfl rfl rfl
theorem zd_349_111 : decode prog_14_method_220_code 111 = .ok (.iload_n 2, 1) := zsh_g zdk_349 (r := 27) (k := 1) rfl rfl rfl
theorem zd_349_112 : decode prog_14_method_220_code 112 = .ok (.putfield 1644, 3) := zsh_g zdk_349 (r := 28) (k := 0) rfl rfl rfl
theorem zd_349_115 : decode prog_14_method_220_code 115 = .ok (.goto 8, 3) := zsh_g zdk_349 (r := 28) (k := 1) rfl rfl rfl
theorem zd_349_118 : decode prog_14_method_220_code 118 = .ok (.aload_n 0, 1) := zsh_g zdk_349 (r := 29) (k := 0) rfl rfl rfl
theorem zd_349_119 : decode prog_14_method_220_code 119 = .ok (.iload_n 2, 1) := zsh_g zdk_349 (r := 29) (k := 1) rfl rfl rfl
theorem zd_349_120 : decode prog_14_method_220_code 120 = .ok (.putfield 1647, 3) := zsh_g zdk_349 (r := 30) (k := 0) rfl rfl rfl
theorem zd_349_1 : decode prog_14_method_220_code 1 = .ok (.tableswitch 117 14 20 #[43, 43, 63, 63, 83, 96, 109], 43) := by decide +kernel
def zdl_350 : List (List (Nat × Instr × Nat)) := [[(0, (.aload_n 0), 1), (1, (.getfield 492), 3)], [(0, (.aload_n 0), 1), (1, (.iload_n 1), 1), (2, (.invokevirtual 1762), 3)], [(1, (.iload_n 2), 1), (2, .iastore, 1)]]
theorem zdk_350 : zsh_all 8 zdl_350 prog_14_method_241_code.data.toList = true := by decide +kernel
theorem zd_350_0 : decode prog_14_method_241_code 0 = .ok (.aload_n 0, 1) := zsh_g zdk_350 (r := 0) (k := 0) rfl rfl rfl
theorem zd_350_1 : decode prog_14_method_241_code 1 = .ok (.getfield 492, 3) := zsh_g zdk_350 (r := 0) (k := 1) rfl rfl rfl
theorem zd_350_4 : decode prog_14_method_241_code 4 = .ok (.aload_n 0, 1) := zsh_g zdk_350 (r := 1) (k := 0) rfl rfl rfl
theorem zd_350_5 : decode prog_14_method_241_code 5 = .ok (.iload_n 1, 1) := zsh_g zdk_350 (r := 1) (k := 1) rfl rfl rfl
theorem zd_350_6 : decode prog_14_method_241_code 6 = .ok (.invokevirtual 1762, 3) := zsh_g zdk_350 (r := 1) (k := 2) rfl rfl rfl
theorem zd_350_9 : decode prog_14_method_241_code 9 = .ok (.iload_n 2, 1) := zsh_g zdk_350 (r := 2) (k := 0) rfl rfl rfl
theorem zd_350_10 : decode prog_14_method_241_code 10 = .ok (.iastore, 1) := zsh_g zdk_350 (r := 2) (k := 1) rfl rfl rfl
def zdl_351 : List (List (Nat × Instr × Nat)) := [[(0, (.aload_n 0), 1), (1, (.getfield 1783), 3)], [(0, (.aload_n 0), 1), (1, (.getfield 1671), 3)], [(0, (.if_icmp .ge 15), 3), (3, (.aload_n 0), 1)], [(0, (.getfield 461), 3), (3, (.aload_n 0), 1)], [(0, (.getfield 1783), 3), (3, .iaload, 1)], [(0, (.goto 4), 3), (3, (.iconst 0), 1)], [(0, (.istore_n 2), 1), (1, (.aload_n 0), 1), (2, (.aload_n 0), 1), (3, (.getfield 1783), 3)], [(2, (.aload_n 0), 1), (3, (.getfield 1671), 3)], [(2, (.if_icmp .ge 12), 3)], [(1, (.aload_n 0), 1), (2, (.getfield 1783), 3)], [(1, (.iconst 1), 1), (2, .iadd, 1), (3, (.goto 7), 3)], [(2, (.aload_n 0), 1), (3, (.getfield 1783), 3)], [(2, (.putfield 1783), 3)], [(1, (.aload_n 0), 1), (2, (.iload_n 1), 1), (3, (.iload_n 2), 1)], [(0, (.invokevirtual 1774), 3)]]
theorem zdk_351 : zsh_all 8 zdl_351 prog_14_method_247_code.data.toList = true := by decide +kernel
theorem zd_351_0 : decode prog_14_method_247_code 0 = .ok (.aload_n 0, 1) := zsh_g zdk_351 (r := 0) (k := 0) rfl rfl rfl
theorem zd_351_1 : decode prog_14_method_247_code 1 = .ok (.getfield 1783, 3) := zsh_g zdk_351 (r := 0) (k := 1) rfl rfl rfl
theorem zd_351_4 : decode prog_14_method_247_code 4 = .ok (.aload_n 0, 1) := zsh_g zdk_351 (r := 1) (k := 0) rfl rfl rfl
theorem zd_351_5 : decode prog_14_method_247_code 5 = .ok (.getfield 1671, 3) := zsh_g zdk_351 (r := 1) (k := 1) rfl rfl rfl
theorem zd_351_8 : decode prog_14_method_247_code 8 = .ok (.if_icmp .ge 15, 3) := zsh_g zdk_351 (r := 2) (k := 0) rfl rfl rfl
theorem zd_351_11 : decode prog_14_method_247_code 11 = .ok (.aload_n 0, 1) := zsh_g zdk_351 (r := 2) (k := 1) rfl rfl rfl
theorem zd_351_12 : decode prog_14_method_247_code 12 = .ok (.getfield 461, 3) := zsh_g zdk_351 (r := 3) (k := 0) rfl rfl rfl
theorem zd_351_15 : decode prog_14_method_247_code 15 = .ok (.aload_n 0, 1) := zsh_g zdk_351 (r := 3) (k := 1) rfl rfl rfl
theorem zd_351_16 : decode prog_14_method_247_code 16 = .ok (.getfield 1783, 3) := zsh_g zdk_351 (r := 4) (k := 0) rfl rfl rfl
theorem zd_351_19 : decode prog_14_method_247_code 19 = .ok (.iaload, 1) := zsh_g zdk_351 (r := 4) (k := 1) rfl rfl rfl
theorem zd_351_20 : decode prog_14_method_247_code 20 = .ok (.goto 4, 3) := zsh_g zdk_351 (r := 5) (k := 0) rfl rfl rfl
theorem zd_351_23 : decode prog_14_method_247_code 23 = .ok (.iconst 0, 1) := zsh_g zdk_351 (r := 5) (k := 1) rfl rfl rfl
theorem zd_351_24 : decode prog_14_method_247_code 24 = .ok (.istore_n 2, 1) := zsh_g zdk_351 (r := 6) (k := 0) rfl rfl rfl
theorem zd_351_25 : decode prog_14_method_247_code 25 = .ok (.aload_n 0, 1) := zsh_g zdk_351 (r := 6) (k := 1) rfl rfl rfl
theorem zd_351_26 : decode prog_14_method_247_code 26 = .ok (.aload_n 0, 1) := zsh_g zdk_351 (r := 6) (k := 2) rfl rfl rfl
theorem zd_351_27 : decode prog_14_method_247_code 27 = .ok (.getfield 1783, 3) := zsh_g zdk_351 (r := 6) (k := 3) rfl rfl rfl
theorem zd_351_30 : decode prog_14_method_247_code 30 = .ok (.aload_n 0, 1) := zsh_g zdk_351 (r := 7) (k := 0) rfl rfl rfl
theorem zd_351_31 : decode prog_14_method_247_code 31 = .ok (.getfield 1671, 3) := zsh_g zdk_351 (r := 7) (k := 1) rfl rfl rfl
theorem zd_351_34 : decode prog_14_method_247_code 34 = .ok (.if_icmp .ge 12, 3) := zsh_g zdk_351 (r := 8) (k := 0) rfl rfl rfl
theorem zd_351_37 : decode prog_14_method_247_code 37 = .ok (.aload_n 0, 1) := zsh_g zdk_351 (r := 9) (k := 0) rfl rfl rfl
theorem zd_351_38 : decode prog_14_method_247_code 38 = .ok (.getfield 1783, 3) := zsh_g zdk_351 (r := 9) (k := 1) rfl rfl rfl
theorem zd_351_41 : decode prog_14_method_247_code 41 = .ok (.iconst 1, 1) := zsh_g zdk_351 (r := 10) (k := 0) rfl rfl rfl
theorem zd_351_42 : decode prog_14_method_247_code 42 = .ok (.iadd, 1) := zsh_g zdk_351 (r := 10) (k := 1) rfl rfl rfl
theorem zd_351_43 : decode prog_14_method_247_code 43 = .ok (.goto 7, 3) := zsh_g zdk_351 (r := 10) (k := 2) rfl rfl rfl
theorem zd_351_46 : decode prog_14_method_247_code 46 = .ok (.aload_n 0, 1) := zsh_g zdk_351 (r := 11) (k := 0) rfl rfl rfl
theorem zd_351_47 : decode prog_14_method_247_code 47 = .ok (.getfield 1783, 3) := zsh_g zdk_351 (r := 11) (k := 1) rfl rfl rfl
theorem zd_351_50 : decode prog_14_method_247_code 50 = .ok (.putfield 1783, 3) := zsh_g zdk_351 (r := 12) (k := 0) rfl rfl rfl
theorem zd_351_53 : decode prog_14_method_247_code 53 = .ok (.aload_n 0, 1) := zsh_g zdk_351 (r := 13) (k := 0) rfl rfl rfl
theorem zd_351_54 : decode prog_14_method_247_code 54 = .ok (.iload_n 1, 1) := zsh_g zdk_351 (r := 13) (k := 1) rfl rfl rfl
theorem zd_351_55 : decode prog_14_method_247_code 55 = .ok (.iload_n 2, 1) := zsh_g zdk_351 (r := 13) (k := 2) rfl rfl rfl
theorem zd_351_56 : decode prog_14_method_247_code 56 = .ok (.invokevirtual 1774, 3) := zsh_g zdk_351 (r := 14) (k := 0) rfl rfl rfl
def zdl_352 : List (List (Nat × Instr × Nat)) := [[(0, (.aload_n 0), 1), (1, (.getfield 473), 3)], [(0, (.aload_n 0), 1), (1, (.iload_n 1), 1), (2, (.sipush 8000), 3)], [(1, .idiv, 1), (2, (.aload_n 0), 1), (3, (.getfield 136), 3)], [(2, (.iload_n 1), 1), (3, .iaload, 1)], [(0, (.invokevirtual 1745), 3), (3, .iaload, 1)]]
theorem zdk_352 : zsh_all 8 zdl_352 prog_14_method_246_code.data.toList = true := by decide +kernel
theorem zd_352_0 : decode prog_14_method_246_code 0 = .ok (.aload_n 0, 1) := zsh_g zdk_352 (r := 0) (k := 0) rfl rfl rfl
theorem zd_352_1 : decode prog_14_method_246_code 1 = .ok (.getfield 473, 3) := zsh_g zdk_352 (r := 0) (k := 1) rfl rfl rfl
theorem zd_352_4 : decode prog_14_method_246_code 4 = .ok (.aload_n 0, 1) := zsh_g zdk_352 (r := 1) (k := 0) rfl rfl rfl
theorem zd_352_5 : decode prog_14_method_246_code 5 = .ok (.iload_n 1, 1) := zsh_g zdk_352 (r := 1) (k := 1) rfl rfl rfl
theorem zd_352_6 : decode prog_14_method_246_code 6 = .ok (.sipush 8000, 3) := zsh_g zdk_352 (r := 1) (k := 2) rfl rfl rfl
theorem zd_352_9 : decode prog_14_method_246_code 9 = .ok (.idiv, 1) := zsh_g zdk_352 (r := 2) (k := 0) rfl rfl rfl
theorem zd_352_10 : decode prog_14_method_246_code 10 = .ok (.aload_n 0, 1) := zsh_g zdk_352 (r := 2) (k := 1) rfl rfl rfl
theorem zd_352_11 : decode prog_14_method_246_code 11 = .ok (.getfield 136, 3) := zsh_g zdk_352 (r := 2) (k := 2) rfl rfl rfl
theorem zd_352_14 : decode prog_14_method_246_code 14 = .ok (.iload_n 1, 1) := zsh_g zdk_352 (r := 3) (k := 0) rfl rfl rfl
theorem zd_352_15 : decode prog_14_method_246_code 15 = .ok (.iaload, 1) := zsh_g zdk_352 (r := 3) (k := 1) rfl rfl rfl
theorem zd_352_16 : decode prog_14_method_246_code 16 = .ok (.invokevirtual 1745, 3) := zsh_g zdk_352 (r := 4) (k := 0) rfl rfl rfl
theorem zd_352_19 : decode prog_14_method_246_code 19 = .ok (.iaload, 1) := zsh_g zdk_352 (r := 4) (k := 1) rfl rfl rfl
def zdl_353 : List (List (Nat × Instr × Nat)) := [[(0, (.iload_n 1), 1)], [], [], [], [], [], [], [], [], [], [], [], [], [], [], [], [], [], [], [], [], [], [], [], [], [], [], [], [], [(0, (.iload_n 2), 1), (1, (.iload_n 3), 1), (2, .iadd, 1)], [(0, (.iload_n 2), 1), (1, (.iload_n 3), 1), (2, .isub, 1)], [(0, (.iload_n 2), 1), (1, (.iload_n 3), 1), (2, .ior, 1)], [(0, (.iload_n 2), 1), (1, (.iload_n 3), 1), (2, .ixor, 1)], [(0, (.iload_n 2), 1), (1, (.iload_n 3), 1), (2, .iand, 1)], [(0, (.iload_n 2), 1), (1, (.iload_n 3), 1), (2, (.bipush 31), 2)], [(0, .iand, 1), (1, .ishl, 1), (3, (.iload_n 2), 1)], [(0, (.iload_n 3), 1), (1, (.bipush 31), 2), (3, .iand, 1)], [(0, .ishr, 1), (2, (.iload_n 2), 1), (3, (.iload_n 3), 1)], [(0, .imul, 1), (2, (.iload_n 2), 1), (3, .i2l, 1)], [(0, (.iload_n 3), 1), (1, .i2l, 1), (2, .ldiv, 1), (3, .l2i, 1)], [(1, (.iload_n 2), 1), (2, .i2l, 1), (3, (.iload_n 3), 1)], [(0, .i2l, 1), (1, .lrem, 1), (2, .l2i, 1)], [(0, (.iload_n 2), 1), (1, (.iload_n 3), 1), (2, (.if_icmp .ne 7), 3)], [(1, (.iconst 1), 1), (2, (.goto 4), 3)], [(1, (.iconst 0), 1), (3, (.iload_n 2), 1)], [(0, (.iload_n 3), 1), (1, (.if_icmp .eq 7), 3)], [(0, (.iconst 1), 1), (1, (.goto 4), 3)], [(0, (.iconst 0), 1), (2, (.iload_n 2), 1), (3, (.iload_n 3), 1)], [(0, (.if_icmp .ge 7), 3), (3, (.iconst 1), 1)], [(0, (.goto 4), 3), (3, (.iconst 0), 1)], [(1, (.iload_n 2), 1), (2, (.iload_n 3), 1), (3, (.if_icmp .gt 7), 3)], [(2, (.iconst 1), 1), (3, (.goto 4), 3)], [(2, (.iconst 0), 1)]]
theorem zdk_353 : zsh_all 8 zdl_353 prog_14_method_245_code.data.toList = true := by decide +kernel
theorem zd_353_0 : decode prog_14_method_245_code 0 = .ok (.iload_n 1, 1) := zsh_g zdk_353 (r := 0) (k := 0) rfl rfl rfl
theorem zd_353_116 : decode prog_14_method_245_code 116 = .ok (.iload_n 2, 1) := zsh_g zdk_353 (r := 29) (k := 0) rfl rfl rfl
theorem zd_353_117 : decode prog_14_method_245_code 117 = .ok (.iload_n 3, 1) := zsh_g zdk_353 (r := 29) (k := 1) rfl rfl rfl
theorem zd_353_118 : decode prog_14_method_245_code 118 = .ok (.iadd, 1) := zsh_g zdk_353 (r := 29) (k := 2) rfl rfl rfl
theorem zd_353_120 : decode prog_14_method_245_code 120 = .ok (.iload_n 2, 1) := zsh_g zdk_353 (r := 30) (k := 0) rfl rfl rfl
theorem zd_353_121 : decode prog_14_method_245_code 121 = .ok (.iload_n 3, 1) := zsh_g zdk_353 (r := 30) (k := 1) rfl rfl rfl
theorem zd_353_122 : decode prog_14_method_245_code 122 = .ok (.isub, 1) := zsh_g zdk_353 (r := 30) (k := 2) rfl rfl rfl
theorem zd_353_124 : decode prog_14_method_245_code 124 = .ok (.iload_n 2, 1) := zsh_g zdk_353 (r := 31) (k := 0) rfl rfl rfl
theorem zd_353_125 : decode prog_14_method_245_code 125 = .ok (.iload_n 3, 1) := zsh_g zdk_353 (r := 31) (k := 1) rfl rfl rfl
theorem zd_353_126 : decode prog_14_method_245_code 126 = .ok (.ior, 1) := zsh_g zdk_353 (r := 31) (k := 2) rfl rfl rfl
theorem zd_353_128 : decode prog_14_method_245_code 128 = .ok (.iload_n 2, 1) := zsh_g zdk_353 (r := 32) (k := 0) rfl rfl rfl
theorem zd_353_129 : decode prog_14_method_245_code 129 = .ok (.iload_n 3, 1) := zsh_g zdk_353 (r := 32) (k := 1) rfl rfl rfl
theorem zd_353_130 : decode prog_14_method_245_code 130 = .ok (.ixor, 1) := zsh_g zdk_353 (r := 32) (k := 2) rfl rfl rfl
theorem zd_353_132 : decode prog_14_method_245_code 132 = .ok (.iload_n 2, 1) := zsh_g zdk_353 (r := 33) (k := 0) rfl rfl rfl
theorem zd_353_133 : decode prog_14_method_245_code 133 = .ok (.iload_n 3, 1) := zsh_g zdk_353 (r := 33) (k := 1) rfl rfl rfl
theorem zd_353_134 : decode prog_14_method_245_code 134 = .ok (.iand, 1) := zsh_g zdk_353 (r := 33) (k := 2) rfl rfl rfl
theorem zd_353_136 : decode prog_14_method_245_code 136 = .ok (.iload_n 2, 1) := zsh_g zdk_353 (r := 34) (k := 0) rfl rfl rfl
theorem zd_353_137 : decode prog_14_method_245_code 137 = .ok (.iload_n 3, 1) := zsh_g zdk_353 (r := 34) (k := 1) rfl rfl rfl
theorem zd_353_138 : decode prog_14_method_245_code 138 = .ok (.bipush 31, 2) := zsh_g zdk_353 (r := 34) (k := 2) rfl rfl rfl
theorem zd_353_140 : decode prog_14_method_245_code 140 = .ok (.iand, 1) := zsh_g zdk_353 (r := 35) (k := 0) rfl rfl rfl
theorem zd_353_141 : decode prog_14_method_245_code 141 = .ok (.ishl, 1) := zsh_g zdk_353 (r := 35) (k := 1) rfl rfl rfl
theorem zd_353_143 : decode prog_14_method_245_code 143 = .ok (.iload_n 2, 1) := zsh_g zdk_353 (r := 35) (k := 2) rfl rfl rfl
theorem zd_353_144 : decode prog_14_method_245_code 144 = .ok (.iload_n 3, 1) := zsh_g zdk_353 (r := 36) (k := 0) rfl rfl rfl
theorem zd_353_145 : decode prog_14_method_245_code 145 = .ok (.bipush 31, 2) := zsh_g zdk_353 (r := 36) (k := 1) rfl rfl rfl
theorem zd_353_147 : decode prog_14_method_245_code 147 = .ok (.iand, 1) := zsh_g zdk_353 (r := 36) (k := 2) rfl rfl rfl
theorem zd_353_148 : decode prog_14_method_245_code 148 = .ok (.ishr, 1) := zsh_g zdk_353 (r := 37) (k := 0) rfl rfl rfl
theorem zd_353_150 : decode prog_14_method_245_code 150 = .ok (.iload_n 2, 1) := zsh_g zdk_353 (r := 37) (k := 1) rfl rfl rfl
theorem zd_353_151 : decode prog_14_method_245_code 151 = .ok (.iload_n 3, 1) := zsh_g zdk_353 (r := 37) (k := 2) rfl rfl rfl
theorem zd_353_152 : decode prog_14_method_245_code 152 = .ok (.imul, 1) := zsh_g zdk_353 (r := 38) (k := 0) rfl rfl rfl
theorem zd_353_154 : decode prog_14_method_245_code 154 = .ok (.iload_n 2, 1) := zsh_g zdk_353 (r := 38) (k := 1) rfl rfl rfl
theorem zd_353_155 : decode prog_14_method_245_code 155 = .ok (.i2l, 1) := zsh_g zdk_353 (r := 38) (k := 2) rfl rfl rfl
theorem zd_353_156 : decode prog_14_method_245_code 156 = .ok (.iload_n 3, 1) := zsh_g zdk_353 (r := 39) (k := 0) rfl rfl rfl
theorem zd_353_157 : decode prog_14_method_245_code 157 = .ok (.i2l, 1) := zsh_g zdk_353 (r := 39) (k := 1) rfl rfl rfl
theorem zd_353_158 : decode prog_14_method_245_code 158 = .ok (.ldiv, 1) := zsh_g zdk_353 (r := 39) (k := 2) rfl rfl rfl
theorem zd_353_159 : decode prog_14_method_245_code 159 = .ok (.l2i, 1) := zsh_g zdk_353 (r := 39) (k := 3) rfl rfl rfl
theorem zd_353_161 : decode prog_14_method_245_code 161 = .ok (.iload_n 2, 1) := zsh_g zdk_353 (r := 40) (k := 0) rfl rfl rfl
theorem zd_353_162 : decode prog_14_method_245_code 162 = .ok (.i2l, 1) := zsh_g zdk_353 (r := 40) (k := 1) rfl rfl rfl
theorem zd_353_163 : decode prog_14_method_245_code 163 = .ok (.iload_n 3, 1) := zsh_g zdk_353 (r := 40) (k := 2) rfl rfl rfl
theorem zd_353_164 : decode prog_14_method_245_code 164 = .ok (.i2l, 1) := zsh_g zdk_353 (r := 41) (k := 0) rfl rfl rfl
theorem zd_353_165 : decode prog_14_method_245_code 165 = .ok (.lrem, 1) := zsh_g zdk_353 (r := 41) (k := 1) rfl rfl rfl
theorem zd_353_166 : decode prog_14_method_245_code 166 = .ok (.l2i, 1) := zsh_g zdk_353 (r := 41) (k := 2) rfl rfl rfl
theorem zd_353_168 : decode prog_14_method_245_code 168 = .ok (.iload_n 2, 1) := zsh_g zdk_353 (r := 42) (k := 0) rfl rfl rfl
theorem zd_353_169 : decode prog_14_method_245_code 169 = .ok (.iload_n 3, 1) := zsh_g zdk_353 (r := 42) (k := 1) rfl rfl rfl
theorem zd_353_170 : decode prog_14_method_245_code 170 = .ok (.if_icmp .ne 7, 3) := zsh_g zdk_353 (r := 42) (k := 2) rfl rfl rfl
theorem zd_353_173 : decode prog_14_method_245_code 173 = .ok (.iconst 1, 1) := zsh_g zdk_353 (r := 43) (k := 0) rfl rfl rfl
theorem zd_353_174 : decode prog_14_method_245_code 174 = .ok (.goto 4, 3) := zsh_g zdk_353 (r := 43) (k := 1) rfl rfl rfl
theorem zd_353_177 : decode prog_14_method_245_code 177 = .ok (.iconst 0, 1) := zsh_g zdk_353 (r := 44) (k := 0) rfl rfl rfl
theorem zd_353_179 : decode prog_14_method_245_code 179 = .ok (.iload_n 2, 1) := zsh_g zdk_353 (r := 44) (k := 1) rfl rfl rfl
theorem zd_353_180 : decode prog_14_method_245_code 180 = .ok (.iload_n 3, 1) := zsh_g zdk_353 (r := 45) (k := 0) rfl rfl rfl
theorem zd_353_181 : decode prog_14_method_245_code 181 = .ok (.if_icmp .eq 7, 3) := zsh_g zdk_353 (r := 45) (k := 1) rfl rfl rfl
theorem zd_353_184 : decode prog_14_method_245_code 184 = .ok (.iconst 1, 1) := zsh_g zdk_353 (r := 46) (k := 0) rfl rfl rfl
theorem zd_353_185 : decode prog_14_method_245_code 185 = .ok (.goto 4, 3) := zsh_g zdk_353 (r := 46) (k := 1) rfl rfl rfl
theorem zd_353_188 : decode prog_14_method_245_code 188 = .ok (.iconst 0, 1) := zsh_g zdk_353 (r := 47) (k := 0) rfl rfl rfl
theorem zd_353_190 : decode prog_14_method_245_code 190 = .ok (.iload_n 2, 1) := zsh_g zdk_353 (r := 47) (k := 1) rfl rfl rfl
theorem zd_353_191 : decode prog_14_method_245_code 191 = .ok (.iload_n 3, 1) := zsh_g zdk_353 (r := 47) (k := 2) rfl rfl rfl
theorem zd_353_192 : decode prog_14_method_245_code 192 = .ok (.if_icmp .ge 7, 3) := zsh_g zdk_353 (r := 48) (k := 0) rfl rfl rfl
theorem zd_353_195 : decode prog_14_method_245_code 195 = .ok (.iconst 1, 1) := zsh_g zdk_353 (r := 48) (k := 1) rfl rfl rfl
theorem zd_353_196 : decode prog_14_method_245_code 196 = .ok (.goto 4, 3) := zsh_g zdk_353 (r := 49) (k := 0) rfl rfl rfl
theorem zd_353_199 : decode prog_14_method_245_code 199 = .ok (.iconst 0, 1) := zsh_g zdk_353 (r := 49) (k := 1) rfl rfl rfl
theorem zd_353_201 : decode prog_14_method_245_code 201 = .ok (.iload_n 2, 1) := zsh_g zdk_353 (r := 50) (k := 0) rfl rfl rfl
theorem zd_353_202 : decode prog_14_method_245_code 202 = .ok (.iload_n 3, 1) := zsh_g zdk_353 (r := 50) (k := 1) rfl rfl rfl
theorem zd_353_203 : decode prog_14_method_245_code 203 = .ok (.if_icmp .gt 7, 3) := zsh_g zdk_353 (r := 50) (k := 2) rfl rfl rfl
theorem zd_353_206 : decode prog_14_method_245_code 206 = .ok (.iconst 1, 1) := zsh_g zdk_353 (r := 51) (k := 0) rfl rfl rfl
theorem zd_353_207 : decode prog_14_method_245_code 207 = .ok (.goto 4, 3) := zsh_g zdk_353 (r := 51) (k := 1) rfl rfl rfl
theorem zd_353_210 : decode prog_14_method_245_code 210 = .ok (.iconst 0, 1) := zsh_g zdk_353 (r := 52) (k := 0) rfl rfl rfl
theorem zd_353_1 : decode prog_14_method_245_code 1 = .ok (.lookupswitch 200 #[(37, 160), (38, 131), (42, 149), (43, 115), (45, 119), (47, 153), (60, 189), (94, 127), (124, 123), (128, 167), (129, 178), (131, 135), (132, 142)], 115) := by decide +kernel
def zdl_354 : List (List (Nat × Instr × Nat)) := [[(0, (.iload_n 0), 1), (1, (.invokestatic 11), 3)], [(0, (.newarray .byte), 2)]]
theorem zdk_354 : zsh_all 8 zdl_354 prog_30_method_2_code.data.toList = true := by decide +kernel
theorem zd_354_0 : decode prog_30_method_2_code 0 = .ok (.iload_n 0, 1) := zsh_g zdk_354 (r := 0) (k := 0) rfl rfl rfl
theorem zd_354_1 : decode prog_30_method_2_code 1 = .ok (.invokestatic 11, 3) := zsh_g zdk_354 (r := 0) (k := 1) rfl rfl rfl
theorem zd_354_4 : decode prog_30_method_2_code 4 = .ok (.newarray .byte, 2) := zsh_g zdk_354 (r := 1) (k := 0) rfl rfl rfl
def zdl_355 : List (List (Nat × Instr × Nat)) := [[(0, (.iload_n 0), 1), (1, (.ifCond .lt 8), 3)], [(0, (.iload_n 0), 1), (1, (.iload_n 1), 1), (2, (.if_icmp .lt 10), 3)], [(1, (.aload_n 2), 1), (2, (.iload_n 0), 1), (3, (.iload_n 1), 1)], [], [(0, (.iload_n 0), 1)]]
theorem zdk_355 : zsh_all 8 zdl_355 prog_37_method_11_code.data.toList = true := by decide +kernel
theorem zd_355_0 : decode prog_37_method_11_code 0 = .ok (.iload_n 0, 1) := zsh_g zdk_355 (r := 0) (k := 0) rfl rfl rfl
theorem zd_355_1 : decode prog_37_method_11_code 1 = .ok (.ifCond .lt 8, 3) := zsh_g zdk_355 (r := 0) (k := 1) rfl rfl rfl
theorem zd_355_4 : decode prog_37_method_11_code 4 = .ok (.iload_n 0, 1) := zsh_g zdk_355 (r := 1) (k := 0) rfl rfl rfl
theorem zd_355_5 : decode prog_37_method_11_code 5 = .ok (.iload_n 1, 1) := zsh_g zdk_355 (r := 1) (k := 1) rfl rfl rfl
theorem zd_355_6 : decode prog_37_method_11_code 6 = .ok (.if_icmp .lt 10, 3) := zsh_g zdk_355 (r := 1) (k := 2) rfl rfl rfl
theorem zd_355_9 : decode prog_37_method_11_code 9 = .ok (.aload_n 2, 1) := zsh_g zdk_355 (r := 2) (k := 0) rfl rfl rfl
theorem zd_355_10 : decode prog_37_method_11_code 10 = .ok (.iload_n 0, 1) := zsh_g zdk_355 (r := 2) (k := 1) rfl rfl rfl
theorem zd_355_11 : decode prog_37_method_11_code 11 = .ok (.iload_n 1, 1) := zsh_g zdk_355 (r := 2) (k := 2) rfl rfl rfl
theorem zd_355_16 : decode prog_37_method_11_code 16 = .ok (.iload_n 0, 1) := zsh_g zdk_355 (r := 4) (k := 0) rfl rfl rfl
def zdl_356 : List (List (Nat × Instr × Nat)) := [[(0, (.aload_n 0), 1)]]
theorem zdk_356 : zsh_all 8 zdl_356 prog_30_method_6_code.data.toList = true := by decide +kernel
theorem zd_356_0 : decode prog_30_method_6_code 0 = .ok (.aload_n 0, 1) := zsh_g zdk_356 (r := 0) (k := 0) rfl rfl rfl
def zdl_357 : List (List (Nat × Instr × Nat)) := [[(0, (.aload_n 0), 1), (1, (.getfield 78), 3)], [(0, (.istore_n 1), 1), (1, (.iload_n 1), 1), (2, (.aload_n 0), 1), (3, (.getfield 81), 3)], [(2, (.if_icmp .ge 20), 3)], [(1, (.aload_n 0), 1), (2, (.getfield 39), 3)], [(1, (.iload_n 1), 1), (2, .baload, 1), (3, (.bipush 32), 2)], [(1, (.if_icmp .ne 9), 3)], [(0, (.iinc 1 1), 3), (3, (.goto (-22)), 3)], [(2, (.iload_n 1), 1), (3, (.istore_n 2), 1)], [(0, (.iload_n 2), 1), (1, (.aload_n 0), 1), (2, (.getfield 81), 3)], [(1, (.if_icmp .ge 21), 3)], [(0, (.aload_n 0), 1), (1, (.getfield 39), 3)], [(0, (.iload_n 2), 1), (1, .baload, 1), (2, (.invokestatic 84), 3)], [(1, (.ifCond .eq 9), 3)], [(0, (.iinc 2 1), 3), (3, (.goto (-23)), 3)], [(2, (.iload_n 2), 1), (3, (.iload_n 1), 1)], [(0, .isub, 1), (1, (.bipush 16), 2), (3, (.if_icmp .le 7), 3)], [(2, (.iconst (-1)), 1), (3, (.goto 31), 3)], [(2, (.aload_n 0), 1), (3, (.getfield 35), 3)], [(2, (.aload_n 0), 1), (3, (.getfield 39), 3)], [(2, (.iload_n 1), 1), (3, (.iload_n 2), 1)], [(0, (.invokestatic 88), 3), (3, (.aload_n 0), 1)], [(0, (.getfield 39), 3), (3, (.iload_n 1), 1)], [(0, (.bipush 8), 2), (2, .iadd, 1), (3, (.iload_n 2), 1)], [(0, (.invokestatic 88), 3), (3, (.invokevirtual 94), 3)]]
theorem zdk_357 : zsh_all 8 zdl_357 prog_5_method_6_code.data.toList = true := by decide +kernel
theorem zd_357_0 : decode prog_5_method_6_code 0 = .ok (.aload_n 0, 1) := zsh_g zdk_357 (r := 0) (k := 0) rfl rfl rfl
theorem zd_357_1 : decode prog_5_method_6_code 1 = .ok (.getfield 78, 3) := zsh_g zdk_357 (r := 0) (k := 1) rfl rfl rfl
theorem zd_357_4 : decode prog_5_method_6_code 4 = .ok (.istore_n 1, 1) := zsh_g zdk_357 (r := 1) (k := 0) rfl rfl rfl
theorem zd_357_5 : decode prog_5_method_6_code 5 = .ok (.iload_n 1, 1) := zsh_g zdk_357 (r := 1) (k := 1) rfl rfl rfl
theorem zd_357_6 : decode prog_5_method_6_code 6 = .ok (.aload_n 0, 1) := zsh_g zdk_357 (r := 1) (k := 2) rfl rfl rfl
theorem zd_357_7 : decode prog_5_method_6_code 7 = .ok (.getfield 81, 3) := zsh_g zdk_357 (r := 1) (k := 3) rfl rfl rfl
theorem zd_357_10 : decode prog_5_method_6_code 10 = .ok (.if_icmp .ge 20, 3) := zsh_g zdk_357 (r := 2) (k := 0) rfl rfl rfl
theorem zd_357_13 : decode prog_5_method_6_code 13 = .ok (.aload_n 0, 1) := zsh_g zdk_357 (r := 3) (k := 0) rfl rfl rfl
theorem zd_357_14 : decode prog_5_method_6_code 14 = .ok (.getfield 39, 3) := zsh_g zdk_357 (r := 3) (k := 1) rfl rfl rfl
theorem zd_357_17 : decode prog_5_method_6_code 17 = .ok (.iload_n 1, 1) := zsh_g zdk_357 (r := 4) (k := 0) rfl rfl rfl
theorem zd_357_18 : decode prog_5_method_6_code 18 = .ok (.baload, 1) := zsh_g zdk_357 (r := 4) (k := 1) rfl rfl rfl
theorem zd_357_19 : decode prog_5_method_6_code 19 = .ok (.bipush 32, 2) := zsh_g zdk_357 (r := 4) (k := 2) rfl rfl rfl
theorem zd_357_21 : decode prog_5_method_6_code 21 = .ok (.if_icmp .ne 9, 3) := zsh_g zdk_357 (r := 5) (k := 0) rfl rfl rfl
theorem zd_357_24 : decode prog_5_method_6_code 24 = .ok (.iinc 1 1, 3) := zsh_g zdk_357 (r := 6) (k := 0) rfl rfl rfl
theorem zd_357_27 : decode prog_5_method_6_code 27 = .ok (.goto (-22), 3) := zsh_g zdk_357 (r := 6) (k := 1) rfl rfl rfl
theorem zd_357_30 : decode prog_5_method_6_code 30 = .ok (.iload_n 1, 1) := zsh_g zdk_357 (r := 7) (k := 0) rfl rfl rfl
theorem zd_357_31 : decode prog_5_method_6_code 31 = .ok (.istore_n 2, 1) := zsh_g zdk_357 (r := 7) (k := 1) rfl rfl rfl
theorem zd_357_32 : decode prog_5_method_6_code 32 = .ok (.iload_n 2, 1) := zsh_g zdk_357 (r := 8) (k := 0) rfl rfl rfl
theorem zd_357_33 : decode prog_5_method_6_code 33 = .ok (.aload_n 0, 1) := zsh_g zdk_357 (r := 8) (k := 1) rfl rfl rfl
theorem zd_357_34 : decode prog_5_method_6_code 34 = .ok (.getfield 81, 3) := zsh_g zdk_357 (r := 8) (k := 2) rfl rfl rfl
theorem zd_357_37 : decode prog_5_method_6_code 37 = .ok (.if_icmp .ge 21, 3) := zsh_g zdk_357 (r := 9) (k := 0) rfl rfl rfl
theorem zd_357_40 : decode prog_5_method_6_code 40 = .ok (.aload_n 0, 1) := zsh_g zdk_357 (r := 10) (k := 0) rfl rfl rfl
theorem zd_357_41 : decode prog_5_method_6_code 41 = .ok (.getfield 39, 3) := zsh_g zdk_357 (r := 10) (k := 1) rfl rfl rfl
theorem zd_357_44 : decode prog_5_method_6_code 44 = .ok (.iload_n 2, 1) := zsh_g zdk_357 (r := 11) (k := 0) rfl rfl rfl
theorem zd_357_45 : decode prog_5_method_6_code 45 = .ok (.baload, 1) := zsh_g zdk_357 (r := 11) (k := 1) rfl rfl rfl
theorem zd_357_46 : decode prog_5_method_6_code 46 = .ok (.invokestatic 84, 3) := zsh_g zdk_357 (r := 11) (k := 2) rfl rfl rfl
theorem zd_357_49 : decode prog_5_method_6_code 49 = .ok (.ifCond .eq 9, 3) := zsh_g zdk_357 (r := 12) (k := 0) rfl rfl rfl
theorem zd_357_52 : decode prog_5_method_6_code 52 = .ok (.iinc 2 1, 3) := zsh_g zdk_357 (r := 13) (k := 0) rfl rfl rfl
theorem zd_357_55 : decode prog_5_method_6_code 55 = .ok (.goto (-23), 3) := zsh_g zdk_357 (r := 13) (k := 1) rfl rfl rfl
theorem zd_357_58 : decode prog_5_method_6_code 58 = .ok (.iload_n 2, 1) := zsh_g zdk_357 (r := 14) (k := 0) rfl rfl rfl
theorem zd_357_59 : decode prog_5_method_6_code 59 = .ok (.iload_n 1, 1) := zsh_g zdk_357 (r := 14) (k := 1) rfl rfl rfl
theorem zd_357_60 : decode prog_5_method_6_code 60 = .ok (.isub, 1) := zsh_g zdk_357 (r := 15) (k := 0) rfl rfl rfl
theorem zd_357_61 : decode prog_5_method_6_code 61 = .ok (.bipush 16, 2) := zsh_g zdk_357 (r := 15) (k := 1) rfl rfl rfl
theorem zd_357_63 : decode prog_5_method_6_code 63 = .ok (.if_icmp .le 7, 3) := zsh_g zdk_357 (r := 15) (k := 2) rfl rfl rfl
theorem zd_357_66 : decode prog_5_method_6_code 66 = .ok (.iconst (-1), 1) := zsh_g zdk_357 (r := 16) (k := 0) rfl rfl rfl
theorem zd_357_67 : decode prog_5_method_6_code 67 = .ok (.goto 31, 3) := zsh_g zdk_357 (r := 16) (k := 1) rfl rfl rfl
theorem zd_357_70 : decode prog_5_method_6_code 70 = .ok (.aload_n 0, 1) := zsh_g zdk_357 (r := 17) (k := 0) rfl rfl rfl
theorem zd_357_71 : decode prog_5_method_6_code 71 = .ok (.getfield 35, 3) := zsh_g zdk_357 (r := 17) (k := 1) rfl rfl rfl
theorem zd_357_74 : decode prog_5_method_6_code 74 = .ok (.aload_n 0, 1) := zsh_g zdk_357 (r := 18) (k := 0) rfl rfl rfl
theorem zd_357_75 : decode prog_5_method_6_code 75 = .ok (.getfield 39, 3) := zsh_g zdk_357 (r := 18) (k := 1) rfl rfl rfl
theorem zd_357_78 : decode prog_5_method_6_code 78 = .ok (.iload_n 1, 1) := zsh_g zdk_357 (r := 19) (k := 0) rfl rfl rfl
theorem zd_357_79 : decode prog_5_method_6_code 79 = .ok (.iload_n 2, 1) := zsh_g zdk_357 (r := 19) (k := 1) rfl rfl rfl
theorem zd_357_80 : decode prog_5_method_6_code 80 = .ok (.invokestatic 88, 3) := zsh_g zdk_357 (r := 20) (k := 0) rfl rfl rfl
theorem zd_357_83 : decode prog_5_method_6_code 83 = .ok (.aload_n 0, 1) := zsh_g zdk_357 (r := 20) (k := 1) rfl rfl rfl
theorem zd_357_84 : decode prog_5_method_6_code 84 = .ok (.getfield 39, 3) := zsh_g zdk_357 (r := 21) (k := 0) rfl rfl rfl
theorem zd_357_87 : decode prog_5_method_6_code 87 = .ok (.iload_n 1, 1) := zsh_g zdk_357 (r := 21) (k := 1) rfl rfl rfl
theorem zd_357_88 : decode prog_5_method_6_code 88 = .ok (.bipush 8, 2) := zsh_g zdk_357 (r := 22) (k := 0) rfl rfl rfl
theorem zd_357_90 : decode prog_5_method_6_code 90 = .ok (.iadd, 1) := zsh_g zdk_357 (r := 22) (k := 1) rfl rfl rfl
theorem zd_357_91 : decode prog_5_method_6_code 91 = .ok (.iload_n 2, 1) := zsh_g zdk_357 (r := 22) (k := 2) rfl rfl rfl
theorem zd_357_92 : decode prog_5_method_6_code 92 = .ok (.invokestatic 88, 3) := zsh_g zdk_357 (r := 23) (k := 0) rfl rfl rfl
theorem zd_357_95 : decode prog_5_method_6_code 95 = .ok (.invokevirtual 94, 3) := zsh_g zdk_357 (r := 23) (k := 1) rfl rfl rfl
def zdl_358 : List (List (Nat × Instr × Nat)) := [[(0, (.aload_n 0), 1), (1, (.getfield 64), 3)], [(0, (.bipush 8), 2), (2, (.if_icmp .lt 6), 3)], [(1, (.bipush 6), 2)], [(0, (.aload_n 0), 1), (1, (.getfield 32), 3)], [(0, (.iconst 2), 1), (1, (.aload_n 0), 1), (2, (.getfield 64), 3)], [(1, .imul, 1), (2, (.aload_n 0), 1), (3, (.invokevirtual 112), 3)], [(2, (.ifCond .ne 7), 3)], [(1, (.iconst 0), 1), (2, (.goto 12), 3)], [(1, (.iload_n 1), 1), (2, (.ifCond .eq 7), 3)], [(1, (.iconst 3), 1), (2, (.goto 4), 3)], [(1, (.iconst 2), 1), (2, .iastore, 1), (3, (.aload_n 0), 1)], [(0, (.getfield 32), 3), (3, (.iconst 2), 1)], [(0, (.aload_n 0), 1), (1, (.getfield 64), 3)], [(0, .imul, 1), (1, (.iconst 1), 1), (2, .iadd, 1), (3, (.aload_n 0), 1)], [(0, (.getfield 49), 3), (3, .iastore, 1)], [(0, (.aload_n 0), 1), (1, .dup, 1), (2, (.getfield 64), 3)], [(1, (.iconst 1), 1), (2, .iadd, 1), (3, (.putfield 64), 3)], [(2, (.iconst 0), 1)]]
theorem zdk_358 : zsh_all 8 zdl_358 prog_5_method_9_code.data.toList = true := by decide +kernel
theorem zd_358_0 : decode prog_5_method_9_code 0 = .ok (.aload_n 0, 1) := zsh_g zdk_358 (r := 0) (k := 0) rfl rfl rfl
theorem zd_358_1 : decode prog_5_method_9_code 1 = .ok (.getfield 64, 3) := zsh_g zdk_358 (r := 0) (k := 1) rfl rfl rfl
theorem zd_358_4 : decode prog_5_method_9_code 4 = .ok (.bipush 8, 2) := zsh_g zdk_358 (r := 1) (k := 0) rfl rfl rfl
theorem zd_358_6 : decode prog_5_method_9_code 6 = .ok (.if_icmp .lt 6, 3) := zsh_g zdk_358 (r := 1) (k := 1) rfl rfl rfl
theorem zd_358_9 : decode prog_5_method_9_code 9 = .ok (.bipush 6, 2) := zsh_g zdk_358 (r := 2) (k := 0) rfl rfl rfl
theorem zd_358_12 : decode prog_5_method_9_code 12 = .ok (.aload_n 0, 1) := zsh_g zdk_358 (r := 3) (k := 0) rfl rfl rfl
theorem zd_358_13 : decode prog_5_method_9_code 13 = .ok (.getfield 32, 3) := zsh_g zdk_358 (r := 3) (k := 1) rfl rfl rfl
theorem zd_358_16 : decode prog_5_method_9_code 16 = .ok (.iconst 2, 1) := zsh_g zdk_358 (r := 4) (k := 0) rfl rfl rfl
theorem zd_358_17 : decode prog_5_method_9_code 17 = .ok (.aload_n 0, 1) := zsh_g zdk_358 (r := 4) (k := 1) rfl rfl rfl
theorem zd_358_18 : decode prog_5_method_9_code 18 = .ok (.getfield 64, 3) := zsh_g zdk_358 (r := 4) (k := 2) rfl rfl rfl
theorem zd_358_21 : decode prog_5_method_9_code 21 = .ok (.imul, 1) := zsh_g zdk_358 (r := 5) (k := 0) rfl rfl rfl
theorem zd_358_22 : decode prog_5_method_9_code 22 = .ok (.aload_n 0, 1) := zsh_g zdk_358 (r := 5) (k := 1) rfl rfl rfl
theorem zd_358_23 : decode prog_5_method_9_code 23 = .ok (.invokevirtual 112, 3) := zsh_g zdk_358 (r := 5) (k := 2) rfl rfl rfl
theorem zd_358_26 : decode prog_5_method_9_code 26 = .ok (.ifCond .ne 7, 3) := zsh_g zdk_358 (r := 6) (k := 0) rfl rfl rfl
theorem zd_358_29 : decode prog_5_method_9_code 29 = .ok (.iconst 0, 1) := zsh_g zdk_358 (r := 7) (k := 0) rfl rfl rfl
theorem zd_358_30 : decode prog_5_method_9_code 30 = .ok (.goto 12, 3) := zsh_g zdk_358 (r := 7) (k := 1) rfl rfl rfl
theorem zd_358_33 : decode prog_5_method_9_code 33 = .ok (.iload_n 1, 1) := zsh_g zdk_358 (r := 8) (k := 0) rfl rfl rfl
theorem zd_358_34 : decode prog_5_method_9_code 34 = .ok (.ifCond .eq 7, 3) := zsh_g zdk_358 (r := 8) (k := 1) rfl rfl rfl
theorem zd_358_37 : decode prog_5_method_9_code 37 = .ok (.iconst 3, 1) := zsh_g zdk_358 (r := 9) (k := 0) rfl rfl rfl
theorem zd_358_38 : decode prog_5_method_9_code 38 = .ok (.goto 4, 3) := zsh_g zdk_358 (r := 9) (k := 1) rfl rfl rfl
theorem zd_358_41 : decode prog_5_method_9_code 41 = .ok (.iconst 2, 1) := zsh_g zdk_358 (r := 10) (k := 0) rfl rfl rfl
theorem zd_358_42 : decode prog_5_method_9_code 42 = .ok (.iastore, 1) := zsh_g zdk_358 (r := 10) (k := 1) rfl rfl rfl
theorem zd_358_43 : decode prog_5_method_9_code 43 = .ok (.aload_n 0, 1) := zsh_g zdk_358 (r := 10) (k := 2) rfl rfl rfl
theorem zd_358_44 : decode prog_5_method_9_code 44 = .ok (.getfield 32, 3) := zsh_g zdk_358 (r := 11) (k := 0) rfl rfl rfl
theorem zd_358_47 : decode prog_5_method_9_code 47 = .ok (.iconst 2, 1) := zsh_g zdk_358 (r := 11) (k := 1) rfl rfl rfl
theorem zd_358_48 : decode prog_5_method_9_code 48 = .ok (.aload_n 0, 1) := zsh_g zdk_358 (r := 12) (k := 0) rfl rfl rfl
theorem zd_358_49 : decode prog_5_method_9_code 49 = .ok (.getfield 64, 3) := zsh_g zdk_358 (r := 12) (k := 1) rfl rfl rfl
theorem zd_358_52 : decode prog_5_method_9_code 52 = .ok (.imul, 1) := zsh_g zdk_358 (r := 13) (k := 0) rfl rfl rfl
theorem zd_358_53 : decode prog_5_method_9_code 53 = .ok (.iconst 1, 1) := zsh_g zdk_358 (r := 13) (k := 1) rfl rfl rfl
theorem zd_358_54 : decode prog_5_method_9_code 54 = .ok (.iadd, 1) := zsh_g zdk_358 (r := 13) (k := 2) rfl rfl rfl
theorem zd_358_55 : decode prog_5_method_9_code 55 = .ok (.aload_n 0, 1) := zsh_g zdk_358 (r := 13) (k := 3) rfl rfl rfl
theorem zd_358_56 : decode prog_5_method_9_code 56 = .ok (.getfield 49, 3) := zsh_g zdk_358 (r := 14) (k := 0) rfl rfl rfl
theorem zd_358_59 : decode prog_5_method_9_code 59 = .ok (.iastore, 1) := zsh_g zdk_358 (r := 14) (k := 1) rfl rfl rfl
theorem zd_358_60 : decode prog_5_method_9_code 60 = .ok (.aload_n 0, 1) := zsh_g zdk_358 (r := 15) (k := 0) rfl rfl rfl
theorem zd_358_61 : decode prog_5_method_9_code 61 = .ok (.dup, 1) := zsh_g zdk_358 (r := 15) (k := 1) rfl rfl rfl
theorem zd_358_62 : decode prog_5_method_9_code 62 = .ok (.getfield 64, 3) := zsh_g zdk_358 (r := 15) (k := 2) rfl rfl rfl
theorem zd_358_65 : decode prog_5_method_9_code 65 = .ok (.iconst 1, 1) := zsh_g zdk_358 (r := 16) (k := 0) rfl rfl rfl
theorem zd_358_66 : decode prog_5_method_9_code 66 = .ok (.iadd, 1) := zsh_g zdk_358 (r := 16) (k := 1) rfl rfl rfl
theorem zd_358_67 : decode prog_5_method_9_code 67 = .ok (.putfield 64, 3) := zsh_g zdk_358 (r := 16) (k := 2) rfl rfl rfl
theorem zd_358_70 : decode prog_5_method_9_code 70 = .ok (.iconst 0, 1) := zsh_g zdk_358 (r := 17) (k := 0) rfl rfl rfl
def zdl_359 : List (List (Nat × Instr × Nat)) := [[(0, (.aload_n 0), 1), (1, (.getfield 64), 3)], [(0, (.aload_n 0), 1), (1, (.getfield 15), 3)], [(0, (.aload_n 0), 1), (1, (.getfield 67), 3)], [(0, (.bipush 8), 2), (2, .imul, 1), (3, (.bipush 7), 2)], [(1, .iadd, 1), (2, .iaload, 1), (3, (.if_icmp .le 21), 3)], [(2, (.aload_n 0), 1), (3, (.getfield 32), 3)], [(2, (.iconst 2), 1), (3, (.aload_n 0), 1)], [(0, (.getfield 64), 3), (3, .imul, 1)], [(0, (.iconst 2), 1), (1, .isub, 1), (2, .iaload, 1), (3, (.iconst 4), 1)], [(0, .iand, 1), (1, (.ifCond .eq 5), 3)], [(0, (.iconst 5), 1), (2, (.aload_n 0), 1), (3, (.getfield 32), 3)], [(2, (.iconst 2), 1), (3, (.aload_n 0), 1)], [(0, (.getfield 64), 3), (3, .imul, 1)], [(0, (.iconst 2), 1), (1, .isub, 1), (2, .iaload, 1), (3, (.istore_n 1), 1)], [(0, (.aload_n 0), 1), (1, (.getfield 32), 3)], [(0, (.iconst 2), 1), (1, (.aload_n 0), 1), (2, (.getfield 64), 3)], [(1, .imul, 1), (2, (.iconst 2), 1), (3, .isub, 1)], [(0, (.iload_n 1), 1), (1, (.iconst 2), 1), (2, .iand, 1), (3, (.ifCond .ne 7), 3)], [(2, (.iconst 4), 1), (3, (.goto 8), 3)], [(2, (.iload_n 1), 1), (3, (.iconst 1), 1)], [(0, .ixor, 1), (1, (.iconst 4), 1), (2, .ior, 1), (3, .iastore, 1)], [(0, (.iconst 0), 1)]]
theorem zdk_359 : zsh_all 8 zdl_359 prog_5_method_10_code.data.toList = true := by decide +kernel
theorem zd_359_0 : decode prog_5_method_10_code 0 = .ok (.aload_n 0, 1) := zsh_g zdk_359 (r := 0) (k := 0) rfl rfl rfl
theorem zd_359_1 : decode prog_5_method_10_code 1 = .ok (.getfield 64, 3) := zsh_g zdk_359 (r := 0) (k := 1) rfl rfl rfl
theorem zd_359_4 : decode prog_5_method_10_code 4 = .ok (.aload_n 0, 1) := zsh_g zdk_359 (r := 1) (k := 0) rfl rfl rfl
theorem zd_359_5 : decode prog_5_method_10_code 5 = .ok (.getfield 15, 3) := zsh_g zdk_359 (r := 1) (k := 1) rfl rfl rfl
theorem zd_359_8 : decode prog_5_method_10_code 8 = .ok (.aload_n 0, 1) := zsh_g zdk_359 (r := 2) (k := 0) rfl rfl rfl
theorem zd_359_9 : decode prog_5_method_10_code 9 = .ok (.getfield 67, 3) := zsh_g zdk_359 (r := 2) (k := 1) rfl rfl rfl
theorem zd_359_12 : decode prog_5_method_10_code 12 = .ok (.bipush 8, 2) := zsh_g zdk_359 (r := 3) (k := 0) rfl rfl rfl
theorem zd_359_14 : decode prog_5_method_10_code 14 = .ok (.imul, 1) := zsh_g zdk_359 (r := 3) (k := 1) rfl rfl rfl
theorem zd_359_15 : decode prog_5_method_10_code 15 = .ok (.bipush 7, 2) := zsh_g zdk_359 (r := 3) (k := 2) rfl rfl rfl
theorem zd_359_17 : decode prog_5_method_10_code 17 = .ok (.iadd, 1) := zsh_g zdk_359 (r := 4) (k := 0) rfl rfl rfl
theorem zd_359_18 : decode prog_5_method_10_code 18 = .ok (.iaload, 1) := zsh_g zdk_359 (r := 4) (k := 1) rfl rfl rfl
theorem zd_359_19 : decode prog_5_method_10_code 19 = .ok (.if_icmp .le 21, 3) := zsh_g zdk_359 (r := 4) (k := 2) rfl rfl rfl
theorem zd_359_22 : decode prog_5_method_10_code 22 = .ok (.aload_n 0, 1) := zsh_g zdk_359 (r := 5) (k := 0) rfl rfl rfl
theorem zd_359_23 : decode prog_5_method_10_code 23 = .ok (.getfield 32, 3) := zsh_g zdk_359 (r := 5) (k := 1) rfl rfl rfl
theorem zd_359_26 : decode prog_5_method_10_code 26 = .ok (.iconst 2, 1) := zsh_g zdk_359 (r := 6) (k := 0) rfl rfl rfl
theorem zd_359_27 : decode prog_5_method_10_code 27 = .ok (.aload_n 0, 1) := zsh_g zdk_359 (r := 6) (k := 1) rfl rfl rfl
theorem zd_359_28 : decode prog_5_method_10_code 28 = .ok (.getfield 64, 3) := zsh_g zdk_359 (r := 7) (k := 0) rfl rfl rfl
theorem zd_359_31 : decode prog_5_method_10_code 31 = .ok (.imul, 1) := zsh_g zdk_359 (r := 7) (k := 1) rfl rfl rfl
theorem zd_359_32 : decode prog_5_method_10_code 32 = .ok (.iconst 2, 1) := zsh_g zdk_359 (r := 8) (k := 0) rfl rfl rfl
theorem zd_359_33 : decode prog_5_method_10_code 33 = .ok (.isub, 1) := zsh_g zdk_359 (r := 8) (k := 1) rfl rfl rfl
theorem zd_359_34 : decode prog_5_method_10_code 34 = .ok (.iaload, 1) := zsh_g zdk_359 (r := 8) (k := 2) rfl rfl rfl
theorem zd_359_35 : decode prog_5_method_10_code 35 = .ok (.iconst 4, 1) := zsh_g zdk_359 (r := 8) (k := 3) rfl rfl rfl
theorem zd_359_36 : decode prog_5_method_10_code 36 = .ok (.iand, 1) := zsh_g zdk_359 (r := 9) (k := 0) rfl rfl rfl
theorem zd_359_37 : decode prog_5_method_10_code 37 = .ok (.ifCond .eq 5, 3) := zsh_g zdk_359 (r := 9) (k := 1) rfl rfl rfl
theorem zd_359_40 : decode prog_5_method_10_code 40 = .ok (.iconst 5, 1) := zsh_g zdk_359 (r := 10) (k := 0) rfl rfl rfl
theorem zd_359_42 : decode prog_5_method_10_code 42 = .ok (.aload_n 0, 1) := zsh_g zdk_359 (r := 10) (k := 1) rfl rfl rfl
theorem zd_359_43 : decode prog_5_method_10_code 43 = .ok (.getfield 32, 3) := zsh_g zdk_359 (r := 10) (k := 2) rfl rfl rfl
theorem zd_359_46 : decode prog_5_method_10_code 46 = .ok (.iconst 2, 1) := zsh_g zdk_359 (r := 11) (k := 0) rfl rfl rfl
theorem zd_359_47 : decode prog_5_method_10_code 47 = .ok (.aload_n 0, 1) := zsh_g zdk_359 (r := 11) (k := 1) rfl rfl rfl
theorem zd_359_48 : decode prog_5_method_10_code 48 = .ok (.getfield 64, 3) := zsh_g zdk_359 (r := 12) (k := 0) rfl rfl rfl
theorem zd_359_51 : decode prog_5_method_10_code 51 = .ok (.imul, 1) := zsh_g zdk_359 (r := 12) (k := 1) rfl rfl rfl
theorem zd_359_52 : decode prog_5_method_10_code 52 = .ok (.iconst 2, 1) := zsh_g zdk_359 (r := 13) (k := 0) rfl rfl rfl
theorem zd_359_53 : decode prog_5_method_10_code 53 = .ok (.isub, 1) := zsh_g zdk_359 (r := 13) (k := 1) rfl rfl rfl
theorem zd_359_54 : decode prog_5_method_10_code 54 = .ok (.iaload, 1) := zsh_g zdk_359 (r := 13) (k := 2) rfl rfl rfl
theorem zd_359_55 : decode prog_5_method_10_code 55 = .ok (.istore_n 1, 1) := zsh_g zdk_359 (r := 13) (k := 3) rfl rfl rfl
theorem zd_359_56 : decode prog_5_method_10_code 56 = .ok (.aload_n 0, 1) := zsh_g zdk_359 (r := 14) (k := 0) rfl rfl rfl
theorem zd_359_57 : decode prog_5_method_10_code 57 = .ok (.getfield 32, 3) := zsh_g zdk_359 (r := 14) (k := 1) rfl rfl rfl
theorem zd_359_60 : decode prog_5_method_10_code 60 = .ok (.iconst 2, 1) := zsh_g zdk_359 (r := 15) (k := 0) rfl rfl rfl
theorem zd_359_61 : decode prog_5_method_10_code 61 = .ok (.aload_n 0, 1) := zsh_g zdk_359 (r := 15) (k := 1) rfl rfl rfl
theorem zd_359_62 : decode prog_5_method_10_code 62 = .ok (.getfield 64, 3) := zsh_g zdk_359 (r := 15) (k := 2) rfl rfl rfl
theorem zd_359_65 : decode prog_5_method_10_code 65 = .ok (.imul, 1) := zsh_g zdk_359 (r := 16) (k := 0) rfl rfl rfl
theorem zd_359_66 : decode prog_5_method_10_code 66 = .ok (.iconst 2, 1) := zsh_g zdk_359 (r := 16) (k := 1) rfl rfl rfl
theorem zd_359_67 : decode prog_5_method_10_code 67 = .ok (.isub, 1) := zsh_g zdk_359 (r := 16) (k := 2) rfl rfl rfl
theorem zd_359_68 : decode prog_5_method_10_code 68 = .ok (.iload_n 1, 1) := zsh_g zdk_359 (r := 17) (k := 0) rfl rfl rfl
theorem zd_359_69 : decode prog_5_method_10_code 69 = .ok (.iconst 2, 1) := zsh_g zdk_359 (r := 17) (k := 1) rfl rfl rfl
theorem zd_359_70 : decode prog_5_method_10_code 70 = .ok (.iand, 1) := zsh_g zdk_359 (r := 17) (k := 2) rfl rfl rfl
theorem zd_359_71 : decode prog_5_method_10_code 71 = .ok (.ifCond .ne 7, 3) := zsh_g zdk_359 (r := 17) (k := 3) rfl rfl rfl
theorem zd_359_74 : decode prog_5_method_10_code 74 = .ok (.iconst 4, 1) := zsh_g zdk_359 (r := 18) (k := 0) rfl rfl rfl
theorem zd_359_75 : decode prog_5_method_10_code 75 = .ok (.goto 8, 3) := zsh_g zdk_359 (r := 18) (k := 1) rfl rfl rfl
theorem zd_359_78 : decode prog_5_method_10_code 78 = .ok (.iload_n 1, 1) := zsh_g zdk_359 (r := 19) (k := 0) rfl rfl rfl
theorem zd_359_79 : decode prog_5_method_10_code 79 = .ok (.iconst 1, 1) := zsh_g zdk_359 (r := 19) (k := 1) rfl rfl rfl
theorem zd_359_80 : decode prog_5_method_10_code 80 = .ok (.ixor, 1) := zsh_g zdk_359 (r := 20) (k := 0) rfl rfl rfl
theorem zd_359_81 : decode prog_5_method_10_code 81 = .ok (.iconst 4, 1) := zsh_g zdk_359 (r := 20) (k := 1) rfl rfl rfl
theorem zd_359_82 : decode prog_5_method_10_code 82 = .ok (.ior, 1) := zsh_g zdk_359 (r := 20) (k := 2) rfl rfl rfl
theorem zd_359_83 : decode prog_5_method_10_code 83 = .ok (.iastore, 1) := zsh_g zdk_359 (r := 20) (k := 3) rfl rfl rfl
theorem zd_359_84 : decode prog_5_method_10_code 84 = .ok (.iconst 0, 1) := zsh_g zdk_359 (r := 21) (k := 0) rfl rfl rfl
def zdl_360 : List (List (Nat × Instr × Nat)) := [[(0, (.aload_n 0), 1), (1, (.getfield 64), 3)], [(0, (.aload_n 0), 1), (1, (.getfield 15), 3)], [(0, (.aload_n 0), 1), (1, (.getfield 67), 3)], [(0, (.bipush 8), 2), (2, .imul, 1), (3, (.bipush 7), 2)], [(1, .iadd, 1), (2, .iaload, 1), (3, (.if_icmp .gt 5), 3)], [(2, (.iconst 5), 1)], [(0, (.aload_n 0), 1), (1, .dup, 1), (2, (.getfield 64), 3)], [(1, (.iconst 1), 1), (2, .isub, 1), (3, (.putfield 64), 3)], [(2, (.iconst 0), 1)]]
theorem zdk_360 : zsh_all 8 zdl_360 prog_5_method_11_code.data.toList = true := by decide +kernel
theorem zd_360_0 : decode prog_5_method_11_code 0 = .ok (.aload_n 0, 1) := zsh_g zdk_360 (r := 0) (k := 0) rfl rfl rfl
theorem zd_360_1 : decode prog_5_method_11_code 1 = .ok (.getfield 64, 3) := zsh_g zdk_360 (r := 0) (k := 1) rfl rfl rfl
theorem zd_360_4 : decode prog_5_method_11_code 4 = .ok (.aload_n 0, 1) := zsh_g zdk_360 (r := 1) (k := 0) rfl rfl rfl
theorem zd_360_5 : decode prog_5_method_11_code 5 = .ok (.getfield 15, 3) := zsh_g zdk_360 (r := 1) (k := 1) rfl rfl rfl
theorem zd_360_8 : decode prog_5_method_11_code 8 = .ok (.aload_n 0, 1) := zsh_g zdk_360 (r := 2) (k := 0) rfl rfl rfl
theorem zd_360_9 : decode prog_5_method_11_code 9 = .ok (.getfield 67, 3) := zsh_g zdk_360 (r := 2) (k := 1) rfl rfl rfl
theorem zd_360_12 : decode prog_5_method_11_code 12 = .ok (.bipush 8, 2) := zsh_g zdk_360 (r := 3) (k := 0) rfl rfl rfl
theorem zd_360_14 : decode prog_5_method_11_code 14 = .ok (.imul, 1) := zsh_g zdk_360 (r := 3) (k := 1) rfl rfl rfl
theorem zd_360_15 : decode prog_5_method_11_code 15 = .ok (.bipush 7, 2) := zsh_g zdk_360 (r := 3) (k := 2) rfl rfl rfl
theorem zd_360_17 : decode prog_5_method_11_code 17 = .ok (.iadd, 1) := zsh_g zdk_360 (r := 4) (k := 0) rfl rfl rfl
theorem zd_360_18 : decode prog_5_method_11_code 18 = .ok (.iaload, 1) := zsh_g zdk_360 (r := 4) (k := 1) rfl rfl rfl
theorem zd_360_19 : decode prog_5_method_11_code 19 = .ok (.if_icmp .gt 5, 3) := zsh_g zdk_360 (r := 4) (k := 2) rfl rfl rfl
theorem zd_360_22 : decode prog_5_method_11_code 22 = .ok (.iconst 5, 1) := zsh_g zdk_360 (r := 5) (k := 0) rfl rfl rfl
theorem zd_360_24 : decode prog_5_method_11_code 24 = .ok (.aload_n 0, 1) := zsh_g zdk_360 (r := 6) (k := 0) rfl rfl rfl
theorem zd_360_25 : decode prog_5_method_11_code 25 = .ok (.dup, 1) := zsh_g zdk_360 (r := 6) (k := 1) rfl rfl rfl
theorem zd_360_26 : decode prog_5_method_11_code 26 = .ok (.getfield 64, 3) := zsh_g zdk_360 (r := 6) (k := 2) rfl rfl rfl
theorem zd_360_29 : decode prog_5_method_11_code 29 = .ok (.iconst 1, 1) := zsh_g zdk_360 (r := 7) (k := 0) rfl rfl rfl
theorem zd_360_30 : decode prog_5_method_11_code 30 = .ok (.isub, 1) := zsh_g zdk_360 (r := 7) (k := 1) rfl rfl rfl
theorem zd_360_31 : decode prog_5_method_11_code 31 = .ok (.putfield 64, 3) := zsh_g zdk_360 (r := 7) (k := 2) rfl rfl rfl
theorem zd_360_34 : decode prog_5_method_11_code 34 = .ok (.iconst 0, 1) := zsh_g zdk_360 (r := 8) (k := 0) rfl rfl rfl
def zdl_361 : List (List (Nat × Instr × Nat)) := [[(0, (.aload_n 0), 1), (1, (.getfield 122), 3)], [(0, (.aload_n 0), 1), (1, (.getfield 11), 3)], [(0, .arraylength, 1), (1, (.if_icmp .ge 13), 3)], [(0, (.aload_n 0), 1), (1, (.getfield 11), 3)], [(0, (.aload_n 0), 1), (1, (.getfield 122), 3)], [(0, (.iload_n 1), 1), (1, .bastore, 1), (2, (.aload_n 0), 1), (3, .dup, 1)], [(0, (.getfield 122), 3), (3, (.iconst 1), 1)], [(0, .iadd, 1), (1, (.putfield 122), 3)]]
theorem zdk_361 : zsh_all 8 zdl_361 prog_5_method_22_code.data.toList = true := by decide +kernel
theorem zd_361_0 : decode prog_5_method_22_code 0 = .ok (.aload_n 0, 1) := zsh_g zdk_361 (r := 0) (k := 0) rfl rfl rfl
theorem zd_361_1 : decode prog_5_method_22_code 1 = .ok (.getfield 122, 3) := zsh_g zdk_361 (r := 0) (k := 1) rfl rfl rfl
theorem zd_361_4 : decode prog_5_method_22_code 4 = .ok (.aload_n 0, 1) := zsh_g zdk_361 (r := 1) (k := 0) rfl rfl rfl
theorem zd_361_5 : decode prog_5_method_22_code 5 = .ok (.getfield 11, 3) := zsh_g zdk_361 (r := 1) (k := 1) rfl rfl rfl
theorem zd_361_8 : decode prog_5_method_22_code 8 = .ok (.arraylength, 1) := zsh_g zdk_361 (r := 2) (k := 0) rfl rfl rfl
theorem zd_361_9 : decode prog_5_method_22_code 9 = .ok (.if_icmp .ge 13, 3) := zsh_g zdk_361 (r := 2) (k := 1) rfl rfl rfl
theorem zd_361_12 : decode prog_5_method_22_code 12 = .ok (.aload_n 0, 1) := zsh_g zdk_361 (r := 3) (k := 0) rfl rfl rfl
theorem zd_361_13 : decode prog_5_method_22_code 13 = .ok (.getfield 11, 3) := zsh_g zdk_361 (r := 3) (k := 1) rfl rfl rfl
theorem zd_361_16 : decode prog_5_method_22_code 16 = .ok (.aload_n 0, 1) := zsh_g zdk_361 (r := 4) (k := 0) rfl rfl rfl
theorem zd_361_17 : decode prog_5_method_22_code 17 = .ok (.getfield 122, 3) := zsh_g zdk_361 (r := 4) (k := 1) rfl rfl rfl
theorem zd_361_20 : decode prog_5_method_22_code 20 = .ok (.iload_n 1, 1) := zsh_g zdk_361 (r := 5) (k := 0) rfl rfl rfl
theorem zd_361_21 : decode prog_5_method_22_code 21 = .ok (.bastore, 1) := zsh_g zdk_361 (r := 5) (k := 1) rfl rfl rfl
theorem zd_361_22 : decode prog_5_method_22_code 22 = .ok (.aload_n 0, 1) := zsh_g zdk_361 (r := 5) (k := 2) rfl rfl rfl
theorem zd_361_23 : decode prog_5_method_22_code 23 = .ok (.dup, 1) := zsh_g zdk_361 (r := 5) (k := 3) rfl rfl rfl
theorem zd_361_24 : decode prog_5_method_22_code 24 = .ok (.getfield 122, 3) := zsh_g zdk_361 (r := 6) (k := 0) rfl rfl rfl
theorem zd_361_27 : decode prog_5_method_22_code 27 = .ok (.iconst 1, 1) := zsh_g zdk_361 (r := 6) (k := 1) rfl rfl rfl
theorem zd_361_28 : decode prog_5_method_22_code 28 = .ok (.iadd, 1) := zsh_g zdk_361 (r := 7) (k := 0) rfl rfl rfl
theorem zd_361_29 : decode prog_5_method_22_code 29 = .ok (.putfield 122, 3) := zsh_g zdk_361 (r := 7) (k := 1) rfl rfl rfl
def zdl_362 : List (List (Nat × Instr × Nat)) := [[(0, (.iconst 1), 1), (1, (.istore_n 2), 1), (2, (.iload_n 2), 1), (3, (.ldc 157), 2)], [(1, (.if_icmp .gt 19), 3)], [(0, (.iload_n 1), 1), (1, (.iload_n 2), 1), (2, .idiv, 1), (3, (.bipush 10), 2)], [(1, (.if_icmp .lt 11), 3)], [(0, (.iload_n 2), 1), (1, (.bipush 10), 2), (3, .imul, 1)], [(0, (.istore_n 2), 1), (1, (.goto (-19)), 3)], [(0, (.iload_n 2), 1), (1, (.ifCond .le 25), 3)], [(0, (.aload_n 0), 1), (1, (.bipush 48), 2), (3, (.iload_n 1), 1)], [(0, (.iload_n 2), 1), (1, .idiv, 1), (2, (.bipush 10), 2)], [(0, .irem, 1), (1, .iadd, 1), (2, .i2b, 1), (3, (.invokevirtual 145), 3)], [(2, (.iload_n 2), 1), (3, (.bipush 10), 2)], [(1, .idiv, 1), (2, (.istore_n 2), 1), (3, (.goto (-23)), 3)]]
theorem zdk_362 : zsh_all 8 zdl_362 prog_5_method_23_code.data.toList = true := by decide +kernel
theorem zd_362_0 : decode prog_5_method_23_code 0 = .ok (.iconst 1, 1) := zsh_g zdk_362 (r := 0) (k := 0) rfl rfl rfl
theorem zd_362_1 : decode prog_5_method_23_code 1 = .ok (.istore_n 2, 1) := zsh_g zdk_362 (r := 0) (k := 1) rfl rfl rfl
theorem zd_362_2 : decode prog_5_method_23_code 2 = .ok (.iload_n 2, 1) := zsh_g zdk_362 (r := 0) (k := 2) rfl rfl rfl
theorem zd_362_3 : decode prog_5_method_23_code 3 = .ok (.ldc 157, 2) := zsh_g zdk_362 (r := 0) (k := 3) rfl rfl rfl
theorem zd_362_5 : decode prog_5_method_23_code 5 = .ok (.if_icmp .gt 19, 3) := zsh_g zdk_362 (r := 1) (k := 0) rfl rfl rfl
theorem zd_362_8 : decode prog_5_method_23_code 8 = .ok (.iload_n 1, 1) := zsh_g zdk_362 (r := 2) (k := 0) rfl rfl rfl
theorem zd_362_9 : decode prog_5_method_23_code 9 = .ok (.iload_n 2, 1) := zsh_g zdk_362 (r := 2) (k := 1) rfl rfl rfl
theorem zd_362_10 : decode prog_5_method_23_code 10 = .ok (.idiv, 1) := zsh_g zdk_362 (r := 2) (k := 2) rfl rfl rfl
theorem zd_362_11 : decode prog_5_method_23_code 11 = .ok (.bipush 10, 2) := zsh_g zdk_362 (r := 2) (k := 3) rfl rfl rfl
theorem zd_362_13 : decode prog_5_method_23_code 13 = .ok (.if_icmp .lt 11, 3) := zsh_g zdk_362 (r := 3) (k := 0) rfl rfl rfl
theorem zd_362_16 : decode prog_5_method_23_code 16 = .ok (.iload_n 2, 1) := zsh_g zdk_362 (r := 4) (k := 0) rfl rfl rfl
theorem zd_362_17 : decode prog_5_method_23_code 17 = .ok (.bipush 10, 2) := zsh_g zdk_362 (r := 4) (k := 1) rfl rfl rfl
theorem zd_362_19 : decode prog_5_method_23_code 19 = .ok (.imul, 1) := zsh_g zdk_362 (r := 4) (k := 2) rfl rfl rfl
theorem zd_362_20 : decode prog_5_method_23_code 20 = .ok (.istore_n 2, 1) := zsh_g zdk_362 (r := 5) (k := 0) rfl rfl rfl
theorem zd_362_21 : decode prog_5_method_23_code 21 = .ok (.goto (-19), 3) := zsh_g zdk_362 (r := 5) (k := 1) rfl rfl rfl
theorem zd_362_24 : decode prog_5_method_23_code 24 = .ok (.iload_n 2, 1) := zsh_g zdk_362 (r := 6) (k := 0) rfl rfl rfl
theorem zd_362_25 : decode prog_5_method_23_code 25 = .ok (.ifCond .le 25, 3) := zsh_g zdk_362 (r := 6) (k := 1) rfl rfl rfl
theorem zd_362_28 : decode prog_5_method_23_code 28 = .ok (.aload_n 0, 1) := zsh_g zdk_362 (r := 7) (k := 0) rfl rfl rfl
theorem zd_362_29 : decode prog_5_method_23_code 29 = .ok (.bipush 48, 2) := zsh_g zdk_362 (r := 7) (k := 1) rfl rfl rfl
theorem zd_362_31 : decode prog_5_method_23_code 31 = .ok (.iload_n 1, 1) := zsh_g zdk_362 (r := 7) (k := 2) rfl rfl rfl
theorem zd_362_32 : decode prog_5_method_23_code 32 = .ok (.iload_n 2, 1) := zsh_g zdk_362 (r := 8) (k := 0) rfl rfl rfl
theorem zd_362_33 : decode prog_5_method_23_code 33 = .ok (.idiv, 1) := zsh_g zdk_362 (r := 8) (k := 1) rfl rfl rfl
theorem zd_362_34 : decode prog_5_method_23_code 34 = .ok (.bipush 10, 2) := zsh_g zdk_362 (r := 8) (k := 2) rfl rfl rfl
theorem zd_362_36 : decode prog_5_method_23_code 36 = .ok (.irem, 1) := zsh_g zdk_362 (r := 9) (k := 0) rfl rfl rfl
theorem zd_362_37 : decode prog_5_method_23_code 37 = .ok (.iadd, 1) := zsh_g zdk_362 (r := 9) (k := 1) rfl rfl rfl
theorem zd_362_38 : decode prog_5_method_23_code 38 = .ok (.i2b, 1) := zsh_g zdk_362 (r := 9) (k := 2) rfl rfl rfl
theorem zd_362_39 : decode prog_5_method_23_code 39 = .ok (.invokevirtual 145, 3) := zsh_g zdk_362 (r := 9) (k := 3) rfl rfl rfl
theorem zd_362_42 : decode prog_5_method_23_code 42 = .ok (.iload_n 2, 1) := zsh_g zdk_362 (r := 10) (k := 0) rfl rfl rfl
theorem zd_362_43 : decode prog_5_method_23_code 43 = .ok (.bipush 10, 2) := zsh_g zdk_362 (r := 10) (k := 1) rfl rfl rfl
theorem zd_362_45 : decode prog_5_method_23_code 45 = .ok (.idiv, 1) := zsh_g zdk_362 (r := 11) (k := 0) rfl rfl rfl
theorem zd_362_46 : decode prog_5_method_23_code 46 = .ok (.istore_n 2, 1) := zsh_g zdk_362 (r := 11) (k := 1) rfl rfl rfl
theorem zd_362_47 : decode prog_5_method_23_code 47 = .ok (.goto (-23), 3) := zsh_g zdk_362 (r := 11) (k := 2) rfl rfl rfl
def zdl_363 : List (List (Nat × Instr × Nat)) := [[(0, (.iload_n 0), 1), (1, (.bipush 97), 2), (3, (.if_icmp .lt 9), 3)], [(2, (.iload_n 0), 1), (3, (.bipush 122), 2)], [(1, (.if_icmp .le 27), 3)], [(0, (.iload_n 0), 1), (1, (.bipush 48), 2), (3, (.if_icmp .lt 9), 3)], [(2, (.iload_n 0), 1), (3, (.bipush 57), 2)], [(1, (.if_icmp .le 15), 3)], [(0, (.iload_n 0), 1), (1, (.bipush 95), 2), (3, (.if_icmp .eq 9), 3)], [(2, (.iload_n 0), 1), (3, (.bipush 46), 2)], [(1, (.if_icmp .ne 7), 3)], [(0, (.iconst 1), 1), (1, (.goto 4), 3)], [(0, (.iconst 0), 1)]]
theorem zdk_363 : zsh_all 8 zdl_363 prog_1_method_32_code.data.toList = true := by decide +kernel
theorem zd_363_0 : decode prog_1_method_32_code 0 = .ok (.iload_n 0, 1) := zsh_g zdk_363 (r := 0) (k := 0) rfl rfl rfl
theorem zd_363_1 : decode prog_1_method_32_code 1 = .ok (.bipush 97, 2) := zsh_g zdk_363 (r := 0) (k := 1) rfl rfl rfl
theorem zd_363_3 : decode prog_1_method_32_code 3 = .ok (.if_icmp .lt 9, 3) := zsh_g zdk_363 (r := 0) (k := 2) rfl rfl rfl
theorem zd_363_6 : decode prog_1_method_32_code 6 = .ok (.iload_n 0, 1) := zsh_g zdk_363 (r := 1) (k := 0) rfl rfl rfl
theorem zd_363_7 : decode prog_1_method_32_code 7 = .ok (.bipush 122, 2) := zsh_g zdk_363 (r := 1) (k := 1) rfl rfl rfl
theorem zd_363_9 : decode prog_1_method_32_code 9 = .ok (.if_icmp .le 27, 3) := zsh_g zdk_363 (r := 2) (k := 0) rfl rfl rfl
theorem zd_363_12 : decode prog_1_method_32_code 12 = .ok (.iload_n 0, 1) := zsh_g zdk_363 (r := 3) (k := 0) rfl rfl rfl
theorem zd_363_13 : decode prog_1_method_32_code 13 = .ok (.bipush 48, 2) := zsh_g zdk_363 (r := 3) (k := 1) rfl rfl rfl
theorem zd_363_15 : decode prog_1_method_32_code 15 = .ok (.if_icmp .lt 9, 3) := zsh_g zdk_363 (r := 3) (k := 2) rfl rfl rfl
theorem zd_363_18 : decode prog_1_method_32_code 18 = .ok (.iload_n 0, 1) := zsh_g zdk_363 (r := 4) (k := 0) rfl rfl rfl
theorem zd_363_19 : decode prog_1_method_32_code 19 = .ok (.bipush 57, 2) := zsh_g zdk_363 (r := 4) (k := 1) rfl rfl rfl
theorem zd_363_21 : decode prog_1_method_32_code 21 = .ok (.if_icmp .le 15, 3) := zsh_g zdk_363 (r := 5) (k := 0) rfl rfl rfl
theorem zd_363_24 : decode prog_1_method_32_code 24 = .ok (.iload_n 0, 1) := zsh_g zdk_363 (r := 6) (k := 0) rfl rfl rfl
theorem zd_363_25 : decode prog_1_method_32_code 25 = .ok (.bipush 95, 2) := zsh_g zdk_363 (r := 6) (k := 1) rfl rfl rfl
theorem zd_363_27 : decode prog_1_method_32_code 27 = .ok (.if_icmp .eq 9, 3) := zsh_g zdk_363 (r := 6) (k := 2) rfl rfl rfl
theorem zd_363_30 : decode prog_1_method_32_code 30 = .ok (.iload_n 0, 1) := zsh_g zdk_363 (r := 7) (k := 0) rfl rfl rfl
theorem zd_363_31 : decode prog_1_method_32_code 31 = .ok (.bipush 46, 2) := zsh_g zdk_363 (r := 7) (k := 1) rfl rfl rfl
theorem zd_363_33 : decode prog_1_method_32_code 33 = .ok (.if_icmp .ne 7, 3) := zsh_g zdk_363 (r := 8) (k := 0) rfl rfl rfl
theorem zd_363_36 : decode prog_1_method_32_code 36 = .ok (.iconst 1, 1) := zsh_g zdk_363 (r := 9) (k := 0) rfl rfl rfl
theorem zd_363_37 : decode prog_1_method_32_code 37 = .ok (.goto 4, 3) := zsh_g zdk_363 (r := 9) (k := 1) rfl rfl rfl
theorem zd_363_40 : decode prog_1_method_32_code 40 = .ok (.iconst 0, 1) := zsh_g zdk_363 (r := 10) (k := 0) rfl rfl rfl
def zdl_364 : List (List (Nat × Instr × Nat)) := [[(0, (.aload_n 0), 1), (1, (.getfield 15), 3)], [(0, (.iload_n 1), 1), (1, (.bipush 8), 2), (3, .imul, 1)], [(0, (.iconst 5), 1), (1, .iadd, 1), (2, .iaload, 1), (3, (.bipush 10), 2)], [(1, .imul, 1), (2, (.istore 4), 2)], [(0, (.aload_n 0), 1), (1, (.getfield 39), 3)], [(0, (.iload_n 2), 1), (1, (.iload_n 3), 1), (2, (.invokestatic 88), 3)], [(1, (.lstore 5), 2), (3, (.aload_n 0), 1)], [(0, (.getfield 39), 3), (3, (.iload_n 2), 1)], [(0, (.bipush 8), 2), (2, .iadd, 1), (3, (.iload_n 3), 1)], [(0, (.invokestatic 88), 3), (3, (.lstore 7), 2)], [(1, (.iload_n 3), 1), (2, (.iload_n 2), 1), (3, .isub, 1)], [(0, (.bipush 16), 2), (2, (.if_icmp .le 7), 3)], [(1, (.iconst 0), 1), (2, (.goto 8), 3)], [(1, (.aload_n 0), 1), (2, (.iload_n 1), 1), (3, (.invokevirtual 118), 3)], [(2, (.istore 9), 2)], [(0, (.iconst 0), 1), (1, (.istore 10), 2), (3, (.iload 10), 2)], [(1, (.iload 9), 2), (3, (.if_icmp .ge 99), 3)], [(2, (.aload_n 0), 1), (3, (.getfield 22), 3)], [(2, (.iload 4), 2)], [(0, (.iconst 2), 1), (1, .iadd, 1), (2, (.iconst 2), 1), (3, (.iload 10), 2)], [(1, .imul, 1), (2, .iadd, 1), (3, .laload, 1)], [(0, (.lload 5), 2), (2, .lcmp, 1), (3, (.ifCond .ne 73), 3)], [(2, (.aload_n 0), 1), (3, (.getfield 22), 3)], [(2, (.iload 4), 2)], [(0, (.iconst 3), 1), (1, .iadd, 1), (2, (.iconst 2), 1), (3, (.iload 10), 2)], [(1, .imul, 1), (2, .iadd, 1), (3, .laload, 1)], [(0, (.lload 7), 2), (2, .lcmp, 1), (3, (.ifCond .ne 53), 3)], [(2, (.aload_n 0), 1), (3, (.getfield 29), 3)], [(2, (.iload_n 1), 1), (3, (.iconst 5), 1)], [(0, .imul, 1), (1, (.iload 10), 2), (3, .iadd, 1)], [(0, .iaload, 1), (1, (.istore 11), 2), (3, (.iload 11), 2)], [(1, (.aload_n 0), 1), (2, (.getfield 29), 3)], [(1, (.iload_n 1), 1), (2, (.iconst 5), 1), (3, .imul, 1)], [(0, (.iload 10), 2), (2, .iadd, 1), (3, (.iconst 1), 1)], [(0, .iadd, 1), (1, .iaload, 1), (2, (.if_icmp .ge 20), 3)], [(1, (.aload_n 0), 1), (2, (.aload_n 0), 1), (3, (.getfield 26), 3)], [(2, (.iload 11), 2)], [(0, .baload, 1), (1, (.invokevirtual 145), 3)], [(0, (.iinc 11 1), 3), (3, (.goto (-32)), 3)], [(2, (.iconst 1), 1)], [(0, (.iinc 10 1), 3), (3, (.goto (-100)), 3)], [(2, (.iconst 0), 1)]]
theorem zdk_364 : zsh_all 8 zdl_364 prog_5_method_24_code.data.toList = true := by decide +kernel
theorem zd_364_0 : decode prog_5_method_24_code 0 = .ok (.aload_n 0, 1) := zsh_g zdk_364 (r := 0) (k := 0) rfl rfl rfl
theorem zd_364_1 : decode prog_5_method_24_code 1 = .ok (.getfield 15, 3) := zsh_g zdk_364 (r := 0) (k := 1) rfl rfl rfl
theorem zd_364_4 : decode prog_5_method_24_code 4 = .ok (.iload_n 1, 1) := zsh_g zdk_364 (r := 1) (k := 0) rfl rfl rfl
theorem zd_364_5 : decode prog_5_method_24_code 5 = .ok (.bipush 8, 2) := zsh_g zdk_364 (r := 1) (k := 1) rfl rfl rfl
theorem zd_364_7 : decode prog_5_method_24_code 7 = .ok (.imul, 1) := zsh_g zdk_364 (r := 1) (k := 2) rfl rfl rfl
theorem zd_364_8 : decode prog_5_method_24_code 8 = .ok (.iconst 5, 1) := zsh_g zdk_364 (r := 2) (k := 0) rfl rfl rfl
theorem zd_364_9 : decode prog_5_method_24_code 9 = .ok (.iadd, 1) := zsh_g zdk_364 (r := 2) (k := 1) rfl rfl rfl
theorem zd_364_10 : decode prog_5_method_24_code 10 = .ok (.iaload, 1) := zsh_g zdk_364 (r := 2) (k := 2) rfl rfl rfl
theorem zd_364_11 : decode prog_5_method_24_code 11 = .ok (.bipush 10, 2) := zsh_g zdk_364 (r := 2) (k := 3) rfl rfl rfl
theorem zd_364_13 : decode prog_5_method_24_code 13 = .ok (.imul, 1) := zsh_g zdk_364 (r := 3) (k := 0) rfl rfl rfl
theorem zd_364_14 : decode prog_5_method_24_code 14 = .ok (.istore 4, 2) := zsh_g zdk_364 (r := 3) (k := 1) rfl rfl rfl
theorem zd_364_16 : decode prog_5_method_24_code 16 = .ok (.aload_n 0, 1) := zsh_g zdk_364 (r := 4) (k := 0) rfl rfl rfl
theorem zd_364_17 : decode prog_5_method_24_code 17 = .ok (.getfield 39, 3) := zsh_g zdk_364 (r := 4) (k := 1) rfl rfl rfl
theorem zd_364_20 : decode prog_5_method_24_code 20 = .ok (.iload_n 2, 1) := zsh_g zdk_364 (r := 5) (k := 0) rfl rfl rfl
theorem zd_364_21 : decode prog_5_method_24_code 21 = .ok (.iload_n 3, 1) := zsh_g zdk_364 (r := 5) (k := 1) rfl rfl rfl
theorem zd_364_22 : decode prog_5_method_24_code 22 = .ok (.invokestatic 88, 3) := zsh_g zdk_364 (r := 5) (k := 2) rfl rfl rfl
theorem zd_364_25 : decode prog_5_method_24_code 25 = .ok (.lstore 5, 2) := zsh_g zdk_364 (r := 6) (k := 0) rfl rfl rfl
theorem zd_364_27 : decode prog_5_method_24_code 27 = .ok (.aload_n 0, 1) := zsh_g zdk_364 (r := 6) (k := 1) rfl rfl rfl
theorem zd_364_28 : decode prog_5_method_24_code 28 = .ok (.getfield 39, 3) := zsh_g zdk_364 (r := 7) (k := 0) rfl rfl rfl
theorem zd_364_31 : decode prog_5_method_24_code 31 = .ok (.iload_n 2, 1) := zsh_g zdk_364 (r := 7) (k := 1) rfl rfl rfl
theorem zd_364_32 : decode prog_5_method_24_code 32 = .ok (.bipush 8, 2) := zsh_g zdk_364 (r := 8) (k := 0) rfl rfl rfl
theorem zd_364_34 : decode prog_5_method_24_code 34 = .ok (.iadd, 1) := zsh_g zdk_364 (r := 8) (k := 1) rfl rfl rfl
theorem zd_364_35 : decode prog_5_method_24_code 35 = .ok (.iload_n 3, 1) := zsh_g zdk_364 (r := 8) (k := 2) rfl rfl rfl
theorem zd_364_36 : decode prog_5_method_24_code 36 = .ok (.invokestatic 88, 3) := zsh_g zdk_364 (r := 9) (k := 0) rfl rfl rfl
theorem zd_364_39 : decode prog_5_method_24_code 39 = .ok (.lstore 7, 2) := zsh_g zdk_364 (r := 9) (k := 1) rfl rfl rfl
theorem zd_364_41 : decode prog_5_method_24_code 41 = .ok (.iload_n 3, 1) := zsh_g zdk_364 (r := 10) (k := 0) rfl rfl rfl
theorem zd_364_42 : decode prog_5_method_24_code 42 = .ok (.iload_n 2, 1) := zsh_g zdk_364 (r := 10) (k := 1) rfl rfl rfl
theorem zd_364_43 : decode prog_5_method_24_code 43 = .ok (.isub, 1) := zsh_g zdk_364 (r := 10) (k := 2) rfl rfl rfl
theorem zd_364_44 : decode prog_5_method_24_code 44 = .ok (.bipush 16, 2) := zsh_g zdk_364 (r := 11) (k := 0) rfl rfl rfl
theorem zd_364_46 : decode prog_5_method_24_code 46 = .ok (.if_icmp .le 7, 3) := zsh_g zdk_364 (r := 11) (k := 1) rfl rfl rfl
theorem zd_364_49 : decode prog_5_method_24_code 49 = .ok (.iconst 0, 1) := zsh_g zdk_364 (r := 12) (k := 0) rfl rfl rfl
theorem zd_364_50 : decode prog_5_method_24_code 50 = .ok (.goto 8, 3) := zsh_g zdk_364 (r := 12) (k := 1) rfl rfl rfl
theorem zd_364_53 : decode prog_5_method_24_code 53 = .ok (.aload_n 0, 1) := zsh_g zdk_364 (r := 13) (k := 0) rfl rfl rfl
theorem zd_364_54 : decode prog_5_method_24_code 54 = .ok (.iload_n 1, 1) := zsh_g zdk_364 (r := 13) (k := 1) rfl rfl rfl
theorem zd_364_55 : decode prog_5_method_24_code 55 = .ok (.invokevirtual 118, 3) := zsh_g zdk_364 (r := 13) (k := 2) rfl rfl rfl
theorem zd_364_58 : decode prog_5_method_24_code 58 = .ok (.istore 9, 2) := zsh_g zdk_364 (r := 14) (k := 0) rfl rfl rfl
theorem zd_364_60 : decode prog_5_method_24_code 60 = .ok (.iconst 0, 1) := zsh_g zdk_364 (r := 15) (k := 0) rfl rfl rfl
theorem zd_364_61 : decode prog_5_method_24_code 61 = .ok (.istore 10, 2) := zsh_g zdk_364 (r := 15) (k := 1) rfl rfl rfl
theorem zd_364_63 : decode prog_5_method_24_code 63 = .ok (.iload 10, 2) := zsh_g zdk_364 (r := 15) (k := 2) rfl rfl rfl
theorem zd_364_65 : decode prog_5_method_24_code 65 = .ok (.iload 9, 2) := zsh_g zdk_364 (r := 16) (k := 0) rfl rfl rfl
theorem zd_364_67 : decode prog_5_method_24_code 67 = .ok (.if_icmp .ge 99, 3) := zsh_g zdk_364 (r := 16) (k := 1) rfl rfl rfl
theorem zd_364_70 : decode prog_5_method_24_code 70 = .ok (.aload_n 0, 1) := zsh_g zdk_364 (r := 17) (k := 0) rfl rfl rfl
theorem zd_364_71 : decode prog_5_method_24_code 71 = .ok (.getfield 22, 3) := zsh_g zdk_364 (r := 17) (k := 1) rfl rfl rfl
theorem zd_364_74 : decode prog_5_method_24_code 74 = .ok (.iload 4, 2) := zsh_g zdk_364 (r := 18) (k := 0) rfl rfl rfl
theorem zd_364_76 : decode prog_5_method_24_code 76 = .ok (.iconst 2, 1) := zsh_g zdk_364 (r := 19) (k := 0) rfl rfl rfl
theorem zd_364_77 : decode prog_5_method_24_code 77 = .ok (.iadd, 1) := zsh_g zdk_364 (r := 19) (k := 1) rfl rfl rfl
theorem zd_364_78 : decode prog_5_method_24_code 78 = .ok (.iconst 2, 1) := zsh_g zdk_364 (r := 19) (k := 2) rfl rfl rfl
theorem zd_364_79 : decode prog_5_method_24_code 79 = .ok (.iload 10, 2) := zsh_g zdk_364 (r := 19) (k := 3) rfl rfl rfl
theorem zd_364_81 : decode prog_5_method_24_code 81 = .ok (.imul, 1) := zsh_g zdk_364 (r := 20) (k := 0) rfl rfl rfl
theorem zd_364_82 : decode prog_5_method_24_code 82 = .ok (.iadd, 1) := zsh_g zdk_364 (r := 20) (k := 1) rfl rfl rfl
theorem zd_364_83 : decode prog_5_method_24_code 83 = .ok (.laload, 1) := zsh_g zdk_364 (r := 20) (k := 2) rfl rfl rfl
theorem zd_364_84 : decode prog_5_method_24_code 84 = .ok (.lload 5, 2) := zsh_g zdk_364 (r := 21) (k := 0) rfl rfl rfl
theorem zd_364_86 : decode prog_5_method_24_code 86 = .ok (.lcmp, 1) := zsh_g zdk_364 (r := 21) (k := 1) rfl rfl rfl
theorem zd_364_87 : decode prog_5_method_24_code 87 = .ok (.ifCond .ne 73, 3) := zsh_g zdk_364 (r := 21) (k := 2) rfl rfl rfl
theorem zd_364_90 : decode prog_5_method_24_code 90 = .ok (.aload_n 0, 1) := zsh_g zdk_364 (r := 22) (k := 0) rfl rfl rfl
theorem zd_364_91 : decode prog_5_method_24_code 91 = .ok (.getfield 22, 3) := zsh_g zdk_364 (r := 22) (k := 1) rfl rfl rfl
theorem zd_364_94 : decode prog_5_method_24_code 94 = .ok (.iload 4, 2) := zsh_g zdk_364 (r := 23) (k := 0) rfl rfl rfl
theorem zd_364_96 : decode prog_5_method_24_code 96 = .ok (.iconst 3, 1) := zsh_g zdk_364 (r := 24) (k := 0) rfl rfl rfl
theorem zd_364_97 : decode prog_5_method_24_code 97 = .ok (.iadd, 1) := zsh_g zdk_364 (r := 24) (k := 1) rfl rfl rfl
theorem zd_364_98 : decode prog_5_method_24_code 98 = .ok (.iconst 2, 1) := zsh_g zdk_364 (r := 24) (k := 2) rfl rfl rfl
theorem zd_364_99 : decode prog_5_method_24_code 99 = .ok (.iload 10, 2) := zsh_g zdk_364 (r := 24) (k := 3) rfl rfl rfl
theorem zd_364_101 : decode prog_5_method_24_code 101 = .ok (.imul, 1) := zsh_g zdk_364 (r := 25) (k := 0) rfl rfl rfl
theorem zd_364_102 : decode prog_5_method_24_code 102 = .ok (.iadd, 1) := zsh_g zdk_364 (r := 25) (k := 1) rfl rfl rfl
theorem zd_364_103 : decode prog_5_method_24_code 103 = .ok (.laload, 1) := zsh_g zdk_364 (r := 25) (k := 2) rfl rfl rfl
theorem zd_364_104 : decode prog_5_method_24_code 104 = .ok (.lload 7, 2) := zsh_g zdk_364 (r := 26) (k := 0) rfl rfl rfl
theorem zd_364_106 : decode prog_5_method_24_code 106 = .ok (.lcmp, 1) := zsh_g zdk_364 (r := 26) (k := 1) rfl rfl rfl
theorem zd_364_107 : decode prog_5_method_24_code 107 = .ok (.ifCond .ne 53, 3) := zsh_g zdk_364 (r := 26) (k := 2) rfl rfl rfl
theorem zd_364_110 : decode prog_5_method_24_code 110 = .ok (.aload_n 0, 1) := zsh_g zdk_364 (r := 27) (k := 0) rfl rfl rfl
theorem zd_364_111 : decode prog_5_method_24_code 111 = .ok (.getfield 29, 3) := zsh_g zdk_364 (r := 27) (k := 1) rfl rfl rfl
theorem zd_364_114 : decode prog_5_method_24_code 114 = .ok (.iload_n 1, 1) := zsh_g zdk_364 (r := 28) (k := 0) rfl rfl rfl
theorem zd_364_115 : decode prog_5_method_24_code 115 = .ok (.iconst 5, 1) := zsh_g zdk_364 (r := 28) (k := 1) rfl rfl rfl
theorem zd_364_116 : decode prog_5_method_24_code 116 = .ok (.imul, 1) := zsh_g zdk_364 (r := 29) (k := 0) rfl rfl rfl
theorem zd_364_117 : decode prog_5_method_24_code 117 = .ok (.iload 10, 2) := zsh_g zdk_364 (r := 29) (k := 1) rfl rfl rfl
theorem zd_364_119 : decode prog_5_method_24_code 119 = .ok (.iadd, 1) := zsh_g zdk_364 (r := 29) (k := 2) rfl rfl rfl
theorem zd_364_120 : decode prog_5_method_24_code 120 = .ok (.iaload, 1) := zsh_g zdk_364 (r := 30) (k := 0) rfl rfl rfl
theorem zd_364_121 : decode prog_5_method_24_code 121 = .ok (.istore 11, 2) := zsh_g zdk_364 (r := 30) (k := 1) rfl rfl rfl
theorem zd_364_123 : decode prog_5_method_24_code 123 = .ok (.iload 11, 2) := zsh_g zdk_364 (r := 30) (k := 2) rfl rfl rfl
theorem zd_364_125 : decode prog_5_method_24_code 125 = .ok (.aload_n 0, 1) := zsh_g zdk_364 (r := 31) (k := 0) rfl rfl rfl
theorem zd_364_126 : decode prog_5_method_24_code 126 = .ok (.getfield 29, 3) := zsh_g zdk_364 (r := 31) (k := 1) rfl rfl rfl
theorem zd_364_129 : decode prog_5_method_24_code 129 = .ok (.iload_n 1, 1) := zsh_g zdk_364 (r := 32) (k := 0) rfl rfl rfl
theorem zd_364_130 : decode prog_5_method_24_code 130 = .ok (.iconst 5, 1) := zsh_g zdk_364 (r := 32) (k := 1) rfl rfl rfl
theorem zd_364_131 : decode prog_5_method_24_code 131 = .ok (.imul, 1) := zsh_g zdk_364 (r := 32) (k := 2) rfl rfl rfl
theorem zd_364_132 : decode prog_5_method_24_code 132 = .ok (.iload 10, 2) := zsh_g zdk_364 (r := 33) (k := 0) rfl rfl rfl
theorem zd_364_134 : decode prog_5_method_24_code 134 = .ok (.iadd, 1) := zsh_g zdk_364 (r := 33) (k := 1) rfl rfl rfl
theorem zd_364_135 : decode prog_5_method_24_code 135 = .ok (.iconst 1, 1) := zsh_g zdk_364 (r := 33) (k := 2) rfl rfl rfl
theorem zd_364_136 : decode prog_5_method_24_code 136 = .ok (.iadd, 1) := zsh_g zdk_364 (r := 34) (k := 0) rfl rfl rfl
theorem zd_364_137 : decode prog_5_method_24_code 137 = .ok (.iaload, 1) := zsh_g zdk_364 (r := 34) (k := 1) rfl rfl rfl
theorem zd_364_138 : decode prog_5_method_24_code 138 = .ok (.if_icmp .ge 20, 3) := zsh_g zdk_364 (r := 34) (k := 2) rfl rfl rfl
theorem zd_364_141 : decode prog_5_method_24_code 141 = .ok (.aload_n 0, 1) := zsh_g zdk_364 (r := 35) (k := 0) rfl rfl rfl
theorem zd_364_142 : decode prog_5_method_24_code 142 = .ok (.aload_n 0, 1) := zsh_g zdk_364 (r := 35) (k := 1) rfl rfl rfl
theorem zd_364_143 : decode prog_5_method_24_code 143 = .ok (.getfield 26, 3) := zsh_g zdk_364 (r := 35) (k := 2) rfl rfl rfl
theorem zd_364_146 : decode prog_5_method_24_code 146 = .ok (.iload 11, 2) := zsh_g zdk_364 (r := 36) (k := 0) rfl rfl rfl
theorem zd_364_148 : decode prog_5_method_24_code 148 = .ok (.baload, 1) := zsh_g zdk_364 (r := 37) (k := 0) rfl rfl rfl
theorem zd_364_149 : decode prog_5_method_24_code 149 = .ok (.invokevirtual 145, 3) := zsh_g zdk_364 (r := 37) (k := 1) rfl rfl rfl
theorem zd_364_152 : decode prog_5_method_24_code 152 = .ok (.iinc 11 1, 3) := zsh_g zdk_364 (r := 38) (k := 0) rfl rfl rfl
theorem zd_364_155 : decode prog_5_method_24_code 155 = .ok (.goto (-32), 3) := zsh_g zdk_364 (r := 38) (k := 1) rfl rfl rfl
theorem zd_364_158 : decode prog_5_method_24_code 158 = .ok (.iconst 1, 1) := zsh_g zdk_364 (r := 39) (k := 0) rfl rfl rfl
theorem zd_364_160 : decode prog_5_method_24_code 160 = .ok (.iinc 10 1, 3) := zsh_g zdk_364 (r := 40) (k := 0) rfl rfl rfl
theorem zd_364_163 : decode prog_5_method_24_code 163 = .ok (.goto (-100), 3) := zsh_g zdk_364 (r := 40) (k := 1) rfl rfl rfl
theorem zd_364_166 : decode prog_5_method_24_code 166 = .ok (.iconst 0, 1) := zsh_g zdk_364 (r := 41) (k := 0) rfl rfl rfl
