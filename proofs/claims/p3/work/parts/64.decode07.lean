/-! decode rows, by program -/
def zdl_540 : List (List (Nat × Instr × Nat)) := [[(0, (.aload_n 0), 1), (1, (.invokevirtual 1225), 3)], [(0, (.aload_n 0), 1), (1, (.aload_n 0), 1), (2, (.getfield 1228), 3)], [(1, (.ifCond .eq 18), 3)], [(0, (.aload_n 0), 1), (1, (.getfield 1219), 3)], [(0, (.aload_n 0), 1), (1, (.getfield 1204), 3)], [(0, (.if_icmp .lt 7), 3), (3, (.iconst 1), 1)], [(0, (.goto 4), 3), (3, (.iconst 0), 1)], [(0, (.putfield 1228), 3)]]
theorem zdk_540 : zsh_all 8 zdl_540 prog_14_method_113_code.data.toList = true := by decide +kernel
theorem zd_540_0 : decode prog_14_method_113_code 0 = .ok (.aload_n 0, 1) := zsh_g zdk_540 (r := 0) (k := 0) rfl rfl rfl
theorem zd_540_1 : decode prog_14_method_113_code 1 = .ok (.invokevirtual 1225, 3) := zsh_g zdk_540 (r := 0) (k := 1) rfl rfl rfl
theorem zd_540_4 : decode prog_14_method_113_code 4 = .ok (.aload_n 0, 1) := zsh_g zdk_540 (r := 1) (k := 0) rfl rfl rfl
theorem zd_540_5 : decode prog_14_method_113_code 5 = .ok (.aload_n 0, 1) := zsh_g zdk_540 (r := 1) (k := 1) rfl rfl rfl
theorem zd_540_6 : decode prog_14_method_113_code 6 = .ok (.getfield 1228, 3) := zsh_g zdk_540 (r := 1) (k := 2) rfl rfl rfl
theorem zd_540_9 : decode prog_14_method_113_code 9 = .ok (.ifCond .eq 18, 3) := zsh_g zdk_540 (r := 2) (k := 0) rfl rfl rfl
theorem zd_540_12 : decode prog_14_method_113_code 12 = .ok (.aload_n 0, 1) := zsh_g zdk_540 (r := 3) (k := 0) rfl rfl rfl
theorem zd_540_13 : decode prog_14_method_113_code 13 = .ok (.getfield 1219, 3) := zsh_g zdk_540 (r := 3) (k := 1) rfl rfl rfl
theorem zd_540_16 : decode prog_14_method_113_code 16 = .ok (.aload_n 0, 1) := zsh_g zdk_540 (r := 4) (k := 0) rfl rfl rfl
theorem zd_540_17 : decode prog_14_method_113_code 17 = .ok (.getfield 1204, 3) := zsh_g zdk_540 (r := 4) (k := 1) rfl rfl rfl
theorem zd_540_20 : decode prog_14_method_113_code 20 = .ok (.if_icmp .lt 7, 3) := zsh_g zdk_540 (r := 5) (k := 0) rfl rfl rfl
theorem zd_540_23 : decode prog_14_method_113_code 23 = .ok (.iconst 1, 1) := zsh_g zdk_540 (r := 5) (k := 1) rfl rfl rfl
theorem zd_540_24 : decode prog_14_method_113_code 24 = .ok (.goto 4, 3) := zsh_g zdk_540 (r := 6) (k := 0) rfl rfl rfl
theorem zd_540_27 : decode prog_14_method_113_code 27 = .ok (.iconst 0, 1) := zsh_g zdk_540 (r := 6) (k := 1) rfl rfl rfl
theorem zd_540_28 : decode prog_14_method_113_code 28 = .ok (.putfield 1228, 3) := zsh_g zdk_540 (r := 7) (k := 0) rfl rfl rfl
def zdl_541 : List (List (Nat × Instr × Nat)) := [[(0, (.aload_n 0), 1), (1, (.getfield 1260), 3)], [(0, (.ifCond .eq 21), 3), (3, (.aload_n 0), 1)], [(0, (.getfield 434), 3), (3, (.iconst 0), 1)], [(0, .iaload, 1), (1, (.ifCond .ne 12), 3)], [(0, (.aload_n 0), 1), (1, (.getfield 440), 3)], [(0, (.iconst 0), 1), (1, .iaload, 1), (2, (.ifCond .le 5), 3)], [(1, (.iconst 1), 1), (3, (.aload_n 0), 1)], [(0, (.getfield 431), 3), (3, (.iconst 0), 1)], [(0, .iaload, 1), (1, (.istore_n 2), 1), (2, (.iload_n 1), 1), (3, (.bipush 8), 2)], [(1, (.if_icmp .lt 17), 3)], [(0, (.iload_n 1), 1), (1, (.bipush 10), 2), (3, (.if_icmp .gt 11), 3)], [(2, (.iload_n 2), 1), (3, (.iconst 0), 1)], [(0, (.bipush 31), 2), (2, (.invokestatic 504), 3)], [(2, (.iload_n 1), 1), (3, (.bipush 25), 2)], [(1, (.if_icmp .ne 12), 3)], [(0, (.iload_n 2), 1), (1, (.iconst 0), 1), (2, (.sipush 1023), 3)], [(1, (.invokestatic 504), 3)], [(1, (.iload_n 1), 1), (2, (.bipush 26), 2)], [(0, (.if_icmp .lt 9), 3), (3, (.iload_n 1), 1)], [(0, (.bipush 28), 2), (2, (.if_icmp .le 15), 3)], [(1, (.iload_n 1), 1), (2, (.bipush 33), 2)], [(0, (.if_icmp .lt 20), 3), (3, (.iload_n 1), 1)], [(0, (.bipush 40), 2), (2, (.if_icmp .gt 14), 3)], [(1, (.iload_n 2), 1), (2, (.sipush (-32768)), 3)], [(1, (.sipush 32767), 3)], [(0, (.invokestatic 504), 3)], [(0, (.iload_n 1), 1), (1, (.bipush 29), 2), (3, (.if_icmp .lt 20), 3)], [(2, (.iload_n 1), 1), (3, (.bipush 32), 2)], [(1, (.if_icmp .gt 14), 3)], [(0, (.iload_n 2), 1), (1, (.iconst 0), 1), (2, (.ldc_w 1302), 3)], [(1, (.invokestatic 504), 3)], [(0, (.ifCond .eq 7), 3), (3, (.iconst 1), 1)], [(0, (.goto 4), 3), (3, (.iconst 0), 1)]]
theorem zdk_541 : zsh_all 8 zdl_541 prog_14_method_138_code.data.toList = true := by decide +kernel
theorem zd_541_0 : decode prog_14_method_138_code 0 = .ok (.aload_n 0, 1) := zsh_g zdk_541 (r := 0) (k := 0) rfl rfl rfl
theorem zd_541_1 : decode prog_14_method_138_code 1 = .ok (.getfield 1260, 3) := zsh_g zdk_541 (r := 0) (k := 1) rfl rfl rfl
theorem zd_541_4 : decode prog_14_method_138_code 4 = .ok (.ifCond .eq 21, 3) := zsh_g zdk_541 (r := 1) (k := 0) rfl rfl rfl
theorem zd_541_7 : decode prog_14_method_138_code 7 = .ok (.aload_n 0, 1) := zsh_g zdk_541 (r := 1) (k := 1) rfl rfl rfl
theorem zd_541_8 : decode prog_14_method_138_code 8 = .ok (.getfield 434, 3) := zsh_g zdk_541 (r := 2) (k := 0) rfl rfl rfl
theorem zd_541_11 : decode prog_14_method_138_code 11 = .ok (.iconst 0, 1) := zsh_g zdk_541 (r := 2) (k := 1) rfl rfl rfl
theorem zd_541_12 : decode prog_14_method_138_code 12 = .ok (.iaload, 1) := zsh_g zdk_541 (r := 3) (k := 0) rfl rfl rfl
theorem zd_541_13 : decode prog_14_method_138_code 13 = .ok (.ifCond .ne 12, 3) := zsh_g zdk_541 (r := 3) (k := 1) rfl rfl rfl
theorem zd_541_16 : decode prog_14_method_138_code 16 = .ok (.aload_n 0, 1) := zsh_g zdk_541 (r := 4) (k := 0) rfl rfl rfl
theorem zd_541_17 : decode prog_14_method_138_code 17 = .ok (.getfield 440, 3) := zsh_g zdk_541 (r := 4) (k := 1) rfl rfl rfl
theorem zd_541_20 : decode prog_14_method_138_code 20 = .ok (.iconst 0, 1) := zsh_g zdk_541 (r := 5) (k := 0) rfl rfl rfl
theorem zd_541_21 : decode prog_14_method_138_code 21 = .ok (.iaload, 1) := zsh_g zdk_541 (r := 5) (k := 1) rfl rfl rfl
theorem zd_541_22 : decode prog_14_method_138_code 22 = .ok (.ifCond .le 5, 3) := zsh_g zdk_541 (r := 5) (k := 2) rfl rfl rfl
theorem zd_541_25 : decode prog_14_method_138_code 25 = .ok (.iconst 1, 1) := zsh_g zdk_541 (r := 6) (k := 0) rfl rfl rfl
theorem zd_541_27 : decode prog_14_method_138_code 27 = .ok (.aload_n 0, 1) := zsh_g zdk_541 (r := 6) (k := 1) rfl rfl rfl
theorem zd_541_28 : decode prog_14_method_138_code 28 = .ok (.getfield 431, 3) := zsh_g zdk_541 (r := 7) (k := 0) rfl rfl rfl
theorem zd_541_31 : decode prog_14_method_138_code 31 = .ok (.iconst 0, 1) := zsh_g zdk_541 (r := 7) (k := 1) rfl rfl rfl
theorem zd_541_32 : decode prog_14_method_138_code 32 = .ok (.iaload, 1) := zsh_g zdk_541 (r := 8) (k := 0) rfl rfl rfl
theorem zd_541_33 : decode prog_14_method_138_code 33 = .ok (.istore_n 2, 1) := zsh_g zdk_541 (r := 8) (k := 1) rfl rfl rfl
theorem zd_541_34 : decode prog_14_method_138_code 34 = .ok (.iload_n 1, 1) := zsh_g zdk_541 (r := 8) (k := 2) rfl rfl rfl
theorem zd_541_35 : decode prog_14_method_138_code 35 = .ok (.bipush 8, 2) := zsh_g zdk_541 (r := 8) (k := 3) rfl rfl rfl
theorem zd_541_37 : decode prog_14_method_138_code 37 = .ok (.if_icmp .lt 17, 3) := zsh_g zdk_541 (r := 9) (k := 0) rfl rfl rfl
theorem zd_541_40 : decode prog_14_method_138_code 40 = .ok (.iload_n 1, 1) := zsh_g zdk_541 (r := 10) (k := 0) rfl rfl rfl
theorem zd_541_41 : decode prog_14_method_138_code 41 = .ok (.bipush 10, 2) := zsh_g zdk_541 (r := 10) (k := 1) rfl rfl rfl
theorem zd_541_43 : decode prog_14_method_138_code 43 = .ok (.if_icmp .gt 11, 3) := zsh_g zdk_541 (r := 10) (k := 2) rfl rfl rfl
theorem zd_541_46 : decode prog_14_method_138_code 46 = .ok (.iload_n 2, 1) := zsh_g zdk_541 (r := 11) (k := 0) rfl rfl rfl
theorem zd_541_47 : decode prog_14_method_138_code 47 = .ok (.iconst 0, 1) := zsh_g zdk_541 (r := 11) (k := 1) rfl rfl rfl
theorem zd_541_48 : decode prog_14_method_138_code 48 = .ok (.bipush 31, 2) := zsh_g zdk_541 (r := 12) (k := 0) rfl rfl rfl
theorem zd_541_50 : decode prog_14_method_138_code 50 = .ok (.invokestatic 504, 3) := zsh_g zdk_541 (r := 12) (k := 1) rfl rfl rfl
theorem zd_541_54 : decode prog_14_method_138_code 54 = .ok (.iload_n 1, 1) := zsh_g zdk_541 (r := 13) (k := 0) rfl rfl rfl
theorem zd_541_55 : decode prog_14_method_138_code 55 = .ok (.bipush 25, 2) := zsh_g zdk_541 (r := 13) (k := 1) rfl rfl rfl
theorem zd_541_57 : decode prog_14_method_138_code 57 = .ok (.if_icmp .ne 12, 3) := zsh_g zdk_541 (r := 14) (k := 0) rfl rfl rfl
theorem zd_541_60 : decode prog_14_method_138_code 60 = .ok (.iload_n 2, 1) := zsh_g zdk_541 (r := 15) (k := 0) rfl rfl rfl
theorem zd_541_61 : decode prog_14_method_138_code 61 = .ok (.iconst 0, 1) := zsh_g zdk_541 (r := 15) (k := 1) rfl rfl rfl
theorem zd_541_62 : decode prog_14_method_138_code 62 = .ok (.sipush 1023, 3) := zsh_g zdk_541 (r := 15) (k := 2) rfl rfl rfl
theorem zd_541_65 : decode prog_14_method_138_code 65 = .ok (.invokestatic 504, 3) := zsh_g zdk_541 (r := 16) (k := 0) rfl rfl rfl
theorem zd_541_69 : decode prog_14_method_138_code 69 = .ok (.iload_n 1, 1) := zsh_g zdk_541 (r := 17) (k := 0) rfl rfl rfl
theorem zd_541_70 : decode prog_14_method_138_code 70 = .ok (.bipush 26, 2) := zsh_g zdk_541 (r := 17) (k := 1) rfl rfl rfl
theorem zd_541_72 : decode prog_14_method_138_code 72 = .ok (.if_icmp .lt 9, 3) := zsh_g zdk_541 (r := 18) (k := 0) rfl rfl rfl
theorem zd_541_75 : decode prog_14_method_138_code 75 = .ok (.iload_n 1, 1) := zsh_g zdk_541 (r := 18) (k := 1) rfl rfl rfl
theorem zd_541_76 : decode prog_14_method_138_code 76 = .ok (.bipush 28, 2) := zsh_g zdk_541 (r := 19) (k := 0) rfl rfl rfl
theorem zd_541_78 : decode prog_14_method_138_code 78 = .ok (.if_icmp .le 15, 3) := zsh_g zdk_541 (r := 19) (k := 1) rfl rfl rfl
theorem zd_541_81 : decode prog_14_method_138_code 81 = .ok (.iload_n 1, 1) := zsh_g zdk_541 (r := 20) (k := 0) rfl rfl rfl
theorem zd_541_82 : decode prog_14_method_138_code 82 = .ok (.bipush 33, 2) := zsh_g zdk_541 (r := 20) (k := 1) rfl rfl rfl
theorem zd_541_84 : decode prog_14_method_138_code 84 = .ok (.if_icmp .lt 20, 3) := zsh_g zdk_541 (r := 21) (k := 0) rfl rfl rfl
theorem zd_541_87 : decode prog_14_method_138_code 87 = .ok (.iload_n 1, 1) := zsh_g zdk_541 (r := 21) (k := 1) rfl rfl rfl
theorem zd_541_88 : decode prog_14_method_138_code 88 = .ok (.bipush 40, 2) := zsh_g zdk_541 (r := 22) (k := 0) rfl rfl rfl
theorem zd_541_90 : decode prog_14_method_138_code 90 = .ok (.if_icmp .gt 14, 3) := zsh_g zdk_541 (r := 22) (k := 1) rfl rfl rfl
theorem zd_541_93 : decode prog_14_method_138_code 93 = .ok (.iload_n 2, 1) := zsh_g zdk_541 (r := 23) (k := 0) rfl rfl rfl
theorem zd_541_94 : decode prog_14_method_138_code 94 = .ok (.sipush (-32768), 3) := zsh_g zdk_541 (r := 23) (k := 1) rfl rfl rfl
theorem zd_541_97 : decode prog_14_method_138_code 97 = .ok (.sipush 32767, 3) := zsh_g zdk_541 (r := 24) (k := 0) rfl rfl rfl
theorem zd_541_100 : decode prog_14_method_138_code 100 = .ok (.invokestatic 504, 3) := zsh_g zdk_541 (r := 25) (k := 0) rfl rfl rfl
theorem zd_541_104 : decode prog_14_method_138_code 104 = .ok (.iload_n 1, 1) := zsh_g zdk_541 (r := 26) (k := 0) rfl rfl rfl
theorem zd_541_105 : decode prog_14_method_138_code 105 = .ok (.bipush 29, 2) := zsh_g zdk_541 (r := 26) (k := 1) rfl rfl rfl
theorem zd_541_107 : decode prog_14_method_138_code 107 = .ok (.if_icmp .lt 20, 3) := zsh_g zdk_541 (r := 26) (k := 2) rfl rfl rfl
theorem zd_541_110 : decode prog_14_method_138_code 110 = .ok (.iload_n 1, 1) := zsh_g zdk_541 (r := 27) (k := 0) rfl rfl rfl
theorem zd_541_111 : decode prog_14_method_138_code 111 = .ok (.bipush 32, 2) := zsh_g zdk_541 (r := 27) (k := 1) rfl rfl rfl
theorem zd_541_113 : decode prog_14_method_138_code 113 = .ok (.if_icmp .gt 14, 3) := zsh_g zdk_541 (r := 28) (k := 0) rfl rfl rfl
theorem zd_541_116 : decode prog_14_method_138_code 116 = .ok (.iload_n 2, 1) := zsh_g zdk_541 (r := 29) (k := 0) rfl rfl rfl
theorem zd_541_117 : decode prog_14_method_138_code 117 = .ok (.iconst 0, 1) := zsh_g zdk_541 (r := 29) (k := 1) rfl rfl rfl
theorem zd_541_118 : decode prog_14_method_138_code 118 = .ok (.ldc_w 1302, 3) := zsh_g zdk_541 (r := 29) (k := 2) rfl rfl rfl
theorem zd_541_121 : decode prog_14_method_138_code 121 = .ok (.invokestatic 504, 3) := zsh_g zdk_541 (r := 30) (k := 0) rfl rfl rfl
theorem zd_541_124 : decode prog_14_method_138_code 124 = .ok (.ifCond .eq 7, 3) := zsh_g zdk_541 (r := 31) (k := 0) rfl rfl rfl
theorem zd_541_127 : decode prog_14_method_138_code 127 = .ok (.iconst 1, 1) := zsh_g zdk_541 (r := 31) (k := 1) rfl rfl rfl
theorem zd_541_128 : decode prog_14_method_138_code 128 = .ok (.goto 4, 3) := zsh_g zdk_541 (r := 32) (k := 0) rfl rfl rfl
theorem zd_541_131 : decode prog_14_method_138_code 131 = .ok (.iconst 0, 1) := zsh_g zdk_541 (r := 32) (k := 1) rfl rfl rfl
def zdl_542 : List (List (Nat × Instr × Nat)) := [[(0, (.iconst 1), 1), (1, (.istore_n 1), 1), (2, (.iconst 0), 1), (3, (.istore_n 2), 1)], [(0, (.iload_n 2), 1), (1, (.aload_n 0), 1), (2, (.getfield 1260), 3)], [(1, (.if_icmp .ge 43), 3)], [(0, (.iload_n 1), 1), (1, (.ifCond .eq 31), 3)], [(0, (.aload_n 0), 1), (1, (.getfield 434), 3)], [(0, (.iload_n 2), 1), (1, .iaload, 1), (2, (.iconst 2), 1), (3, (.if_icmp .ne 17), 3)], [(2, (.aload_n 0), 1), (3, (.getfield 401), 3)], [(2, (.aload_n 0), 1), (3, (.getfield 437), 3)], [(2, (.iload_n 2), 1), (3, .iaload, 1)], [(0, .iaload, 1), (1, (.ifCond .lt 7), 3)], [(0, (.iconst 1), 1), (1, (.goto 4), 3)], [(0, (.iconst 0), 1), (1, (.istore_n 1), 1), (2, (.iinc 2 1), 3)], [(1, (.goto (-45)), 3)], [(0, (.iload_n 1), 1)]]
theorem zdk_542 : zsh_all 8 zdl_542 prog_14_method_139_code.data.toList = true := by decide +kernel
theorem zd_542_0 : decode prog_14_method_139_code 0 = .ok (.iconst 1, 1) := zsh_g zdk_542 (r := 0) (k := 0) rfl rfl rfl
theorem zd_542_1 : decode prog_14_method_139_code 1 = .ok (.istore_n 1, 1) := zsh_g zdk_542 (r := 0) (k := 1) rfl rfl rfl
theorem zd_542_2 : decode prog_14_method_139_code 2 = .ok (.iconst 0, 1) := zsh_g zdk_542 (r := 0) (k := 2) rfl rfl rfl
theorem zd_542_3 : decode prog_14_method_139_code 3 = .ok (.istore_n 2, 1) := zsh_g zdk_542 (r := 0) (k := 3) rfl rfl rfl
theorem zd_542_4 : decode prog_14_method_139_code 4 = .ok (.iload_n 2, 1) := zsh_g zdk_542 (r := 1) (k := 0) rfl rfl rfl
theorem zd_542_5 : decode prog_14_method_139_code 5 = .ok (.aload_n 0, 1) := zsh_g zdk_542 (r := 1) (k := 1) rfl rfl rfl
theorem zd_542_6 : decode prog_14_method_139_code 6 = .ok (.getfield 1260, 3) := zsh_g zdk_542 (r := 1) (k := 2) rfl rfl rfl
theorem zd_542_9 : decode prog_14_method_139_code 9 = .ok (.if_icmp .ge 43, 3) := zsh_g zdk_542 (r := 2) (k := 0) rfl rfl rfl
theorem zd_542_12 : decode prog_14_method_139_code 12 = .ok (.iload_n 1, 1) := zsh_g zdk_542 (r := 3) (k := 0) rfl rfl rfl
theorem zd_542_13 : decode prog_14_method_139_code 13 = .ok (.ifCond .eq 31, 3) := zsh_g zdk_542 (r := 3) (k := 1) rfl rfl rfl
theorem zd_542_16 : decode prog_14_method_139_code 16 = .ok (.aload_n 0, 1) := zsh_g zdk_542 (r := 4) (k := 0) rfl rfl rfl
theorem zd_542_17 : decode prog_14_method_139_code 17 = .ok (.getfield 434, 3) := zsh_g zdk_542 (r := 4) (k := 1) rfl rfl rfl
theorem zd_542_20 : decode prog_14_method_139_code 20 = .ok (.iload_n 2, 1) := zsh_g zdk_542 (r := 5) (k := 0) rfl rfl rfl
theorem zd_542_21 : decode prog_14_method_139_code 21 = .ok (.iaload, 1) := zsh_g zdk_542 (r := 5) (k := 1) rfl rfl rfl
theorem zd_542_22 : decode prog_14_method_139_code 22 = .ok (.iconst 2, 1) := zsh_g zdk_542 (r := 5) (k := 2) rfl rfl rfl
theorem zd_542_23 : decode prog_14_method_139_code 23 = .ok (.if_icmp .ne 17, 3) := zsh_g zdk_542 (r := 5) (k := 3) rfl rfl rfl
theorem zd_542_26 : decode prog_14_method_139_code 26 = .ok (.aload_n 0, 1) := zsh_g zdk_542 (r := 6) (k := 0) rfl rfl rfl
theorem zd_542_27 : decode prog_14_method_139_code 27 = .ok (.getfield 401, 3) := zsh_g zdk_542 (r := 6) (k := 1) rfl rfl rfl
theorem zd_542_30 : decode prog_14_method_139_code 30 = .ok (.aload_n 0, 1) := zsh_g zdk_542 (r := 7) (k := 0) rfl rfl rfl
theorem zd_542_31 : decode prog_14_method_139_code 31 = .ok (.getfield 437, 3) := zsh_g zdk_542 (r := 7) (k := 1) rfl rfl rfl
theorem zd_542_34 : decode prog_14_method_139_code 34 = .ok (.iload_n 2, 1) := zsh_g zdk_542 (r := 8) (k := 0) rfl rfl rfl
theorem zd_542_35 : decode prog_14_method_139_code 35 = .ok (.iaload, 1) := zsh_g zdk_542 (r := 8) (k := 1) rfl rfl rfl
theorem zd_542_36 : decode prog_14_method_139_code 36 = .ok (.iaload, 1) := zsh_g zdk_542 (r := 9) (k := 0) rfl rfl rfl
theorem zd_542_37 : decode prog_14_method_139_code 37 = .ok (.ifCond .lt 7, 3) := zsh_g zdk_542 (r := 9) (k := 1) rfl rfl rfl
theorem zd_542_40 : decode prog_14_method_139_code 40 = .ok (.iconst 1, 1) := zsh_g zdk_542 (r := 10) (k := 0) rfl rfl rfl
theorem zd_542_41 : decode prog_14_method_139_code 41 = .ok (.goto 4, 3) := zsh_g zdk_542 (r := 10) (k := 1) rfl rfl rfl
theorem zd_542_44 : decode prog_14_method_139_code 44 = .ok (.iconst 0, 1) := zsh_g zdk_542 (r := 11) (k := 0) rfl rfl rfl
theorem zd_542_45 : decode prog_14_method_139_code 45 = .ok (.istore_n 1, 1) := zsh_g zdk_542 (r := 11) (k := 1) rfl rfl rfl
theorem zd_542_46 : decode prog_14_method_139_code 46 = .ok (.iinc 2 1, 3) := zsh_g zdk_542 (r := 11) (k := 2) rfl rfl rfl
theorem zd_542_49 : decode prog_14_method_139_code 49 = .ok (.goto (-45), 3) := zsh_g zdk_542 (r := 12) (k := 0) rfl rfl rfl
theorem zd_542_52 : decode prog_14_method_139_code 52 = .ok (.iload_n 1, 1) := zsh_g zdk_542 (r := 13) (k := 0) rfl rfl rfl
def zdl_543 : List (List (Nat × Instr × Nat)) := [[(0, (.aload_n 0), 1), (1, (.getfield 289), 3)], [(0, (.iload_n 1), 1), (1, .iaload, 1), (2, (.istore_n 2), 1), (3, (.iload_n 1), 1)], [(0, (.bipush 22), 2), (2, (.if_icmp .eq 9), 3)], [(1, (.iload_n 1), 1), (2, (.bipush 23), 2)], [(0, (.if_icmp .ne 52), 3), (3, (.aload_n 0), 1)], [(0, (.aload_n 0), 1), (1, (.getfield 1309), 3)], [(0, (.iconst 0), 1), (1, (.iload_n 1), 1), (2, (.bipush 23), 2)], [(0, (.if_icmp .ne 8), 3), (3, (.bipush 31), 2)], [(1, (.goto 4), 3)], [(0, (.iconst 0), 1), (1, (.iconst 0), 1), (2, (.iload_n 2), 1), (3, (.invokestatic 1354), 3)], [(2, (.aload_n 0), 1), (3, (.getfield 1309), 3)], [(2, (.invokestatic 1293), 3)], [(1, (.iload_n 1), 1), (2, (.bipush 23), 2)], [(0, (.if_icmp .ne 7), 3), (3, (.iconst 1), 1)], [(0, (.goto 4), 3), (3, (.iconst 0), 1)], [(0, (.iconst (-1)), 1), (1, (.iconst 0), 1), (2, (.invokevirtual 1358), 3)], [(1, (.goto 137), 3)], [(0, (.iload_n 1), 1), (1, (.bipush 24), 2), (3, (.if_icmp .eq 9), 3)], [(2, (.iload_n 1), 1), (3, (.bipush 25), 2)], [(1, (.if_icmp .ne 34), 3)], [(0, (.aload_n 0), 1), (1, (.iload_n 1), 1), (2, (.bipush 25), 2)], [(0, (.if_icmp .ne 17), 3), (3, (.aload_n 0), 1)], [(0, (.getfield 431), 3), (3, (.iconst 0), 1)], [(0, .iaload, 1), (1, (.bipush 16), 2), (3, .ishl, 1)], [(0, (.iload_n 2), 1), (1, .ior, 1), (2, (.goto 4), 3)], [(1, (.iload_n 2), 1), (2, (.iconst 0), 1), (3, (.iconst 0), 1)], [(0, (.iconst 0), 1), (1, (.invokevirtual 1362), 3)], [(0, (.goto 94), 3), (3, (.iload_n 1), 1)], [(0, (.bipush 8), 2), (2, (.if_icmp .lt 47), 3)], [(1, (.iload_n 1), 1), (2, (.bipush 10), 2)], [(0, (.if_icmp .gt 41), 3), (3, (.aload_n 0), 1)], [(0, (.iconst 0), 1), (1, (.aload_n 0), 1), (2, (.getfield 1312), 3)], [(1, (.aload_n 0), 1), (2, (.getfield 1306), 3)], [(1, (.aload_n 0), 1), (2, (.getfield 431), 3)], [(1, (.iconst 0), 1), (2, .iaload, 1), (3, (.iload_n 2), 1)], [(0, (.invokestatic 1354), 3), (3, (.aload_n 0), 1)], [(0, (.getfield 1312), 3), (3, (.invokestatic 1293), 3)], [(2, (.aload_n 0), 1), (3, (.getfield 1306), 3)], [(2, (.iconst 1), 1), (3, (.invokevirtual 1362), 3)], [(2, (.goto 44), 3)], [(1, (.aload_n 0), 1), (2, (.aload_n 0), 1), (3, (.getfield 1309), 3)], [(2, (.aload_n 0), 1), (3, (.getfield 1312), 3)], [(2, (.aload_n 0), 1), (3, (.getfield 1306), 3)], [(2, (.iconst 0), 1), (3, (.iload_n 2), 1)], [(0, (.invokestatic 1354), 3), (3, (.aload_n 0), 1)], [(0, (.getfield 1309), 3), (3, (.invokestatic 1293), 3)], [(2, (.aload_n 0), 1), (3, (.getfield 1312), 3)], [(2, (.invokestatic 1293), 3)], [(1, .ior, 1), (2, (.aload_n 0), 1), (3, (.getfield 1306), 3)], [(2, (.iconst 1), 1), (3, (.invokevirtual 1362), 3)]]
theorem zdk_543 : zsh_all 8 zdl_543 prog_14_method_141_code.data.toList = true := by decide +kernel
theorem zd_543_0 : decode prog_14_method_141_code 0 = .ok (.aload_n 0, 1) := zsh_g zdk_543 (r := 0) (k := 0) rfl rfl rfl
theorem zd_543_1 : decode prog_14_method_141_code 1 = .ok (.getfield 289, 3) := zsh_g zdk_543 (r := 0) (k := 1) rfl rfl rfl
theorem zd_543_4 : decode prog_14_method_141_code 4 = .ok (.iload_n 1, 1) := zsh_g zdk_543 (r := 1) (k := 0) rfl rfl rfl
theorem zd_543_5 : decode prog_14_method_141_code 5 = .ok (.iaload, 1) := zsh_g zdk_543 (r := 1) (k := 1) rfl rfl rfl
theorem zd_543_6 : decode prog_14_method_141_code 6 = .ok (.istore_n 2, 1) := zsh_g zdk_543 (r := 1) (k := 2) rfl rfl rfl
theorem zd_543_7 : decode prog_14_method_141_code 7 = .ok (.iload_n 1, 1) := zsh_g zdk_543 (r := 1) (k := 3) rfl rfl rfl
theorem zd_543_8 : decode prog_14_method_141_code 8 = .ok (.bipush 22, 2) := zsh_g zdk_543 (r := 2) (k := 0) rfl rfl rfl
theorem zd_543_10 : decode prog_14_method_141_code 10 = .ok (.if_icmp .eq 9, 3) := zsh_g zdk_543 (r := 2) (k := 1) rfl rfl rfl
theorem zd_543_13 : decode prog_14_method_141_code 13 = .ok (.iload_n 1, 1) := zsh_g zdk_543 (r := 3) (k := 0) rfl rfl rfl
theorem zd_543_14 : decode prog_14_method_141_code 14 = .ok (.bipush 23, 2) := zsh_g zdk_543 (r := 3) (k := 1) rfl rfl rfl
theorem zd_543_16 : decode prog_14_method_141_code 16 = .ok (.if_icmp .ne 52, 3) := zsh_g zdk_543 (r := 4) (k := 0) rfl rfl rfl
theorem zd_543_19 : decode prog_14_method_141_code 19 = .ok (.aload_n 0, 1) := zsh_g zdk_543 (r := 4) (k := 1) rfl rfl rfl
theorem zd_543_20 : decode prog_14_method_141_code 20 = .ok (.aload_n 0, 1) := zsh_g zdk_543 (r := 5) (k := 0) rfl rfl rfl
theorem zd_543_21 : decode prog_14_method_141_code 21 = .ok (.getfield 1309, 3) := zsh_g zdk_543 (r := 5) (k := 1) rfl rfl rfl
theorem zd_543_24 : decode prog_14_method_141_code 24 = .ok (.iconst 0, 1) := zsh_g zdk_543 (r := 6) (k := 0) rfl rfl rfl
theorem zd_543_25 : decode prog_14_method_141_code 25 = .ok (.iload_n 1, 1) := zsh_g zdk_543 (r := 6) (k := 1) rfl rfl rfl
theorem zd_543_26 : decode prog_14_method_141_code 26 = .ok (.bipush 23, 2) := zsh_g zdk_543 (r := 6) (k := 2) rfl rfl rfl
theorem zd_543_28 : decode prog_14_method_141_code 28 = .ok (.if_icmp .ne 8, 3) := zsh_g zdk_543 (r := 7) (k := 0) rfl rfl rfl
theorem zd_543_31 : decode prog_14_method_141_code 31 = .ok (.bipush 31, 2) := zsh_g zdk_543 (r := 7) (k := 1) rfl rfl rfl
theorem zd_543_33 : decode prog_14_method_141_code 33 = .ok (.goto 4, 3) := zsh_g zdk_543 (r := 8) (k := 0) rfl rfl rfl
theorem zd_543_36 : decode prog_14_method_141_code 36 = .ok (.iconst 0, 1) := zsh_g zdk_543 (r := 9) (k := 0) rfl rfl rfl
theorem zd_543_37 : decode prog_14_method_141_code 37 = .ok (.iconst 0, 1) := zsh_g zdk_543 (r := 9) (k := 1) rfl rfl rfl
theorem zd_543_38 : decode prog_14_method_141_code 38 = .ok (.iload_n 2, 1) := zsh_g zdk_543 (r := 9) (k := 2) rfl rfl rfl
theorem zd_543_39 : decode prog_14_method_141_code 39 = .ok (.invokestatic 1354, 3) := zsh_g zdk_543 (r := 9) (k := 3) rfl rfl rfl
theorem zd_543_42 : decode prog_14_method_141_code 42 = .ok (.aload_n 0, 1) := zsh_g zdk_543 (r := 10) (k := 0) rfl rfl rfl
theorem zd_543_43 : decode prog_14_method_141_code 43 = .ok (.getfield 1309, 3) := zsh_g zdk_543 (r := 10) (k := 1) rfl rfl rfl
theorem zd_543_46 : decode prog_14_method_141_code 46 = .ok (.invokestatic 1293, 3) := zsh_g zdk_543 (r := 11) (k := 0) rfl rfl rfl
theorem zd_543_49 : decode prog_14_method_141_code 49 = .ok (.iload_n 1, 1) := zsh_g zdk_543 (r := 12) (k := 0) rfl rfl rfl
theorem zd_543_50 : decode prog_14_method_141_code 50 = .ok (.bipush 23, 2) := zsh_g zdk_543 (r := 12) (k := 1) rfl rfl rfl
theorem zd_543_52 : decode prog_14_method_141_code 52 = .ok (.if_icmp .ne 7, 3) := zsh_g zdk_543 (r := 13) (k := 0) rfl rfl rfl
theorem zd_543_55 : decode prog_14_method_141_code 55 = .ok (.iconst 1, 1) := zsh_g zdk_543 (r := 13) (k := 1) rfl rfl rfl
theorem zd_543_56 : decode prog_14_method_141_code 56 = .ok (.goto 4, 3) := zsh_g zdk_543 (r := 14) (k := 0) rfl rfl rfl
theorem zd_543_59 : decode prog_14_method_141_code 59 = .ok (.iconst 0, 1) := zsh_g zdk_543 (r := 14) (k := 1) rfl rfl rfl
theorem zd_543_60 : decode prog_14_method_141_code 60 = .ok (.iconst (-1), 1) := zsh_g zdk_543 (r := 15) (k := 0) rfl rfl rfl
theorem zd_543_61 : decode prog_14_method_141_code 61 = .ok (.iconst 0, 1) := zsh_g zdk_543 (r := 15) (k := 1) rfl rfl rfl
theorem zd_543_62 : decode prog_14_method_141_code 62 = .ok (.invokevirtual 1358, 3) := zsh_g zdk_543 (r := 15) (k := 2) rfl rfl rfl
theorem zd_543_65 : decode prog_14_method_141_code 65 = .ok (.goto 137, 3) := zsh_g zdk_543 (r := 16) (k := 0) rfl rfl rfl
theorem zd_543_68 : decode prog_14_method_141_code 68 = .ok (.iload_n 1, 1) := zsh_g zdk_543 (r := 17) (k := 0) rfl rfl rfl
theorem zd_543_69 : decode prog_14_method_141_code 69 = .ok (.bipush 24, 2) := zsh_g zdk_543 (r := 17) (k := 1) rfl rfl rfl
theorem zd_543_71 : decode prog_14_method_141_code 71 = .ok (.if_icmp .eq 9, 3) := zsh_g zdk_543 (r := 17) (k := 2) rfl rfl rfl
theorem zd_543_74 : decode prog_14_method_141_code 74 = .ok (.iload_n 1, 1) := zsh_g zdk_543 (r := 18) (k := 0) rfl rfl rfl
theorem zd_543_75 : decode prog_14_method_141_code 75 = .ok (.bipush 25, 2) := zsh_g zdk_543 (r := 18) (k := 1) rfl rfl rfl
theorem zd_543_77 : decode prog_14_method_141_code 77 = .ok (.if_icmp .ne 34, 3) := zsh_g zdk_543 (r := 19) (k := 0) rfl rfl rfl
theorem zd_543_80 : decode prog_14_method_141_code 80 = .ok (.aload_n 0, 1) := zsh_g zdk_543 (r := 20) (k := 0) rfl rfl rfl
theorem zd_543_81 : decode prog_14_method_141_code 81 = .ok (.iload_n 1, 1) := zsh_g zdk_543 (r := 20) (k := 1) rfl rfl rfl
theorem zd_543_82 : decode prog_14_method_141_code 82 = .ok (.bipush 25, 2) := zsh_g zdk_543 (r := 20) (k := 2) rfl rfl rfl
theorem zd_543_84 : decode prog_14_method_141_code 84 = .ok (.if_icmp .ne 17, 3) := zsh_g zdk_543 (r := 21) (k := 0) rfl rfl rfl
theorem zd_543_87 : decode prog_14_method_141_code 87 = .ok (.aload_n 0, 1) := zsh_g zdk_543 (r := 21) (k := 1) rfl rfl rfl
theorem zd_543_88 : decode prog_14_method_141_code 88 = .ok (.getfield 431, 3) := zsh_g zdk_543 (r := 22) (k := 0) rfl rfl rfl
theorem zd_543_91 : decode prog_14_method_141_code 91 = .ok (.iconst 0, 1) := zsh_g zdk_543 (r := 22) (k := 1) rfl rfl rfl
theorem zd_543_92 : decode prog_14_method_141_code 92 = .ok (.iaload, 1) := zsh_g zdk_543 (r := 23) (k := 0) rfl rfl rfl
theorem zd_543_93 : decode prog_14_method_141_code 93 = .ok (.bipush 16, 2) := zsh_g zdk_543 (r := 23) (k := 1) rfl rfl rfl
theorem zd_543_95 : decode prog_14_method_141_code 95 = .ok (.ishl, 1) := zsh_g zdk_543 (r := 23) (k := 2) rfl rfl rfl
theorem zd_543_96 : decode prog_14_method_141_code 96 = .ok (.iload_n 2, 1) := zsh_g zdk_543 (r := 24) (k := 0) rfl rfl rfl
theorem zd_543_97 : decode prog_14_method_141_code 97 = .ok (.ior, 1) := zsh_g zdk_543 (r := 24) (k := 1) rfl rfl rfl
theorem zd_543_98 : decode prog_14_method_141_code 98 = .ok (.goto 4, 3) := zsh_g zdk_543 (r := 24) (k := 2) rfl rfl rfl
theorem zd_543_101 : decode prog_14_method_141_code 101 = .ok (.iload_n 2, 1) := zsh_g zdk_543 (r := 25) (k := 0) rfl rfl rfl
theorem zd_543_102 : decode prog_14_method_141_code 102 = .ok (.iconst 0, 1) := zsh_g zdk_543 (r := 25) (k := 1) rfl rfl rfl
theorem zd_543_103 : decode prog_14_method_141_code 103 = .ok (.iconst 0, 1) := zsh_g zdk_543 (r := 25) (k := 2) rfl rfl rfl
theorem zd_543_104 : decode prog_14_method_141_code 104 = .ok (.iconst 0, 1) := zsh_g zdk_543 (r := 26) (k := 0) rfl rfl rfl
theorem zd_543_105 : decode prog_14_method_141_code 105 = .ok (.invokevirtual 1362, 3) := zsh_g zdk_543 (r := 26) (k := 1) rfl rfl rfl
theorem zd_543_108 : decode prog_14_method_141_code 108 = .ok (.goto 94, 3) := zsh_g zdk_543 (r := 27) (k := 0) rfl rfl rfl
theorem zd_543_111 : decode prog_14_method_141_code 111 = .ok (.iload_n 1, 1) := zsh_g zdk_543 (r := 27) (k := 1) rfl rfl rfl
theorem zd_543_112 : decode prog_14_method_141_code 112 = .ok (.bipush 8, 2) := zsh_g zdk_543 (r := 28) (k := 0) rfl rfl rfl
theorem zd_543_114 : decode prog_14_method_141_code 114 = .ok (.if_icmp .lt 47, 3) := zsh_g zdk_543 (r := 28) (k := 1) rfl rfl rfl
theorem zd_543_117 : decode prog_14_method_141_code 117 = .ok (.iload_n 1, 1) := zsh_g zdk_543 (r := 29) (k := 0) rfl rfl rfl
theorem zd_543_118 : decode prog_14_method_141_code 118 = .ok (.bipush 10, 2) := zsh_g zdk_543 (r := 29) (k := 1) rfl rfl rfl
theorem zd_543_120 : decode prog_14_method_141_code 120 = .ok (.if_icmp .gt 41, 3) := zsh_g zdk_543 (r := 30) (k := 0) rfl rfl rfl
theorem zd_543_123 : decode prog_14_method_141_code 123 = .ok (.aload_n 0, 1) := zsh_g zdk_543 (r := 30) (k := 1) rfl rfl rfl
theorem zd_543_124 : decode prog_14_method_141_code 124 = .ok (.iconst 0, 1) := zsh_g zdk_543 (r := 31) (k := 0) rfl rfl rfl
theorem zd_543_125 : decode prog_14_method_141_code 125 = .ok (.aload_n 0, 1) := zsh_g zdk_543 (r := 31) (k := 1) rfl rfl rfl
theorem zd_543_126 : decode prog_14_method_141_code 126 = .ok (.getfield 1312, 3) := zsh_g zdk_543 (r := 31) (k := 2) rfl rfl rfl
theorem zd_543_129 : decode prog_14_method_141_code 129 = .ok (.aload_n 0, 1) := zsh_g zdk_543 (r := 32) (k := 0) rfl rfl rfl
theorem zd_543_130 : decode prog_14_method_141_code 130 = .ok (.getfield 1306, 3) := zsh_g zdk_543 (r := 32) (k := 1) rfl rfl rfl
theorem zd_543_133 : decode prog_14_method_141_code 133 = .ok (.aload_n 0, 1) := zsh_g zdk_543 (r := 33) (k := 0) rfl rfl rfl
theorem zd_543_134 : decode prog_14_method_141_code 134 = .ok (.getfield 431, 3) := zsh_g zdk_543 (r := 33) (k := 1) rfl rfl rfl
theorem zd_543_137 : decode prog_14_method_141_code 137 = .ok (.iconst 0, 1) := zsh_g zdk_543 (r := 34) (k := 0) rfl rfl rfl
theorem zd_543_138 : decode prog_14_method_141_code 138 = .ok (.iaload, 1) := zsh_g zdk_543 (r := 34) (k := 1) rfl rfl rfl
theorem zd_543_139 : decode prog_14_method_141_code 139 = .ok (.iload_n 2, 1) := zsh_g zdk_543 (r := 34) (k := 2) rfl rfl rfl
theorem zd_543_140 : decode prog_14_method_141_code 140 = .ok (.invokestatic 1354, 3) := zsh_g zdk_543 (r := 35) (k := 0) rfl rfl rfl
theorem zd_543_143 : decode prog_14_method_141_code 143 = .ok (.aload_n 0, 1) := zsh_g zdk_543 (r := 35) (k := 1) rfl rfl rfl
theorem zd_543_144 : decode prog_14_method_141_code 144 = .ok (.getfield 1312, 3) := zsh_g zdk_543 (r := 36) (k := 0) rfl rfl rfl
theorem zd_543_147 : decode prog_14_method_141_code 147 = .ok (.invokestatic 1293, 3) := zsh_g zdk_543 (r := 36) (k := 1) rfl rfl rfl
theorem zd_543_150 : decode prog_14_method_141_code 150 = .ok (.aload_n 0, 1) := zsh_g zdk_543 (r := 37) (k := 0) rfl rfl rfl
theorem zd_543_151 : decode prog_14_method_141_code 151 = .ok (.getfield 1306, 3) := zsh_g zdk_543 (r := 37) (k := 1) rfl rfl rfl
theorem zd_543_154 : decode prog_14_method_141_code 154 = .ok (.iconst 1, 1) := zsh_g zdk_543 (r := 38) (k := 0) rfl rfl rfl
theorem zd_543_155 : decode prog_14_method_141_code 155 = .ok (.invokevirtual 1362, 3) := zsh_g zdk_543 (r := 38) (k := 1) rfl rfl rfl
theorem zd_543_158 : decode prog_14_method_141_code 158 = .ok (.goto 44, 3) := zsh_g zdk_543 (r := 39) (k := 0) rfl rfl rfl
theorem zd_543_161 : decode prog_14_method_141_code 161 = .ok (.aload_n 0, 1) := zsh_g zdk_543 (r := 40) (k := 0) rfl rfl rfl
theorem zd_543_162 : decode prog_14_method_141_code 162 = .ok (.aload_n 0, 1) := zsh_g zdk_543 (r := 40) (k := 1) rfl rfl rfl
theorem zd_543_163 : decode prog_14_method_141_code 163 = .ok (.getfield 1309, 3) := zsh_g zdk_543 (r := 40) (k := 2) rfl rfl rfl
theorem zd_543_166 : decode prog_14_method_141_code 166 = .ok (.aload_n 0, 1) := zsh_g zdk_543 (r := 41) (k := 0) rfl rfl rfl
theorem zd_543_167 : decode prog_14_method_141_code 167 = .ok (.getfield 1312, 3) := zsh_g zdk_543 (r := 41) (k := 1) rfl rfl rfl
theorem zd_543_170 : decode prog_14_method_141_code 170 = .ok (.aload_n 0, 1) := zsh_g zdk_543 (r := 42) (k := 0) rfl rfl rfl
theorem zd_543_171 : decode prog_14_method_141_code 171 = .ok (.getfield 1306, 3) := zsh_g zdk_543 (r := 42) (k := 1) rfl rfl rfl
theorem zd_543_174 : decode prog_14_method_141_code 174 = .ok (.iconst 0, 1) := zsh_g zdk_543 (r := 43) (k := 0) rfl rfl rfl
theorem zd_543_175 : decode prog_14_method_141_code 175 = .ok (.iload_n 2, 1) := zsh_g zdk_543 (r := 43) (k := 1) rfl rfl rfl
theorem zd_543_176 : decode prog_14_method_141_code 176 = .ok (.invokestatic 1354, 3) := zsh_g zdk_543 (r := 44) (k := 0) rfl rfl rfl
theorem zd_543_179 : decode prog_14_method_141_code 179 = .ok (.aload_n 0, 1) := zsh_g zdk_543 (r := 44) (k := 1) rfl rfl rfl
theorem zd_543_180 : decode prog_14_method_141_code 180 = .ok (.getfield 1309, 3) := zsh_g zdk_543 (r := 45) (k := 0) rfl rfl rfl
theorem zd_543_183 : decode prog_14_method_141_code 183 = .ok (.invokestatic 1293, 3) := zsh_g zdk_543 (r := 45) (k := 1) rfl rfl rfl
theorem zd_543_186 : decode prog_14_method_141_code 186 = .ok (.aload_n 0, 1) := zsh_g zdk_543 (r := 46) (k := 0) rfl rfl rfl
theorem zd_543_187 : decode prog_14_method_141_code 187 = .ok (.getfield 1312, 3) := zsh_g zdk_543 (r := 46) (k := 1) rfl rfl rfl
theorem zd_543_190 : decode prog_14_method_141_code 190 = .ok (.invokestatic 1293, 3) := zsh_g zdk_543 (r := 47) (k := 0) rfl rfl rfl
theorem zd_543_193 : decode prog_14_method_141_code 193 = .ok (.ior, 1) := zsh_g zdk_543 (r := 48) (k := 0) rfl rfl rfl
theorem zd_543_194 : decode prog_14_method_141_code 194 = .ok (.aload_n 0, 1) := zsh_g zdk_543 (r := 48) (k := 1) rfl rfl rfl
theorem zd_543_195 : decode prog_14_method_141_code 195 = .ok (.getfield 1306, 3) := zsh_g zdk_543 (r := 48) (k := 2) rfl rfl rfl
theorem zd_543_198 : decode prog_14_method_141_code 198 = .ok (.iconst 1, 1) := zsh_g zdk_543 (r := 49) (k := 0) rfl rfl rfl
theorem zd_543_199 : decode prog_14_method_141_code 199 = .ok (.invokevirtual 1362, 3) := zsh_g zdk_543 (r := 49) (k := 1) rfl rfl rfl
def zdl_544 : List (List (Nat × Instr × Nat)) := [[(0, (.iload_n 1), 1), (1, (.bipush 38), 2), (3, (.if_icmp .lt 7), 3)], [(2, (.iconst 1), 1), (3, (.goto 4), 3)], [(2, (.iconst 0), 1), (3, (.istore_n 2), 1)], [(0, (.iload_n 1), 1), (1, (.bipush 33), 2), (3, (.if_icmp .lt 103), 3)], [(2, (.aload_n 0), 1), (3, (.getfield 1327), 3)], [(2, (.ifCond .ne 96), 3)], [(1, (.aload_n 0), 1), (2, (.iconst 0), 1), (3, (.iconst 1), 1)], [(0, (.aload_n 0), 1), (1, (.invokevirtual 1290), 3)], [(0, (.invokevirtual 1296), 3), (3, (.aload_n 0), 1)], [(0, (.aload_n 0), 1), (1, (.getfield 289), 3)], [(0, (.bipush 32), 2), (2, .iaload, 1), (3, (.iconst 0), 1)], [(0, (.iconst 1), 1), (1, (.iconst 0), 1), (2, (.invokestatic 1366), 3)], [(1, (.iconst 0), 1), (2, (.iconst 1), 1), (3, (.iconst 1), 1)], [(0, (.invokevirtual 1362), 3), (3, (.aload_n 0), 1)], [(0, (.iconst 0), 1), (1, (.iconst 2), 1), (2, (.aload_n 0), 1), (3, (.invokevirtual 1290), 3)], [(2, (.invokevirtual 1296), 3)], [(1, (.aload_n 0), 1), (2, (.aload_n 0), 1), (3, (.getfield 289), 3)], [(2, (.iload_n 1), 1), (3, .iaload, 1)], [(0, (.iconst 1), 1), (1, (.aload_n 0), 1), (2, (.getfield 1312), 3)], [(1, (.iconst 0), 1), (2, (.invokestatic 1366), 3)], [(1, (.iconst 1), 1), (2, (.invokestatic 1293), 3)], [(1, (.iload_n 2), 1), (2, (.ifCond .eq 13), 3)], [(1, (.aload_n 0), 1), (2, (.getfield 1312), 3)], [(1, (.invokestatic 1293), 3)], [(0, (.goto 4), 3), (3, (.iconst 0), 1)], [(0, .ior, 1), (1, (.iload_n 2), 1), (2, (.ifCond .eq 7), 3)], [(1, (.iconst 0), 1), (2, (.goto 7), 3)], [(1, (.aload_n 0), 1), (2, (.getfield 1312), 3)], [(1, (.iconst 1), 1), (2, (.invokevirtual 1362), 3)], [(2, (.aload_n 0), 1), (3, (.iconst 0), 1)], [(0, (.aload_n 0), 1), (1, (.getfield 440), 3)], [(0, (.iconst 0), 1), (1, .iaload, 1), (2, (.aload_n 0), 1), (3, (.invokevirtual 1290), 3)], [(2, (.invokevirtual 1296), 3)], [(1, (.aload_n 0), 1), (2, (.aload_n 0), 1), (3, (.getfield 289), 3)], [(2, (.iload_n 1), 1), (3, .iaload, 1)], [(0, (.aload_n 0), 1), (1, (.getfield 1309), 3)], [(0, (.aload_n 0), 1), (1, (.getfield 1312), 3)], [(0, (.aload_n 0), 1), (1, (.iconst 0), 1), (2, (.invokevirtual 1370), 3)], [(1, (.invokestatic 1366), 3)], [(0, (.aload_n 0), 1), (1, (.getfield 1309), 3)], [(0, (.invokestatic 1293), 3), (3, (.iload_n 2), 1)], [(0, (.ifCond .eq 13), 3), (3, (.aload_n 0), 1)], [(0, (.getfield 1312), 3), (3, (.invokestatic 1293), 3)], [(2, (.goto 4), 3)], [(1, (.iconst 0), 1), (2, .ior, 1), (3, (.iload_n 2), 1)], [(0, (.ifCond .eq 7), 3), (3, (.iconst 0), 1)], [(0, (.goto 7), 3), (3, (.aload_n 0), 1)], [(0, (.getfield 1312), 3), (3, (.iconst 1), 1)], [(0, (.invokevirtual 1362), 3)]]
theorem zdk_544 : zsh_all 8 zdl_544 prog_14_method_143_code.data.toList = true := by decide +kernel
theorem zd_544_0 : decode prog_14_method_143_code 0 = .ok (.iload_n 1, 1) := zsh_g zdk_544 (r := 0) (k := 0) rfl rfl rfl
theorem zd_544_1 : decode prog_14_method_143_code 1 = .ok (.bipush 38, 2) := zsh_g zdk_544 (r := 0) (k := 1) rfl rfl rfl
theorem zd_544_3 : decode prog_14_method_143_code 3 = .ok (.if_icmp .lt 7, 3) := zsh_g zdk_544 (r := 0) (k := 2) rfl rfl rfl
theorem zd_544_6 : decode prog_14_method_143_code 6 = .ok (.iconst 1, 1) := zsh_g zdk_544 (r := 1) (k := 0) rfl rfl rfl
theorem zd_544_7 : decode prog_14_method_143_code 7 = .ok (.goto 4, 3) := zsh_g zdk_544 (r := 1) (k := 1) rfl rfl rfl
theorem zd_544_10 : decode prog_14_method_143_code 10 = .ok (.iconst 0, 1) := zsh_g zdk_544 (r := 2) (k := 0) rfl rfl rfl
theorem zd_544_11 : decode prog_14_method_143_code 11 = .ok (.istore_n 2, 1) := zsh_g zdk_544 (r := 2) (k := 1) rfl rfl rfl
theorem zd_544_12 : decode prog_14_method_143_code 12 = .ok (.iload_n 1, 1) := zsh_g zdk_544 (r := 3) (k := 0) rfl rfl rfl
theorem zd_544_13 : decode prog_14_method_143_code 13 = .ok (.bipush 33, 2) := zsh_g zdk_544 (r := 3) (k := 1) rfl rfl rfl
theorem zd_544_15 : decode prog_14_method_143_code 15 = .ok (.if_icmp .lt 103, 3) := zsh_g zdk_544 (r := 3) (k := 2) rfl rfl rfl
theorem zd_544_18 : decode prog_14_method_143_code 18 = .ok (.aload_n 0, 1) := zsh_g zdk_544 (r := 4) (k := 0) rfl rfl rfl
theorem zd_544_19 : decode prog_14_method_143_code 19 = .ok (.getfield 1327, 3) := zsh_g zdk_544 (r := 4) (k := 1) rfl rfl rfl
theorem zd_544_22 : decode prog_14_method_143_code 22 = .ok (.ifCond .ne 96, 3) := zsh_g zdk_544 (r := 5) (k := 0) rfl rfl rfl
theorem zd_544_25 : decode prog_14_method_143_code 25 = .ok (.aload_n 0, 1) := zsh_g zdk_544 (r := 6) (k := 0) rfl rfl rfl
theorem zd_544_26 : decode prog_14_method_143_code 26 = .ok (.iconst 0, 1) := zsh_g zdk_544 (r := 6) (k := 1) rfl rfl rfl
theorem zd_544_27 : decode prog_14_method_143_code 27 = .ok (.iconst 1, 1) := zsh_g zdk_544 (r := 6) (k := 2) rfl rfl rfl
theorem zd_544_28 : decode prog_14_method_143_code 28 = .ok (.aload_n 0, 1) := zsh_g zdk_544 (r := 7) (k := 0) rfl rfl rfl
theorem zd_544_29 : decode prog_14_method_143_code 29 = .ok (.invokevirtual 1290, 3) := zsh_g zdk_544 (r := 7) (k := 1) rfl rfl rfl
theorem zd_544_32 : decode prog_14_method_143_code 32 = .ok (.invokevirtual 1296, 3) := zsh_g zdk_544 (r := 8) (k := 0) rfl rfl rfl
theorem zd_544_35 : decode prog_14_method_143_code 35 = .ok (.aload_n 0, 1) := zsh_g zdk_544 (r := 8) (k := 1) rfl rfl rfl
theorem zd_544_36 : decode prog_14_method_143_code 36 = .ok (.aload_n 0, 1) := zsh_g zdk_544 (r := 9) (k := 0) rfl rfl rfl
theorem zd_544_37 : decode prog_14_method_143_code 37 = .ok (.getfield 289, 3) := zsh_g zdk_544 (r := 9) (k := 1) rfl rfl rfl
theorem zd_544_40 : decode prog_14_method_143_code 40 = .ok (.bipush 32, 2) := zsh_g zdk_544 (r := 10) (k := 0) rfl rfl rfl
theorem zd_544_42 : decode prog_14_method_143_code 42 = .ok (.iaload, 1) := zsh_g zdk_544 (r := 10) (k := 1) rfl rfl rfl
theorem zd_544_43 : decode prog_14_method_143_code 43 = .ok (.iconst 0, 1) := zsh_g zdk_544 (r := 10) (k := 2) rfl rfl rfl
theorem zd_544_44 : decode prog_14_method_143_code 44 = .ok (.iconst 1, 1) := zsh_g zdk_544 (r := 11) (k := 0) rfl rfl rfl
theorem zd_544_45 : decode prog_14_method_143_code 45 = .ok (.iconst 0, 1) := zsh_g zdk_544 (r := 11) (k := 1) rfl rfl rfl
theorem zd_544_46 : decode prog_14_method_143_code 46 = .ok (.invokestatic 1366, 3) := zsh_g zdk_544 (r := 11) (k := 2) rfl rfl rfl
theorem zd_544_49 : decode prog_14_method_143_code 49 = .ok (.iconst 0, 1) := zsh_g zdk_544 (r := 12) (k := 0) rfl rfl rfl
theorem zd_544_50 : decode prog_14_method_143_code 50 = .ok (.iconst 1, 1) := zsh_g zdk_544 (r := 12) (k := 1) rfl rfl rfl
theorem zd_544_51 : decode prog_14_method_143_code 51 = .ok (.iconst 1, 1) := zsh_g zdk_544 (r := 12) (k := 2) rfl rfl rfl
theorem zd_544_52 : decode prog_14_method_143_code 52 = .ok (.invokevirtual 1362, 3) := zsh_g zdk_544 (r := 13) (k := 0) rfl rfl rfl
theorem zd_544_55 : decode prog_14_method_143_code 55 = .ok (.aload_n 0, 1) := zsh_g zdk_544 (r := 13) (k := 1) rfl rfl rfl
theorem zd_544_56 : decode prog_14_method_143_code 56 = .ok (.iconst 0, 1) := zsh_g zdk_544 (r := 14) (k := 0) rfl rfl rfl
theorem zd_544_57 : decode prog_14_method_143_code 57 = .ok (.iconst 2, 1) := zsh_g zdk_544 (r := 14) (k := 1) rfl rfl rfl
theorem zd_544_58 : decode prog_14_method_143_code 58 = .ok (.aload_n 0, 1) := zsh_g zdk_544 (r := 14) (k := 2) rfl rfl rfl
theorem zd_544_59 : decode prog_14_method_143_code 59 = .ok (.invokevirtual 1290, 3) := zsh_g zdk_544 (r := 14) (k := 3) rfl rfl rfl
theorem zd_544_62 : decode prog_14_method_143_code 62 = .ok (.invokevirtual 1296, 3) := zsh_g zdk_544 (r := 15) (k := 0) rfl rfl rfl
theorem zd_544_65 : decode prog_14_method_143_code 65 = .ok (.aload_n 0, 1) := zsh_g zdk_544 (r := 16) (k := 0) rfl rfl rfl
theorem zd_544_66 : decode prog_14_method_143_code 66 = .ok (.aload_n 0, 1) := zsh_g zdk_544 (r := 16) (k := 1) rfl rfl rfl
theorem zd_544_67 : decode prog_14_method_143_code 67 = .ok (.getfield 289, 3) := zsh_g zdk_544 (r := 16) (k := 2) rfl rfl rfl
theorem zd_544_70 : decode prog_14_method_143_code 70 = .ok (.iload_n 1, 1) := zsh_g zdk_544 (r := 17) (k := 0) rfl rfl rfl
theorem zd_544_71 : decode prog_14_method_143_code 71 = .ok (.iaload, 1) := zsh_g zdk_544 (r := 17) (k := 1) rfl rfl rfl
theorem zd_544_72 : decode prog_14_method_143_code 72 = .ok (.iconst 1, 1) := zsh_g zdk_544 (r := 18) (k := 0) rfl rfl rfl
theorem zd_544_73 : decode prog_14_method_143_code 73 = .ok (.aload_n 0, 1) := zsh_g zdk_544 (r := 18) (k := 1) rfl rfl rfl
theorem zd_544_74 : decode prog_14_method_143_code 74 = .ok (.getfield 1312, 3) := zsh_g zdk_544 (r := 18) (k := 2) rfl rfl rfl
theorem zd_544_77 : decode prog_14_method_143_code 77 = .ok (.iconst 0, 1) := zsh_g zdk_544 (r := 19) (k := 0) rfl rfl rfl
theorem zd_544_78 : decode prog_14_method_143_code 78 = .ok (.invokestatic 1366, 3) := zsh_g zdk_544 (r := 19) (k := 1) rfl rfl rfl
theorem zd_544_81 : decode prog_14_method_143_code 81 = .ok (.iconst 1, 1) := zsh_g zdk_544 (r := 20) (k := 0) rfl rfl rfl
theorem zd_544_82 : decode prog_14_method_143_code 82 = .ok (.invokestatic 1293, 3) := zsh_g zdk_544 (r := 20) (k := 1) rfl rfl rfl
theorem zd_544_85 : decode prog_14_method_143_code 85 = .ok (.iload_n 2, 1) := zsh_g zdk_544 (r := 21) (k := 0) rfl rfl rfl
theorem zd_544_86 : decode prog_14_method_143_code 86 = .ok (.ifCond .eq 13, 3) := zsh_g zdk_544 (r := 21) (k := 1) rfl rfl rfl
theorem zd_544_89 : decode prog_14_method_143_code 89 = .ok (.aload_n 0, 1) := zsh_g zdk_544 (r := 22) (k := 0) rfl rfl rfl
theorem zd_544_90 : decode prog_14_method_143_code 90 = .ok (.getfield 1312, 3) := zsh_g zdk_544 (r := 22) (k := 1) rfl rfl rfl
theorem zd_544_93 : decode prog_14_method_143_code 93 = .ok (.invokestatic 1293, 3) := zsh_g zdk_544 (r := 23) (k := 0) rfl rfl rfl
theorem zd_544_96 : decode prog_14_method_143_code 96 = .ok (.goto 4, 3) := zsh_g zdk_544 (r := 24) (k := 0) rfl rfl rfl
theorem zd_544_99 : decode prog_14_method_143_code 99 = .ok (.iconst 0, 1) := zsh_g zdk_544 (r := 24) (k := 1) rfl rfl rfl
theorem zd_544_100 : decode prog_14_method_143_code 100 = .ok (.ior, 1) := zsh_g zdk_544 (r := 25) (k := 0) rfl rfl rfl
theorem zd_544_101 : decode prog_14_method_143_code 101 = .ok (.iload_n 2, 1) := zsh_g zdk_544 (r := 25) (k := 1) rfl rfl rfl
theorem zd_544_102 : decode prog_14_method_143_code 102 = .ok (.ifCond .eq 7, 3) := zsh_g zdk_544 (r := 25) (k := 2) rfl rfl rfl
theorem zd_544_105 : decode prog_14_method_143_code 105 = .ok (.iconst 0, 1) := zsh_g zdk_544 (r := 26) (k := 0) rfl rfl rfl
theorem zd_544_106 : decode prog_14_method_143_code 106 = .ok (.goto 7, 3) := zsh_g zdk_544 (r := 26) (k := 1) rfl rfl rfl
theorem zd_544_109 : decode prog_14_method_143_code 109 = .ok (.aload_n 0, 1) := zsh_g zdk_544 (r := 27) (k := 0) rfl rfl rfl
theorem zd_544_110 : decode prog_14_method_143_code 110 = .ok (.getfield 1312, 3) := zsh_g zdk_544 (r := 27) (k := 1) rfl rfl rfl
theorem zd_544_113 : decode prog_14_method_143_code 113 = .ok (.iconst 1, 1) := zsh_g zdk_544 (r := 28) (k := 0) rfl rfl rfl
theorem zd_544_114 : decode prog_14_method_143_code 114 = .ok (.invokevirtual 1362, 3) := zsh_g zdk_544 (r := 28) (k := 1) rfl rfl rfl
theorem zd_544_118 : decode prog_14_method_143_code 118 = .ok (.aload_n 0, 1) := zsh_g zdk_544 (r := 29) (k := 0) rfl rfl rfl
theorem zd_544_119 : decode prog_14_method_143_code 119 = .ok (.iconst 0, 1) := zsh_g zdk_544 (r := 29) (k := 1) rfl rfl rfl
theorem zd_544_120 : decode prog_14_method_143_code 120 = .ok (.aload_n 0, 1) := zsh_g zdk_544 (r := 30) (k := 0) rfl rfl rfl
theorem zd_544_121 : decode prog_14_method_143_code 121 = .ok (.getfield 440, 3) := zsh_g zdk_544 (r := 30) (k := 1) rfl rfl rfl
theorem zd_544_124 : decode prog_14_method_143_code 124 = .ok (.iconst 0, 1) := zsh_g zdk_544 (r := 31) (k := 0) rfl rfl rfl
theorem zd_544_125 : decode prog_14_method_143_code 125 = .ok (.iaload, 1) := zsh_g zdk_544 (r := 31) (k := 1) rfl rfl rfl
theorem zd_544_126 : decode prog_14_method_143_code 126 = .ok (.aload_n 0, 1) := zsh_g zdk_544 (r := 31) (k := 2) rfl rfl rfl
theorem zd_544_127 : decode prog_14_method_143_code 127 = .ok (.invokevirtual 1290, 3) := zsh_g zdk_544 (r := 31) (k := 3) rfl rfl rfl
theorem zd_544_130 : decode prog_14_method_143_code 130 = .ok (.invokevirtual 1296, 3) := zsh_g zdk_544 (r := 32) (k := 0) rfl rfl rfl
theorem zd_544_133 : decode prog_14_method_143_code 133 = .ok (.aload_n 0, 1) := zsh_g zdk_544 (r := 33) (k := 0) rfl rfl rfl
theorem zd_544_134 : decode prog_14_method_143_code 134 = .ok (.aload_n 0, 1) := zsh_g zdk_544 (r := 33) (k := 1) rfl rfl rfl
theorem zd_544_135 : decode prog_14_method_143_code 135 = .ok (.getfield 289, 3) := zsh_g zdk_544 (r := 33) (k := 2) rfl rfl rfl
theorem zd_544_138 : decode prog_14_method_143_code 138 = .ok (.iload_n 1, 1) := zsh_g zdk_544 (r := 34) (k := 0) rfl rfl rfl
theorem zd_544_139 : decode prog_14_method_143_code 139 = .ok (.iaload, 1) := zsh_g zdk_544 (r := 34) (k := 1) rfl rfl rfl
theorem zd_544_140 : decode prog_14_method_143_code 140 = .ok (.aload_n 0, 1) := zsh_g zdk_544 (r := 35) (k := 0) rfl rfl rfl
theorem zd_544_141 : decode prog_14_method_143_code 141 = .ok (.getfield 1309, 3) := zsh_g zdk_544 (r := 35) (k := 1) rfl rfl rfl
theorem zd_544_144 : decode prog_14_method_143_code 144 = .ok (.aload_n 0, 1) := zsh_g zdk_544 (r := 36) (k := 0) rfl rfl rfl
theorem zd_544_145 : decode prog_14_method_143_code 145 = .ok (.getfield 1312, 3) := zsh_g zdk_544 (r := 36) (k := 1) rfl rfl rfl
theorem zd_544_148 : decode prog_14_method_143_code 148 = .ok (.aload_n 0, 1) := zsh_g zdk_544 (r := 37) (k := 0) rfl rfl rfl
theorem zd_544_149 : decode prog_14_method_143_code 149 = .ok (.iconst 0, 1) := zsh_g zdk_544 (r := 37) (k := 1) rfl rfl rfl
theorem zd_544_150 : decode prog_14_method_143_code 150 = .ok (.invokevirtual 1370, 3) := zsh_g zdk_544 (r := 37) (k := 2) rfl rfl rfl
theorem zd_544_153 : decode prog_14_method_143_code 153 = .ok (.invokestatic 1366, 3) := zsh_g zdk_544 (r := 38) (k := 0) rfl rfl rfl
theorem zd_544_156 : decode prog_14_method_143_code 156 = .ok (.aload_n 0, 1) := zsh_g zdk_544 (r := 39) (k := 0) rfl rfl rfl
theorem zd_544_157 : decode prog_14_method_143_code 157 = .ok (.getfield 1309, 3) := zsh_g zdk_544 (r := 39) (k := 1) rfl rfl rfl
theorem zd_544_160 : decode prog_14_method_143_code 160 = .ok (.invokestatic 1293, 3) := zsh_g zdk_544 (r := 40) (k := 0) rfl rfl rfl
theorem zd_544_163 : decode prog_14_method_143_code 163 = .ok (.iload_n 2, 1) := zsh_g zdk_544 (r := 40) (k := 1) rfl rfl rfl
theorem zd_544_164 : decode prog_14_method_143_code 164 = .ok (.ifCond .eq 13, 3) := zsh_g zdk_544 (r := 41) (k := 0) rfl rfl rfl
theorem zd_544_167 : decode prog_14_method_143_code 167 = .ok (.aload_n 0, 1) := zsh_g zdk_544 (r := 41) (k := 1) rfl rfl rfl
theorem zd_544_168 : decode prog_14_method_143_code 168 = .ok (.getfield 1312, 3) := zsh_g zdk_544 (r := 42) (k := 0) rfl rfl rfl
theorem zd_544_171 : decode prog_14_method_143_code 171 = .ok (.invokestatic 1293, 3) := zsh_g zdk_544 (r := 42) (k := 1) rfl rfl rfl
theorem zd_544_174 : decode prog_14_method_143_code 174 = .ok (.goto 4, 3) := zsh_g zdk_544 (r := 43) (k := 0) rfl rfl rfl
theorem zd_544_177 : decode prog_14_method_143_code 177 = .ok (.iconst 0, 1) := zsh_g zdk_544 (r := 44) (k := 0) rfl rfl rfl
theorem zd_544_178 : decode prog_14_method_143_code 178 = .ok (.ior, 1) := zsh_g zdk_544 (r := 44) (k := 1) rfl rfl rfl
theorem zd_544_179 : decode prog_14_method_143_code 179 = .ok (.iload_n 2, 1) := zsh_g zdk_544 (r := 44) (k := 2) rfl rfl rfl
theorem zd_544_180 : decode prog_14_method_143_code 180 = .ok (.ifCond .eq 7, 3) := zsh_g zdk_544 (r := 45) (k := 0) rfl rfl rfl
theorem zd_544_183 : decode prog_14_method_143_code 183 = .ok (.iconst 0, 1) := zsh_g zdk_544 (r := 45) (k := 1) rfl rfl rfl
theorem zd_544_184 : decode prog_14_method_143_code 184 = .ok (.goto 7, 3) := zsh_g zdk_544 (r := 46) (k := 0) rfl rfl rfl
theorem zd_544_187 : decode prog_14_method_143_code 187 = .ok (.aload_n 0, 1) := zsh_g zdk_544 (r := 46) (k := 1) rfl rfl rfl
theorem zd_544_188 : decode prog_14_method_143_code 188 = .ok (.getfield 1312, 3) := zsh_g zdk_544 (r := 47) (k := 0) rfl rfl rfl
theorem zd_544_191 : decode prog_14_method_143_code 191 = .ok (.iconst 1, 1) := zsh_g zdk_544 (r := 47) (k := 1) rfl rfl rfl
theorem zd_544_192 : decode prog_14_method_143_code 192 = .ok (.invokevirtual 1362, 3) := zsh_g zdk_544 (r := 48) (k := 0) rfl rfl rfl
def zdl_545 : List (List (Nat × Instr × Nat)) := [[(0, (.iload_n 1), 1)], [], [], [], [], [], [], [], [], [], [], [], [], [], [], [], [], [], [], [], [], [], [], [(0, (.aload_n 0), 1), (1, (.aload_n 0), 1), (2, (.getfield 289), 3)], [(1, (.iload_n 1), 1), (2, .iaload, 1), (3, (.aload_n 0), 1)], [(0, (.getfield 1309), 3), (3, (.aload_n 0), 1)], [(0, (.getfield 1312), 3), (3, (.iconst 0), 1)], [(0, (.invokestatic 1366), 3), (3, (.aload_n 0), 1)], [(0, (.getfield 1309), 3), (3, (.invokestatic 1293), 3)], [(2, (.aload_n 0), 1), (3, (.getfield 1312), 3)], [(2, (.invokestatic 1293), 3)], [(1, .ior, 1), (2, (.iconst 0), 1), (3, (.iconst 0), 1)], [(0, (.iconst 4), 1), (1, (.invokevirtual 1358), 3)], [(0, (.goto 531), 3), (3, (.aload_n 0), 1)], [(0, (.aload_n 0), 1), (1, (.getfield 289), 3)], [(0, (.iload_n 1), 1), (1, .iaload, 1), (2, (.aload_n 0), 1), (3, (.getfield 1309), 3)], [(2, (.iconst 0), 1), (3, (.iconst 0), 1)], [(0, (.invokestatic 1366), 3), (3, (.aload_n 0), 1)], [(0, (.getfield 1309), 3), (3, (.invokestatic 1293), 3)], [(2, (.iconst 0), 1), (3, (.iconst 0), 1)], [(0, (.iconst 4), 1), (1, (.invokevirtual 1358), 3)], [(0, (.goto 499), 3), (3, (.aload_n 0), 1)], [(0, (.iconst 1), 1), (1, (.aload_n 0), 1), (2, (.getfield 1309), 3)], [(1, (.iload_n 1), 1), (2, (.bipush 46), 2)], [(0, (.if_icmp .ne 7), 3), (3, (.iconst 1), 1)], [(0, (.goto 4), 3), (3, (.iconst 0), 1)], [(0, (.iconst 0), 1), (1, (.invokestatic 1366), 3)], [(0, (.aload_n 0), 1), (1, (.getfield 1309), 3)], [(0, (.invokestatic 1293), 3), (3, (.iconst 0), 1)], [(0, (.iconst 0), 1), (1, (.iconst 4), 1), (2, (.invokevirtual 1358), 3)], [(1, (.goto 462), 3)], [(0, (.aload_n 0), 1), (1, (.iconst 1), 1), (2, (.aload_n 0), 1), (3, (.getfield 1309), 3)], [(2, (.iload_n 1), 1), (3, (.bipush 48), 2)], [(1, (.if_icmp .ne 8), 3)], [(0, (.bipush 17), 2), (2, (.goto 5), 3)], [(1, (.bipush 16), 2), (3, (.iconst 0), 1)], [(0, (.invokestatic 1366), 3), (3, (.aload_n 0), 1)], [(0, (.getfield 1309), 3), (3, (.invokestatic 1293), 3)], [(2, (.iconst 1), 1), (3, (.iconst 0), 1)], [(0, (.iconst 4), 1), (1, (.invokevirtual 1358), 3)], [(0, (.goto 423), 3), (3, (.aload_n 0), 1)], [(0, (.aload_n 0), 1), (1, (.getfield 289), 3)], [(0, (.iload_n 1), 1), (1, .iaload, 1), (2, (.bipush 26), 2)], [(0, .ishl, 1), (1, (.iconst 0), 1), (2, (.iload_n 1), 1), (3, (.bipush 50), 2)], [(1, (.if_icmp .ne 7), 3)], [(0, (.iconst 1), 1), (1, (.goto 4), 3)], [(0, (.iconst 0), 1), (1, (.iconst 0), 1), (2, (.iconst 3), 1), (3, (.invokevirtual 1358), 3)], [(2, (.goto 393), 3)], [(1, (.aload_n 0), 1), (2, (.iconst 0), 1), (3, (.iconst 0), 1)], [(0, (.iconst 0), 1), (1, (.iconst 1), 1), (2, (.invokevirtual 1362), 3)], [(1, (.goto 382), 3)], [(0, (.aload_n 0), 1), (1, (.aload_n 0), 1), (2, (.getfield 1309), 3)], [(1, (.iconst 0), 1), (2, (.aload_n 0), 1), (3, (.getfield 1306), 3)], [(2, (.iconst 0), 1), (3, (.aload_n 0), 1)], [(0, (.getfield 289), 3), (3, (.iconst 0), 1)], [(0, .iaload, 1), (1, (.invokestatic 1354), 3)], [(0, (.aload_n 0), 1), (1, (.getfield 1309), 3)], [(0, (.invokestatic 1293), 3), (3, (.aload_n 0), 1)], [(0, (.getfield 1306), 3), (3, (.iconst 1), 1)], [(0, (.invokevirtual 1362), 3), (3, (.goto 344), 3)], [(2, (.aload_n 0), 1), (3, (.aload_n 0), 1)], [(0, (.getfield 1309), 3), (3, (.iconst 0), 1)], [(0, (.aload_n 0), 1), (1, (.getfield 1306), 3)], [(0, (.iconst 0), 1), (1, (.aload_n 0), 1), (2, (.getfield 289), 3)], [(1, (.iconst 5), 1), (2, .iaload, 1), (3, (.invokestatic 1354), 3)], [(2, (.aload_n 0), 1), (3, (.getfield 1309), 3)], [(2, (.invokestatic 1293), 3)], [(1, (.aload_n 0), 1), (2, (.getfield 1306), 3)], [(1, (.iconst 1), 1), (2, (.invokevirtual 1362), 3)], [(1, (.goto 306), 3)], [(0, (.aload_n 0), 1), (1, (.iconst 0), 1), (2, (.aload_n 0), 1), (3, (.getfield 1309), 3)], [(2, (.aload_n 0), 1), (3, (.getfield 1306), 3)], [(2, (.iconst 0), 1), (3, (.aload_n 0), 1)], [(0, (.getfield 289), 3), (3, (.iconst 1), 1)], [(0, .iaload, 1), (1, (.invokestatic 1354), 3)], [(0, (.aload_n 0), 1), (1, (.getfield 1309), 3)], [(0, (.invokestatic 1293), 3), (3, (.aload_n 0), 1)], [(0, (.getfield 1306), 3), (3, (.iconst 1), 1)], [(0, (.invokevirtual 1362), 3), (3, (.goto 268), 3)], [(2, (.aload_n 0), 1), (3, (.invokevirtual 1373), 3)], [(2, (.goto 261), 3)], [(1, (.aload_n 0), 1), (2, (.iconst 0), 1), (3, (.iconst 1), 1)], [(0, (.aload_n 0), 1), (1, (.invokevirtual 1290), 3)], [(0, (.invokevirtual 1296), 3), (3, (.aload_n 0), 1)], [(0, (.aload_n 0), 1), (1, (.getfield 289), 3)], [(0, (.bipush 32), 2), (2, .iaload, 1), (3, (.iconst 0), 1)], [(0, (.aload_n 0), 1), (1, (.getfield 1312), 3)], [(0, (.iconst 0), 1), (1, (.invokestatic 1366), 3)], [(0, (.iconst 0), 1), (1, (.aload_n 0), 1), (2, (.getfield 1312), 3)], [(1, (.iconst 1), 1), (2, (.invokevirtual 1362), 3)], [(1, (.aload_n 0), 1), (2, (.iconst 0), 1), (3, (.iconst 2), 1)], [(0, (.aload_n 0), 1), (1, (.invokevirtual 1290), 3)], [(0, (.invokevirtual 1296), 3), (3, (.aload_n 0), 1)], [(0, (.aload_n 0), 1), (1, (.getfield 289), 3)], [(0, (.bipush 26), 2), (2, .iaload, 1), (3, (.aload_n 0), 1)], [(0, (.getfield 1312), 3), (3, (.aload_n 0), 1)], [(0, (.getfield 1312), 3), (3, (.iconst 0), 1)], [(0, (.invokestatic 1366), 3), (3, (.aload_n 0), 1)], [(0, (.getfield 1312), 3), (3, (.invokestatic 1293), 3)], [(2, (.aload_n 0), 1), (3, (.getfield 1312), 3)], [(2, (.iconst 1), 1), (3, (.invokevirtual 1362), 3)], [(2, (.goto 177), 3)], [(1, (.aload_n 0), 1), (2, (.aload_n 0), 1), (3, (.getfield 289), 3)], [(2, (.bipush 41), 2)], [(0, .iaload, 1), (1, (.iconst 0), 1), (2, (.iconst 0), 1), (3, (.iconst 0), 1)], [(0, (.invokestatic 1366), 3), (3, (.iconst 0), 1)], [(0, (.iconst 0), 1), (1, (.iconst 0), 1), (2, (.iconst 4), 1), (3, (.invokevirtual 1358), 3)], [(2, (.goto 153), 3)], [(1, (.aload_n 0), 1), (2, (.aload_n 0), 1), (3, (.getfield 289), 3)], [(2, (.iload_n 1), 1), (3, (.bipush 58), 2)], [(1, (.if_icmp .ne 8), 3)], [(0, (.bipush 41), 2), (2, (.goto 5), 3)], [(1, (.bipush 42), 2), (3, .iaload, 1)], [(0, (.aload_n 0), 1), (1, (.getfield 1309), 3)], [(0, (.iconst 0), 1), (1, (.iconst 0), 1), (2, (.invokestatic 1366), 3)], [(1, (.aload_n 0), 1), (2, (.getfield 1309), 3)], [(1, (.invokestatic 1293), 3)], [(0, (.iconst 0), 1), (1, (.iconst 0), 1), (2, (.iconst 4), 1), (3, (.invokevirtual 1358), 3)], [(2, (.goto 109), 3)], [(1, (.iload_n 1), 1), (2, (.bipush 62), 2)], [(0, (.if_icmp .eq 9), 3), (3, (.iload_n 1), 1)], [(0, (.bipush 63), 2), (2, (.if_icmp .ne 7), 3)], [(1, (.iconst 1), 1), (2, (.goto 4), 3)], [(1, (.iconst 0), 1), (2, (.istore_n 2), 1), (3, (.aload_n 0), 1)], [(0, (.iload_n 2), 1), (1, (.ifCond .eq 10), 3)], [(0, (.aload_n 0), 1), (1, (.getfield 1312), 3)], [(0, (.goto 7), 3), (3, (.aload_n 0), 1)], [(0, (.getfield 1309), 3), (3, (.iload_n 2), 1)], [(0, (.ifCond .eq 10), 3), (3, (.aload_n 0), 1)], [(0, (.getfield 1309), 3), (3, (.goto 7), 3)], [(2, (.aload_n 0), 1), (3, (.getfield 1312), 3)], [(2, (.invokevirtual 1376), 3)], [(1, (.iload_n 1), 1), (2, (.bipush 60), 2)], [(0, (.if_icmp .eq 9), 3), (3, (.iload_n 1), 1)], [(0, (.bipush 62), 2), (2, (.if_icmp .ne 7), 3)], [(1, (.iconst 1), 1), (2, (.goto 4), 3)], [(1, (.iconst 0), 1), (2, (.istore_n 3), 1), (3, (.aload_n 0), 1)], [(0, (.aload_n 0), 1), (1, (.getfield 289), 3)], [(0, (.iload_n 3), 1), (1, (.ifCond .eq 8), 3)], [(0, (.bipush 42), 2), (2, (.goto 5), 3)], [(1, (.bipush 41), 2), (3, .iaload, 1)], [(0, (.iconst 1), 1), (1, (.iconst 0), 1), (2, (.iconst 0), 1), (3, (.invokestatic 1366), 3)], [(2, (.iconst 1), 1), (3, (.invokestatic 1293), 3)], [(2, (.iconst 0), 1), (3, (.iconst 0), 1)], [(0, (.iconst 4), 1), (1, (.invokevirtual 1358), 3)], [(0, (.goto 3), 3)]]
theorem zdk_545 : zsh_all 8 zdl_545 prog_14_method_146_code.data.toList = true := by decide +kernel
theorem zd_545_0 : decode prog_14_method_146_code 0 = .ok (.iload_n 1, 1) := zsh_g zdk_545 (r := 0) (k := 0) rfl rfl rfl
theorem zd_545_92 : decode prog_14_method_146_code 92 = .ok (.aload_n 0, 1) := zsh_g zdk_545 (r := 23) (k := 0) rfl rfl rfl
theorem zd_545_93 : decode prog_14_method_146_code 93 = .ok (.aload_n 0, 1) := zsh_g zdk_545 (r := 23) (k := 1) rfl rfl rfl
theorem zd_545_94 : decode prog_14_method_146_code 94 = .ok (.getfield 289, 3) := zsh_g zdk_545 (r := 23) (k := 2) rfl rfl rfl
theorem zd_545_97 : decode prog_14_method_146_code 97 = .ok (.iload_n 1, 1) := zsh_g zdk_545 (r := 24) (k := 0) rfl rfl rfl
theorem zd_545_98 : decode prog_14_method_146_code 98 = .ok (.iaload, 1) := zsh_g zdk_545 (r := 24) (k := 1) rfl rfl rfl
theorem zd_545_99 : decode prog_14_method_146_code 99 = .ok (.aload_n 0, 1) := zsh_g zdk_545 (r := 24) (k := 2) rfl rfl rfl
theorem zd_545_100 : decode prog_14_method_146_code 100 = .ok (.getfield 1309, 3) := zsh_g zdk_545 (r := 25) (k := 0) rfl rfl rfl
theorem zd_545_103 : decode prog_14_method_146_code 103 = .ok (.aload_n 0, 1) := zsh_g zdk_545 (r := 25) (k := 1) rfl rfl rfl
theorem zd_545_104 : decode prog_14_method_146_code 104 = .ok (.getfield 1312, 3) := zsh_g zdk_545 (r := 26) (k := 0) rfl rfl rfl
theorem zd_545_107 : decode prog_14_method_146_code 107 = .ok (.iconst 0, 1) := zsh_g zdk_545 (r := 26) (k := 1) rfl rfl rfl
theorem zd_545_108 : decode prog_14_method_146_code 108 = .ok (.invokestatic 1366, 3) := zsh_g zdk_545 (r := 27) (k := 0) rfl rfl rfl
theorem zd_545_111 : decode prog_14_method_146_code 111 = .ok (.aload_n 0, 1) := zsh_g zdk_545 (r := 27) (k := 1) rfl rfl rfl
theorem zd_545_112 : decode prog_14_method_146_code 112 = .ok (.getfield 1309, 3) := zsh_g zdk_545 (r := 28) (k := 0) rfl rfl rfl
theorem zd_545_115 : decode prog_14_method_146_code 115 = .ok (.invokestatic 1293, 3) := zsh_g zdk_545 (r := 28) (k := 1) rfl rfl rfl
theorem zd_545_118 : decode prog_14_method_146_code 118 = .ok (.aload_n 0, 1) := zsh_g zdk_545 (r := 29) (k := 0) rfl rfl rfl
theorem zd_545_119 : decode prog_14_method_146_code 119 = .ok (.getfield 1312, 3) := zsh_g zdk_545 (r := 29) (k := 1) rfl rfl rfl
theorem zd_545_122 : decode prog_14_method_146_code 122 = .ok (.invokestatic 1293, 3) := zsh_g zdk_545 (r := 30) (k := 0) rfl rfl rfl
theorem zd_545_125 : decode prog_14_method_146_code 125 = .ok (.ior, 1) := zsh_g zdk_545 (r := 31) (k := 0) rfl rfl rfl
theorem zd_545_126 : decode prog_14_method_146_code 126 = .ok (.iconst 0, 1) := zsh_g zdk_545 (r := 31) (k := 1) rfl rfl rfl
theorem zd_545_127 : decode prog_14_method_146_code 127 = .ok (.iconst 0, 1) := zsh_g zdk_545 (r := 31) (k := 2) rfl rfl rfl
theorem zd_545_128 : decode prog_14_method_146_code 128 = .ok (.iconst 4, 1) := zsh_g zdk_545 (r := 32) (k := 0) rfl rfl rfl
theorem zd_545_129 : decode prog_14_method_146_code 129 = .ok (.invokevirtual 1358, 3) := zsh_g zdk_545 (r := 32) (k := 1) rfl rfl rfl
theorem zd_545_132 : decode prog_14_method_146_code 132 = .ok (.goto 531, 3) := zsh_g zdk_545 (r := 33) (k := 0) rfl rfl rfl
theorem zd_545_135 : decode prog_14_method_146_code 135 = .ok (.aload_n 0, 1) := zsh_g zdk_545 (r := 33) (k := 1) rfl rfl rfl
theorem zd_545_136 : decode prog_14_method_146_code 136 = .ok (.aload_n 0, 1) := zsh_g zdk_545 (r := 34) (k := 0) rfl rfl rfl
theorem zd_545_137 : decode prog_14_method_146_code 137 = .ok (.getfield 289, 3) := zsh_g zdk_545 (r := 34) (k := 1) rfl rfl rfl
theorem zd_545_140 : decode prog_14_method_146_code 140 = .ok (.iload_n 1, 1) := zsh_g zdk_545 (r := 35) (k := 0) rfl rfl rfl
theorem zd_545_141 : decode prog_14_method_146_code 141 = .ok (.iaload, 1) := zsh_g zdk_545 (r := 35) (k := 1) rfl rfl rfl
theorem zd_545_142 : decode prog_14_method_146_code 142 = .ok (.aload_n 0, 1) := zsh_g zdk_545 (r := 35) (k := 2) rfl rfl rfl
theorem zd_545_143 : decode prog_14_method_146_code 143 = .ok (.getfield 1309, 3) := zsh_g zdk_545 (r := 35) (k := 3) rfl rfl rfl
theorem zd_545_146 : decode prog_14_method_146_code 146 = .ok (.iconst 0, 1) := zsh_g zdk_545 (r := 36) (k := 0) rfl rfl rfl
theorem zd_545_147 : decode prog_14_method_146_code 147 = .ok (.iconst 0, 1) := zsh_g zdk_545 (r := 36) (k := 1) rfl rfl rfl
theorem zd_545_148 : decode prog_14_method_146_code 148 = .ok (.invokestatic 1366, 3) := zsh_g zdk_545 (r := 37) (k := 0) rfl rfl rfl
theorem zd_545_151 : decode prog_14_method_146_code 151 = .ok (.aload_n 0, 1) := zsh_g zdk_545 (r := 37) (k := 1) rfl rfl rfl
theorem zd_545_152 : decode prog_14_method_146_code 152 = .ok (.getfield 1309, 3) := zsh_g zdk_545 (r := 38) (k := 0) rfl rfl rfl
theorem zd_545_155 : decode prog_14_method_146_code 155 = .ok (.invokestatic 1293, 3) := zsh_g zdk_545 (r := 38) (k := 1) rfl rfl rfl
theorem zd_545_158 : decode prog_14_method_146_code 158 = .ok (.iconst 0, 1) := zsh_g zdk_545 (r := 39) (k := 0) rfl rfl rfl
theorem zd_545_159 : decode prog_14_method_146_code 159 = .ok (.iconst 0, 1) := zsh_g zdk_545 (r := 39) (k := 1) rfl rfl rfl
theorem zd_545_160 : decode prog_14_method_146_code 160 = .ok (.iconst 4, 1) := zsh_g zdk_545 (r := 40) (k := 0) rfl rfl rfl
theorem zd_545_161 : decode prog_14_method_146_code 161 = .ok (.invokevirtual 1358, 3) := zsh_g zdk_545 (r := 40) (k := 1) rfl rfl rfl
theorem zd_545_164 : decode prog_14_method_146_code 164 = .ok (.goto 499, 3) := zsh_g zdk_545 (r := 41) (k := 0) rfl rfl rfl
theorem zd_545_167 : decode prog_14_method_146_code 167 = .ok (.aload_n 0, 1) := zsh_g zdk_545 (r := 41) (k := 1) rfl rfl rfl
theorem zd_545_168 : decode prog_14_method_146_code 168 = .ok (.iconst 1, 1) := zsh_g zdk_545 (r := 42) (k := 0) rfl rfl rfl
theorem zd_545_169 : decode prog_14_method_146_code 169 = .ok (.aload_n 0, 1) := zsh_g zdk_545 (r := 42) (k := 1) rfl rfl rfl
theorem zd_545_170 : decode prog_14_method_146_code 170 = .ok (.getfield 1309, 3) := zsh_g zdk_545 (r := 42) (k := 2) rfl rfl rfl
theorem zd_545_173 : decode prog_14_method_146_code 173 = .ok (.iload_n 1, 1) := zsh_g zdk_545 (r := 43) (k := 0) rfl rfl rfl
theorem zd_545_174 : decode prog_14_method_146_code 174 = .ok (.bipush 46, 2) := zsh_g zdk_545 (r := 43) (k := 1) rfl rfl rfl
theorem zd_545_176 : decode prog_14_method_146_code 176 = .ok (.if_icmp .ne 7, 3) := zsh_g zdk_545 (r := 44) (k := 0) rfl rfl rfl
theorem zd_545_179 : decode prog_14_method_146_code 179 = .ok (.iconst 1, 1) := zsh_g zdk_545 (r := 44) (k := 1) rfl rfl rfl
theorem zd_545_180 : decode prog_14_method_146_code 180 = .ok (.goto 4, 3) := zsh_g zdk_545 (r := 45) (k := 0) rfl rfl rfl
theorem zd_545_183 : decode prog_14_method_146_code 183 = .ok (.iconst 0, 1) := zsh_g zdk_545 (r := 45) (k := 1) rfl rfl rfl
theorem zd_545_184 : decode prog_14_method_146_code 184 = .ok (.iconst 0, 1) := zsh_g zdk_545 (r := 46) (k := 0) rfl rfl rfl
theorem zd_545_185 : decode prog_14_method_146_code 185 = .ok (.invokestatic 1366, 3) := zsh_g zdk_545 (r := 46) (k := 1) rfl rfl rfl
theorem zd_545_188 : decode prog_14_method_146_code 188 = .ok (.aload_n 0, 1) := zsh_g zdk_545 (r := 47) (k := 0) rfl rfl rfl
theorem zd_545_189 : decode prog_14_method_146_code 189 = .ok (.getfield 1309, 3) := zsh_g zdk_545 (r := 47) (k := 1) rfl rfl rfl
theorem zd_545_192 : decode prog_14_method_146_code 192 = .ok (.invokestatic 1293, 3) := zsh_g zdk_545 (r := 48) (k := 0) rfl rfl rfl
theorem zd_545_195 : decode prog_14_method_146_code 195 = .ok (.iconst 0, 1) := zsh_g zdk_545 (r := 48) (k := 1) rfl rfl rfl
theorem zd_545_196 : decode prog_14_method_146_code 196 = .ok (.iconst 0, 1) := zsh_g zdk_545 (r := 49) (k := 0) rfl rfl rfl
theorem zd_545_197 : decode prog_14_method_146_code 197 = .ok (.iconst 4, 1) := zsh_g zdk_545 (r := 49) (k := 1) rfl rfl rfl
theorem zd_545_198 : decode prog_14_method_146_code 198 = .ok (.invokevirtual 1358, 3) := zsh_g zdk_545 (r := 49) (k := 2) rfl rfl rfl
theorem zd_545_201 : decode prog_14_method_146_code 201 = .ok (.goto 462, 3) := zsh_g zdk_545 (r := 50) (k := 0) rfl rfl rfl
theorem zd_545_204 : decode prog_14_method_146_code 204 = .ok (.aload_n 0, 1) := zsh_g zdk_545 (r := 51) (k := 0) rfl rfl rfl
theorem zd_545_205 : decode prog_14_method_146_code 205 = .ok (.iconst 1, 1) := zsh_g zdk_545 (r := 51) (k := 1) rfl rfl rfl
theorem zd_545_206 : decode prog_14_method_146_code 206 = .ok (.aload_n 0, 1) := zsh_g zdk_545 (r := 51) (k := 2) rfl rfl rfl
theorem zd_545_207 : decode prog_14_method_146_code 207 = .ok (.getfield 1309, 3) := zsh_g zdk_545 (r := 51) (k := 3) rfl rfl rfl
theorem zd_545_210 : decode prog_14_method_146_code 210 = .ok (.iload_n 1, 1) := zsh_g zdk_545 (r := 52) (k := 0) rfl rfl rfl
theorem zd_545_211 : decode prog_14_method_146_code 211 = .ok (.bipush 48, 2) := zsh_g zdk_545 (r := 52) (k := 1) rfl rfl rfl
theorem zd_545_213 : decode prog_14_method_146_code 213 = .ok (.if_icmp .ne 8, 3) := zsh_g zdk_545 (r := 53) (k := 0) rfl rfl rfl
theorem zd_545_216 : decode prog_14_method_146_code 216 = .ok (.bipush 17, 2) := zsh_g zdk_545 (r := 54) (k := 0) rfl rfl rfl
theorem zd_545_218 : decode prog_14_method_146_code 218 = .ok (.goto 5, 3) := zsh_g zdk_545 (r := 54) (k := 1) rfl rfl rfl
theorem zd_545_221 : decode prog_14_method_146_code 221 = .ok (.bipush 16, 2) := zsh_g zdk_545 (r := 55) (k := 0) rfl rfl rfl
theorem zd_545_223 : decode prog_14_method_146_code 223 = .ok (.iconst 0, 1) := zsh_g zdk_545 (r := 55) (k := 1) rfl rfl rfl
theorem zd_545_224 : decode prog_14_method_146_code 224 = .ok (.invokestatic 1366, 3) := zsh_g zdk_545 (r := 56) (k := 0) rfl rfl rfl
theorem zd_545_227 : decode prog_14_method_146_code 227 = .ok (.aload_n 0, 1) := zsh_g zdk_545 (r := 56) (k := 1) rfl rfl rfl
theorem zd_545_228 : decode prog_14_method_146_code 228 = .ok (.getfield 1309, 3) := zsh_g zdk_545 (r := 57) (k := 0) rfl rfl rfl
theorem zd_545_231 : decode prog_14_method_146_code 231 = .ok (.invokestatic 1293, 3) := zsh_g zdk_545 (r := 57) (k := 1) rfl rfl rfl
theorem zd_545_234 : decode prog_14_method_146_code 234 = .ok (.iconst 1, 1) := zsh_g zdk_545 (r := 58) (k := 0) rfl rfl rfl
theorem zd_545_235 : decode prog_14_method_146_code 235 = .ok (.iconst 0, 1) := zsh_g zdk_545 (r := 58) (k := 1) rfl rfl rfl
theorem zd_545_236 : decode prog_14_method_146_code 236 = .ok (.iconst 4, 1) := zsh_g zdk_545 (r := 59) (k := 0) rfl rfl rfl
theorem zd_545_237 : decode prog_14_method_146_code 237 = .ok (.invokevirtual 1358, 3) := zsh_g zdk_545 (r := 59) (k := 1) rfl rfl rfl
theorem zd_545_240 : decode prog_14_method_146_code 240 = .ok (.goto 423, 3) := zsh_g zdk_545 (r := 60) (k := 0) rfl rfl rfl
theorem zd_545_243 : decode prog_14_method_146_code 243 = .ok (.aload_n 0, 1) := zsh_g zdk_545 (r := 60) (k := 1) rfl rfl rfl
theorem zd_545_244 : decode prog_14_method_146_code 244 = .ok (.aload_n 0, 1) := zsh_g zdk_545 (r := 61) (k := 0) rfl rfl rfl
theorem zd_545_245 : decode prog_14_method_146_code 245 = .ok (.getfield 289, 3) := zsh_g zdk_545 (r := 61) (k := 1) rfl rfl rfl
theorem zd_545_248 : decode prog_14_method_146_code 248 = .ok (.iload_n 1, 1) := zsh_g zdk_545 (r := 62) (k := 0) rfl rfl rfl
theorem zd_545_249 : decode prog_14_method_146_code 249 = .ok (.iaload, 1) := zsh_g zdk_545 (r := 62) (k := 1) rfl rfl rfl
theorem zd_545_250 : decode prog_14_method_146_code 250 = .ok (.bipush 26, 2) := zsh_g zdk_545 (r := 62) (k := 2) rfl rfl rfl
theorem zd_545_252 : decode prog_14_method_146_code 252 = .ok (.ishl, 1) := zsh_g zdk_545 (r := 63) (k := 0) rfl rfl rfl
theorem zd_545_253 : decode prog_14_method_146_code 253 = .ok (.iconst 0, 1) := zsh_g zdk_545 (r := 63) (k := 1) rfl rfl rfl
theorem zd_545_254 : decode prog_14_method_146_code 254 = .ok (.iload_n 1, 1) := zsh_g zdk_545 (r := 63) (k := 2) rfl rfl rfl
theorem zd_545_255 : decode prog_14_method_146_code 255 = .ok (.bipush 50, 2) := zsh_g zdk_545 (r := 63) (k := 3) rfl rfl rfl
theorem zd_545_257 : decode prog_14_method_146_code 257 = .ok (.if_icmp .ne 7, 3) := zsh_g zdk_545 (r := 64) (k := 0) rfl rfl rfl
theorem zd_545_260 : decode prog_14_method_146_code 260 = .ok (.iconst 1, 1) := zsh_g zdk_545 (r := 65) (k := 0) rfl rfl rfl
theorem zd_545_261 : decode prog_14_method_146_code 261 = .ok (.goto 4, 3) := zsh_g zdk_545 (r := 65) (k := 1) rfl rfl rfl
theorem zd_545_264 : decode prog_14_method_146_code 264 = .ok (.iconst 0, 1) := zsh_g zdk_545 (r := 66) (k := 0) rfl rfl rfl
theorem zd_545_265 : decode prog_14_method_146_code 265 = .ok (.iconst 0, 1) := zsh_g zdk_545 (r := 66) (k := 1) rfl rfl rfl
theorem zd_545_266 : decode prog_14_method_146_code 266 = .ok (.iconst 3, 1) := zsh_g zdk_545 (r := 66) (k := 2) rfl rfl rfl
theorem zd_545_267 : decode prog_14_method_146_code 267 = .ok (.invokevirtual 1358, 3) := zsh_g zdk_545 (r := 66) (k := 3) rfl rfl rfl
theorem zd_545_270 : decode prog_14_method_146_code 270 = .ok (.goto 393, 3) := zsh_g zdk_545 (r := 67) (k := 0) rfl rfl rfl
theorem zd_545_273 : decode prog_14_method_146_code 273 = .ok (.aload_n 0, 1) := zsh_g zdk_545 (r := 68) (k := 0) rfl rfl rfl
theorem zd_545_274 : decode prog_14_method_146_code 274 = .ok (.iconst 0, 1) := zsh_g zdk_545 (r := 68) (k := 1) rfl rfl rfl
theorem zd_545_275 : decode prog_14_method_146_code 275 = .ok (.iconst 0, 1) := zsh_g zdk_545 (r := 68) (k := 2) rfl rfl rfl
theorem zd_545_276 : decode prog_14_method_146_code 276 = .ok (.iconst 0, 1) := zsh_g zdk_545 (r := 69) (k := 0) rfl rfl rfl
theorem zd_545_277 : decode prog_14_method_146_code 277 = .ok (.iconst 1, 1) := zsh_g zdk_545 (r := 69) (k := 1) rfl rfl rfl
theorem zd_545_278 : decode prog_14_method_146_code 278 = .ok (.invokevirtual 1362, 3) := zsh_g zdk_545 (r := 69) (k := 2) rfl rfl rfl
theorem zd_545_281 : decode prog_14_method_146_code 281 = .ok (.goto 382, 3) := zsh_g zdk_545 (r := 70) (k := 0) rfl rfl rfl
theorem zd_545_284 : decode prog_14_method_146_code 284 = .ok (.aload_n 0, 1) := zsh_g zdk_545 (r := 71) (k := 0) rfl rfl rfl
theorem zd_545_285 : decode prog_14_method_146_code 285 = .ok (.aload_n 0, 1) := zsh_g zdk_545 (r := 71) (k := 1) rfl rfl rfl
theorem zd_545_286 : decode prog_14_method_146_code 286 = .ok (.getfield 1309, 3) := zsh_g zdk_545 (r := 71) (k := 2) rfl rfl rfl
theorem zd_545_289 : decode prog_14_method_146_code 289 = .ok (.iconst 0, 1) := zsh_g zdk_545 (r := 72) (k := 0) rfl rfl rfl
theorem zd_545_290 : decode prog_14_method_146_code 290 = .ok (.aload_n 0, 1) := zsh_g zdk_545 (r := 72) (k := 1) rfl rfl rfl
theorem zd_545_291 : decode prog_14_method_146_code 291 = .ok (.getfield 1306, 3) := zsh_g zdk_545 (r := 72) (k := 2) rfl rfl rfl
theorem zd_545_294 : decode prog_14_method_146_code 294 = .ok (.iconst 0, 1) := zsh_g zdk_545 (r := 73) (k := 0) rfl rfl rfl
theorem zd_545_295 : decode prog_14_method_146_code 295 = .ok (.aload_n 0, 1) := zsh_g zdk_545 (r := 73) (k := 1) rfl rfl rfl
theorem zd_545_296 : decode prog_14_method_146_code 296 = .ok (.getfield 289, 3) := zsh_g zdk_545 (r := 74) (k := 0) rfl rfl rfl
theorem zd_545_299 : decode prog_14_method_146_code 299 = .ok (.iconst 0, 1) := zsh_g zdk_545 (r := 74) (k := 1) rfl rfl rfl
theorem zd_545_300 : decode prog_14_method_146_code 300 = .ok (.iaload, 1) := zsh_g zdk_545 (r := 75) (k := 0) rfl rfl rfl
theorem zd_545_301 : decode prog_14_method_146_code 301 = .ok (.invokestatic 1354, 3) := zsh_g zdk_545 (r := 75) (k := 1) rfl rfl rfl
theorem zd_545_304 : decode prog_14_method_146_code 304 = .ok (.aload_n 0, 1) := zsh_g zdk_545 (r := 76) (k := 0) rfl rfl rfl
theorem zd_545_305 : decode prog_14_method_146_code 305 = .ok (.getfield 1309, 3) := zsh_g zdk_545 (r := 76) (k := 1) rfl rfl rfl
theorem zd_545_308 : decode prog_14_method_146_code 308 = .ok (.invokestatic 1293, 3) := zsh_g zdk_545 (r := 77) (k := 0) rfl rfl rfl
theorem zd_545_311 : decode prog_14_method_146_code 311 = .ok (.aload_n 0, 1) := zsh_g zdk_545 (r := 77) (k := 1) rfl rfl rfl
theorem zd_545_312 : decode prog_14_method_146_code 312 = .ok (.getfield 1306, 3) := zsh_g zdk_545 (r := 78) (k := 0) rfl rfl rfl
theorem zd_545_315 : decode prog_14_method_146_code 315 = .ok (.iconst 1, 1) := zsh_g zdk_545 (r := 78) (k := 1) rfl rfl rfl
theorem zd_545_316 : decode prog_14_method_146_code 316 = .ok (.invokevirtual 1362, 3) := zsh_g zdk_545 (r := 79) (k := 0) rfl rfl rfl
theorem zd_545_319 : decode prog_14_method_146_code 319 = .ok (.goto 344, 3) := zsh_g zdk_545 (r := 79) (k := 1) rfl rfl rfl
theorem zd_545_322 : decode prog_14_method_146_code 322 = .ok (.aload_n 0, 1) := zsh_g zdk_545 (r := 80) (k := 0) rfl rfl rfl
theorem zd_545_323 : decode prog_14_method_146_code 323 = .ok (.aload_n 0, 1) := zsh_g zdk_545 (r := 80) (k := 1) rfl rfl rfl
theorem zd_545_324 : decode prog_14_method_146_code 324 = .ok (.getfield 1309, 3) := zsh_g zdk_545 (r := 81) (k := 0) rfl rfl rfl
theorem zd_545_327 : decode prog_14_method_146_code 327 = .ok (.iconst 0, 1) := zsh_g zdk_545 (r := 81) (k := 1) rfl rfl rfl
theorem zd_545_328 : decode prog_14_method_146_code 328 = .ok (.aload_n 0, 1) := zsh_g zdk_545 (r := 82) (k := 0) rfl rfl rfl
theorem zd_545_329 : decode prog_14_method_146_code 329 = .ok (.getfield 1306, 3) := zsh_g zdk_545 (r := 82) (k := 1) rfl rfl rfl
theorem zd_545_332 : decode prog_14_method_146_code 332 = .ok (.iconst 0, 1) := zsh_g zdk_545 (r := 83) (k := 0) rfl rfl rfl
theorem zd_545_333 : decode prog_14_method_146_code 333 = .ok (.aload_n 0, 1) := zsh_g zdk_545 (r := 83) (k := 1) rfl rfl rfl
theorem zd_545_334 : decode prog_14_method_146_code 334 = .ok (.getfield 289, 3) := zsh_g zdk_545 (r := 83) (k := 2) rfl rfl rfl
theorem zd_545_337 : decode prog_14_method_146_code 337 = .ok (.iconst 5, 1) := zsh_g zdk_545 (r := 84) (k := 0) rfl rfl rfl
theorem zd_545_338 : decode prog_14_method_146_code 338 = .ok (.iaload, 1) := zsh_g zdk_545 (r := 84) (k := 1) rfl rfl rfl
theorem zd_545_339 : decode prog_14_method_146_code 339 = .ok (.invokestatic 1354, 3) := zsh_g zdk_545 (r := 84) (k := 2) rfl rfl rfl
theorem zd_545_342 : decode prog_14_method_146_code 342 = .ok (.aload_n 0, 1) := zsh_g zdk_545 (r := 85) (k := 0) rfl rfl rfl
theorem zd_545_343 : decode prog_14_method_146_code 343 = .ok (.getfield 1309, 3) := zsh_g zdk_545 (r := 85) (k := 1) rfl rfl rfl
theorem zd_545_346 : decode prog_14_method_146_code 346 = .ok (.invokestatic 1293, 3) := zsh_g zdk_545 (r := 86) (k := 0) rfl rfl rfl
theorem zd_545_349 : decode prog_14_method_146_code 349 = .ok (.aload_n 0, 1) := zsh_g zdk_545 (r := 87) (k := 0) rfl rfl rfl
theorem zd_545_350 : decode prog_14_method_146_code 350 = .ok (.getfield 1306, 3) := zsh_g zdk_545 (r := 87) (k := 1) rfl rfl rfl
theorem zd_545_353 : decode prog_14_method_146_code 353 = .ok (.iconst 1, 1) := zsh_g zdk_545 (r := 88) (k := 0) rfl rfl rfl
theorem zd_545_354 : decode prog_14_method_146_code 354 = .ok (.invokevirtual 1362, 3) := zsh_g zdk_545 (r := 88) (k := 1) rfl rfl rfl
theorem zd_545_357 : decode prog_14_method_146_code 357 = .ok (.goto 306, 3) := zsh_g zdk_545 (r := 89) (k := 0) rfl rfl rfl
theorem zd_545_360 : decode prog_14_method_146_code 360 = .ok (.aload_n 0, 1) := zsh_g zdk_545 (r := 90) (k := 0) rfl rfl rfl
theorem zd_545_361 : decode prog_14_method_146_code 361 = .ok (.iconst 0, 1) := zsh_g zdk_545 (r := 90) (k := 1) rfl rfl rfl
theorem zd_545_362 : decode prog_14_method_146_code 362 = .ok (.aload_n 0, 1) := zsh_g zdk_545 (r := 90) (k := 2) rfl rfl rfl
theorem zd_545_363 : decode prog_14_method_146_code 363 = .ok (.getfield 1309, 3) := zsh_g zdk_545 (r := 90) (k := 3) rfl rfl rfl
theorem zd_545_366 : decode prog_14_method_146_code 366 = .ok (.aload_n 0, 1) := zsh_g zdk_545 (r := 91) (k := 0) rfl rfl rfl
theorem zd_545_367 : decode prog_14_method_146_code 367 = .ok (.getfield 1306, 3) := zsh_g zdk_545 (r := 91) (k := 1) rfl rfl rfl
theorem zd_545_370 : decode prog_14_method_146_code 370 = .ok (.iconst 0, 1) := zsh_g zdk_545 (r := 92) (k := 0) rfl rfl rfl
theorem zd_545_371 : decode prog_14_method_146_code 371 = .ok (.aload_n 0, 1) := zsh_g zdk_545 (r := 92) (k := 1) rfl rfl rfl
theorem zd_545_372 : decode prog_14_method_146_code 372 = .ok (.getfield 289, 3) := zsh_g zdk_545 (r := 93) (k := 0) rfl rfl rfl
theorem zd_545_375 : decode prog_14_method_146_code 375 = .ok (.iconst 1, 1) := zsh_g zdk_545 (r := 93) (k := 1) rfl rfl rfl
theorem zd_545_376 : decode prog_14_method_146_code 376 = .ok (.iaload, 1) := zsh_g zdk_545 (r := 94) (k := 0) rfl rfl rfl
theorem zd_545_377 : decode prog_14_method_146_code 377 = .ok (.invokestatic 1354, 3) := zsh_g zdk_545 (r := 94) (k := 1) rfl rfl rfl
theorem zd_545_380 : decode prog_14_method_146_code 380 = .ok (.aload_n 0, 1) := zsh_g zdk_545 (r := 95) (k := 0) rfl rfl rfl
theorem zd_545_381 : decode prog_14_method_146_code 381 = .ok (.getfield 1309, 3) := zsh_g zdk_545 (r := 95) (k := 1) rfl rfl rfl
theorem zd_545_384 : decode prog_14_method_146_code 384 = .ok (.invokestatic 1293, 3) := zsh_g zdk_545 (r := 96) (k := 0) rfl rfl rfl
theorem zd_545_387 : decode prog_14_method_146_code 387 = .ok (.aload_n 0, 1) := zsh_g zdk_545 (r := 96) (k := 1) rfl rfl rfl
theorem zd_545_388 : decode prog_14_method_146_code 388 = .ok (.getfield 1306, 3) := zsh_g zdk_545 (r := 97) (k := 0) rfl rfl rfl
theorem zd_545_391 : decode prog_14_method_146_code 391 = .ok (.iconst 1, 1) := zsh_g zdk_545 (r := 97) (k := 1) rfl rfl rfl
theorem zd_545_392 : decode prog_14_method_146_code 392 = .ok (.invokevirtual 1362, 3) := zsh_g zdk_545 (r := 98) (k := 0) rfl rfl rfl
theorem zd_545_395 : decode prog_14_method_146_code 395 = .ok (.goto 268, 3) := zsh_g zdk_545 (r := 98) (k := 1) rfl rfl rfl
theorem zd_545_398 : decode prog_14_method_146_code 398 = .ok (.aload_n 0, 1) := zsh_g zdk_545 (r := 99) (k := 0) rfl rfl rfl
theorem zd_545_399 : decode prog_14_method_146_code 399 = .ok (.invokevirtual 1373, 3) := zsh_g zdk_545 (r := 99) (k := 1) rfl rfl rfl
theorem zd_545_402 : decode prog_14_method_146_code 402 = .ok (.goto 261, 3) := zsh_g zdk_545 (r := 100) (k := 0) rfl rfl rfl
theorem zd_545_405 : decode prog_14_method_146_code 405 = .ok (.aload_n 0, 1) := zsh_g zdk_545 (r := 101) (k := 0) rfl rfl rfl
theorem zd_545_406 : decode prog_14_method_146_code 406 = .ok (.iconst 0, 1) := zsh_g zdk_545 (r := 101) (k := 1) rfl rfl rfl
theorem zd_545_407 : decode prog_14_method_146_code 407 = .ok (.iconst 1, 1) := zsh_g zdk_545 (r := 101) (k := 2) rfl rfl rfl
theorem zd_545_408 : decode prog_14_method_146_code 408 = .ok (.aload_n 0, 1) := zsh_g zdk_545 (r := 102) (k := 0) rfl rfl rfl
theorem zd_545_409 : decode prog_14_method_146_code 409 = .ok (.invokevirtual 1290, 3) := zsh_g zdk_545 (r := 102) (k := 1) rfl rfl rfl
theorem zd_545_412 : decode prog_14_method_146_code 412 = .ok (.invokevirtual 1296, 3) := zsh_g zdk_545 (r := 103) (k := 0) rfl rfl rfl
theorem zd_545_415 : decode prog_14_method_146_code 415 = .ok (.aload_n 0, 1) := zsh_g zdk_545 (r := 103) (k := 1) rfl rfl rfl
theorem zd_545_416 : decode prog_14_method_146_code 416 = .ok (.aload_n 0, 1) := zsh_g zdk_545 (r := 104) (k := 0) rfl rfl rfl
theorem zd_545_417 : decode prog_14_method_146_code 417 = .ok (.getfield 289, 3) := zsh_g zdk_545 (r := 104) (k := 1) rfl rfl rfl
theorem zd_545_420 : decode prog_14_method_146_code 420 = .ok (.bipush 32, 2) := zsh_g zdk_545 (r := 105) (k := 0) rfl rfl rfl
theorem zd_545_422 : decode prog_14_method_146_code 422 = .ok (.iaload, 1) := zsh_g zdk_545 (r := 105) (k := 1) rfl rfl rfl
theorem zd_545_423 : decode prog_14_method_146_code 423 = .ok (.iconst 0, 1) := zsh_g zdk_545 (r := 105) (k := 2) rfl rfl rfl
theorem zd_545_424 : decode prog_14_method_146_code 424 = .ok (.aload_n 0, 1) := zsh_g zdk_545 (r := 106) (k := 0) rfl rfl rfl
theorem zd_545_425 : decode prog_14_method_146_code 425 = .ok (.getfield 1312, 3) := zsh_g zdk_545 (r := 106) (k := 1) rfl rfl rfl
theorem zd_545_428 : decode prog_14_method_146_code 428 = .ok (.iconst 0, 1) := zsh_g zdk_545 (r := 107) (k := 0) rfl rfl rfl
theorem zd_545_429 : decode prog_14_method_146_code 429 = .ok (.invokestatic 1366, 3) := zsh_g zdk_545 (r := 107) (k := 1) rfl rfl rfl
theorem zd_545_432 : decode prog_14_method_146_code 432 = .ok (.iconst 0, 1) := zsh_g zdk_545 (r := 108) (k := 0) rfl rfl rfl
theorem zd_545_433 : decode prog_14_method_146_code 433 = .ok (.aload_n 0, 1) := zsh_g zdk_545 (r := 108) (k := 1) rfl rfl rfl
theorem zd_545_434 : decode prog_14_method_146_code 434 = .ok (.getfield 1312, 3) := zsh_g zdk_545 (r := 108) (k := 2) rfl rfl rfl
theorem zd_545_437 : decode prog_14_method_146_code 437 = .ok (.iconst 1, 1) := zsh_g zdk_545 (r := 109) (k := 0) rfl rfl rfl
theorem zd_545_438 : decode prog_14_method_146_code 438 = .ok (.invokevirtual 1362, 3) := zsh_g zdk_545 (r := 109) (k := 1) rfl rfl rfl
theorem zd_545_441 : decode prog_14_method_146_code 441 = .ok (.aload_n 0, 1) := zsh_g zdk_545 (r := 110) (k := 0) rfl rfl rfl
theorem zd_545_442 : decode prog_14_method_146_code 442 = .ok (.iconst 0, 1) := zsh_g zdk_545 (r := 110) (k := 1) rfl rfl rfl
theorem zd_545_443 : decode prog_14_method_146_code 443 = .ok (.iconst 2, 1) := zsh_g zdk_545 (r := 110) (k := 2) rfl rfl rfl
theorem zd_545_444 : decode prog_14_method_146_code 444 = .ok (.aload_n 0, 1) := zsh_g zdk_545 (r := 111) (k := 0) rfl rfl rfl
theorem zd_545_445 : decode prog_14_method_146_code 445 = .ok (.invokevirtual 1290, 3) := zsh_g zdk_545 (r := 111) (k := 1) rfl rfl rfl
theorem zd_545_448 : decode prog_14_method_146_code 448 = .ok (.invokevirtual 1296, 3) := zsh_g zdk_545 (r := 112) (k := 0) rfl rfl rfl
theorem zd_545_451 : decode prog_14_method_146_code 451 = .ok (.aload_n 0, 1) := zsh_g zdk_545 (r := 112) (k := 1) rfl rfl rfl
theorem zd_545_452 : decode prog_14_method_146_code 452 = .ok (.aload_n 0, 1) := zsh_g zdk_545 (r := 113) (k := 0) rfl rfl rfl
theorem zd_545_453 : decode prog_14_method_146_code 453 = .ok (.getfield 289, 3) := zsh_g zdk_545 (r := 113) (k := 1) rfl rfl rfl
theorem zd_545_456 : decode prog_14_method_146_code 456 = .ok (.bipush 26, 2) := zsh_g zdk_545 (r := 114) (k := 0) rfl rfl rfl
theorem zd_545_458 : decode prog_14_method_146_code 458 = .ok (.iaload, 1) := zsh_g zdk_545 (r := 114) (k := 1) rfl rfl rfl
theorem zd_545_459 : decode prog_14_method_146_code 459 = .ok (.aload_n 0, 1) := zsh_g zdk_545 (r := 114) (k := 2) rfl rfl rfl
theorem zd_545_460 : decode prog_14_method_146_code 460 = .ok (.getfield 1312, 3) := zsh_g zdk_545 (r := 115) (k := 0) rfl rfl rfl
theorem zd_545_463 : decode prog_14_method_146_code 463 = .ok (.aload_n 0, 1) := zsh_g zdk_545 (r := 115) (k := 1) rfl rfl rfl
theorem zd_545_464 : decode prog_14_method_146_code 464 = .ok (.getfield 1312, 3) := zsh_g zdk_545 (r := 116) (k := 0) rfl rfl rfl
theorem zd_545_467 : decode prog_14_method_146_code 467 = .ok (.iconst 0, 1) := zsh_g zdk_545 (r := 116) (k := 1) rfl rfl rfl
theorem zd_545_468 : decode prog_14_method_146_code 468 = .ok (.invokestatic 1366, 3) := zsh_g zdk_545 (r := 117) (k := 0) rfl rfl rfl
theorem zd_545_471 : decode prog_14_method_146_code 471 = .ok (.aload_n 0, 1) := zsh_g zdk_545 (r := 117) (k := 1) rfl rfl rfl
theorem zd_545_472 : decode prog_14_method_146_code 472 = .ok (.getfield 1312, 3) := zsh_g zdk_545 (r := 118) (k := 0) rfl rfl rfl
theorem zd_545_475 : decode prog_14_method_146_code 475 = .ok (.invokestatic 1293, 3) := zsh_g zdk_545 (r := 118) (k := 1) rfl rfl rfl
theorem zd_545_478 : decode prog_14_method_146_code 478 = .ok (.aload_n 0, 1) := zsh_g zdk_545 (r := 119) (k := 0) rfl rfl rfl
theorem zd_545_479 : decode prog_14_method_146_code 479 = .ok (.getfield 1312, 3) := zsh_g zdk_545 (r := 119) (k := 1) rfl rfl rfl
theorem zd_545_482 : decode prog_14_method_146_code 482 = .ok (.iconst 1, 1) := zsh_g zdk_545 (r := 120) (k := 0) rfl rfl rfl
theorem zd_545_483 : decode prog_14_method_146_code 483 = .ok (.invokevirtual 1362, 3) := zsh_g zdk_545 (r := 120) (k := 1) rfl rfl rfl
theorem zd_545_486 : decode prog_14_method_146_code 486 = .ok (.goto 177, 3) := zsh_g zdk_545 (r := 121) (k := 0) rfl rfl rfl
theorem zd_545_489 : decode prog_14_method_146_code 489 = .ok (.aload_n 0, 1) := zsh_g zdk_545 (r := 122) (k := 0) rfl rfl rfl
theorem zd_545_490 : decode prog_14_method_146_code 490 = .ok (.aload_n 0, 1) := zsh_g zdk_545 (r := 122) (k := 1) rfl rfl rfl
theorem zd_545_491 : decode prog_14_method_146_code 491 = .ok (.getfield 289, 3) := zsh_g zdk_545 (r := 122) (k := 2) rfl rfl rfl
theorem zd_545_494 : decode prog_14_method_146_code 494 = .ok (.bipush 41, 2) := zsh_g zdk_545 (r := 123) (k := 0) rfl rfl rfl
theorem zd_545_496 : decode prog_14_method_146_code 496 = .ok (.iaload, 1) := zsh_g zdk_545 (r := 124) (k := 0) rfl rfl rfl
theorem zd_545_497 : decode prog_14_method_146_code 497 = .ok (.iconst 0, 1) := zsh_g zdk_545 (r := 124) (k := 1) rfl rfl rfl
theorem zd_545_498 : decode prog_14_method_146_code 498 = .ok (.iconst 0, 1) := zsh_g zdk_545 (r := 124) (k := 2) rfl rfl rfl
theorem zd_545_499 : decode prog_14_method_146_code 499 = .ok (.iconst 0, 1) := zsh_g zdk_545 (r := 124) (k := 3) rfl rfl rfl
theorem zd_545_500 : decode prog_14_method_146_code 500 = .ok (.invokestatic 1366, 3) := zsh_g zdk_545 (r := 125) (k := 0) rfl rfl rfl
theorem zd_545_503 : decode prog_14_method_146_code 503 = .ok (.iconst 0, 1) := zsh_g zdk_545 (r := 125) (k := 1) rfl rfl rfl
theorem zd_545_504 : decode prog_14_method_146_code 504 = .ok (.iconst 0, 1) := zsh_g zdk_545 (r := 126) (k := 0) rfl rfl rfl
theorem zd_545_505 : decode prog_14_method_146_code 505 = .ok (.iconst 0, 1) := zsh_g zdk_545 (r := 126) (k := 1) rfl rfl rfl
theorem zd_545_506 : decode prog_14_method_146_code 506 = .ok (.iconst 4, 1) := zsh_g zdk_545 (r := 126) (k := 2) rfl rfl rfl
theorem zd_545_507 : decode prog_14_method_146_code 507 = .ok (.invokevirtual 1358, 3) := zsh_g zdk_545 (r := 126) (k := 3) rfl rfl rfl
theorem zd_545_510 : decode prog_14_method_146_code 510 = .ok (.goto 153, 3) := zsh_g zdk_545 (r := 127) (k := 0) rfl rfl rfl
theorem zd_545_513 : decode prog_14_method_146_code 513 = .ok (.aload_n 0, 1) := zsh_g zdk_545 (r := 128) (k := 0) rfl rfl rfl
theorem zd_545_514 : decode prog_14_method_146_code 514 = .ok (.aload_n 0, 1) := zsh_g zdk_545 (r := 128) (k := 1) rfl rfl rfl
theorem zd_545_515 : decode prog_14_method_146_code 515 = .ok (.getfield 289, 3) := zsh_g zdk_545 (r := 128) (k := 2) rfl rfl rfl
theorem zd_545_518 : decode prog_14_method_146_code 518 = .ok (.iload_n 1, 1) := zsh_g zdk_545 (r := 129) (k := 0) rfl rfl rfl
theorem zd_545_519 : decode prog_14_method_146_code 519 = .ok (.bipush 58, 2) := zsh_g zdk_545 (r := 129) (k := 1) rfl rfl rfl
theorem zd_545_521 : decode prog_14_method_146_code 521 = .ok (.if_icmp .ne 8, 3) := zsh_g zdk_545 (r := 130) (k := 0) rfl rfl rfl
theorem zd_545_524 : decode prog_14_method_146_code 524 = .ok (.bipush 41, 2) := zsh_g zdk_545 (r := 131) (k := 0) rfl rfl rfl
theorem zd_545_526 : decode prog_14_method_146_code 526 = .ok (.goto 5, 3) := zsh_g zdk_545 (r := 131) (k := 1) rfl rfl rfl
theorem zd_545_529 : decode prog_14_method_146_code 529 = .ok (.bipush 42, 2) := zsh_g zdk_545 (r := 132) (k := 0) rfl rfl rfl
theorem zd_545_531 : decode prog_14_method_146_code 531 = .ok (.iaload, 1) := zsh_g zdk_545 (r := 132) (k := 1) rfl rfl rfl
theorem zd_545_532 : decode prog_14_method_146_code 532 = .ok (.aload_n 0, 1) := zsh_g zdk_545 (r := 133) (k := 0) rfl rfl rfl
theorem zd_545_533 : decode prog_14_method_146_code 533 = .ok (.getfield 1309, 3) := zsh_g zdk_545 (r := 133) (k := 1) rfl rfl rfl
theorem zd_545_536 : decode prog_14_method_146_code 536 = .ok (.iconst 0, 1) := zsh_g zdk_545 (r := 134) (k := 0) rfl rfl rfl
theorem zd_545_537 : decode prog_14_method_146_code 537 = .ok (.iconst 0, 1) := zsh_g zdk_545 (r := 134) (k := 1) rfl rfl rfl
theorem zd_545_538 : decode prog_14_method_146_code 538 = .ok (.invokestatic 1366, 3) := zsh_g zdk_545 (r := 134) (k := 2) rfl rfl rfl
theorem zd_545_541 : decode prog_14_method_146_code 541 = .ok (.aload_n 0, 1) := zsh_g zdk_545 (r := 135) (k := 0) rfl rfl rfl
theorem zd_545_542 : decode prog_14_method_146_code 542 = .ok (.getfield 1309, 3) := zsh_g zdk_545 (r := 135) (k := 1) rfl rfl rfl
theorem zd_545_545 : decode prog_14_method_146_code 545 = .ok (.invokestatic 1293, 3) := zsh_g zdk_545 (r := 136) (k := 0) rfl rfl rfl
theorem zd_545_548 : decode prog_14_method_146_code 548 = .ok (.iconst 0, 1) := zsh_g zdk_545 (r := 137) (k := 0) rfl rfl rfl
theorem zd_545_549 : decode prog_14_method_146_code 549 = .ok (.iconst 0, 1) := zsh_g zdk_545 (r := 137) (k := 1) rfl rfl rfl
theorem zd_545_550 : decode prog_14_method_146_code 550 = .ok (.iconst 4, 1) := zsh_g zdk_545 (r := 137) (k := 2) rfl rfl rfl
theorem zd_545_551 : decode prog_14_method_146_code 551 = .ok (.invokevirtual 1358, 3) := zsh_g zdk_545 (r := 137) (k := 3) rfl rfl rfl
theorem zd_545_554 : decode prog_14_method_146_code 554 = .ok (.goto 109, 3) := zsh_g zdk_545 (r := 138) (k := 0) rfl rfl rfl
theorem zd_545_557 : decode prog_14_method_146_code 557 = .ok (.iload_n 1, 1) := zsh_g zdk_545 (r := 139) (k := 0) rfl rfl rfl
theorem zd_545_558 : decode prog_14_method_146_code 558 = .ok (.bipush 62, 2) := zsh_g zdk_545 (r := 139) (k := 1) rfl rfl rfl
theorem zd_545_560 : decode prog_14_method_146_code 560 = .ok (.if_icmp .eq 9, 3) := zsh_g zdk_545 (r := 140) (k := 0) rfl rfl rfl
theorem zd_545_563 : decode prog_14_method_146_code 563 = .ok (.iload_n 1, 1) := zsh_g zdk_545 (r := 140) (k := 1) rfl rfl rfl
theorem zd_545_564 : decode prog_14_method_146_code 564 = .ok (.bipush 63, 2) := zsh_g zdk_545 (r := 141) (k := 0) rfl rfl rfl
theorem zd_545_566 : decode prog_14_method_146_code 566 = .ok (.if_icmp .ne 7, 3) := zsh_g zdk_545 (r := 141) (k := 1) rfl rfl rfl
theorem zd_545_569 : decode prog_14_method_146_code 569 = .ok (.iconst 1, 1) := zsh_g zdk_545 (r := 142) (k := 0) rfl rfl rfl
theorem zd_545_570 : decode prog_14_method_146_code 570 = .ok (.goto 4, 3) := zsh_g zdk_545 (r := 142) (k := 1) rfl rfl rfl
theorem zd_545_573 : decode prog_14_method_146_code 573 = .ok (.iconst 0, 1) := zsh_g zdk_545 (r := 143) (k := 0) rfl rfl rfl
theorem zd_545_574 : decode prog_14_method_146_code 574 = .ok (.istore_n 2, 1) := zsh_g zdk_545 (r := 143) (k := 1) rfl rfl rfl
theorem zd_545_575 : decode prog_14_method_146_code 575 = .ok (.aload_n 0, 1) := zsh_g zdk_545 (r := 143) (k := 2) rfl rfl rfl
theorem zd_545_576 : decode prog_14_method_146_code 576 = .ok (.iload_n 2, 1) := zsh_g zdk_545 (r := 144) (k := 0) rfl rfl rfl
theorem zd_545_577 : decode prog_14_method_146_code 577 = .ok (.ifCond .eq 10, 3) := zsh_g zdk_545 (r := 144) (k := 1) rfl rfl rfl
theorem zd_545_580 : decode prog_14_method_146_code 580 = .ok (.aload_n 0, 1) := zsh_g zdk_545 (r := 145) (k := 0) rfl rfl rfl
theorem zd_545_581 : decode prog_14_method_146_code 581 = .ok (.getfield 1312, 3) := zsh_g zdk_545 (r := 145) (k := 1) rfl rfl rfl
theorem zd_545_584 : decode prog_14_method_146_code 584 = .ok (.goto 7, 3) := zsh_g zdk_545 (r := 146) (k := 0) rfl rfl rfl
theorem zd_545_587 : decode prog_14_method_146_code 587 = .ok (.aload_n 0, 1) := zsh_g zdk_545 (r := 146) (k := 1) rfl rfl rfl
theorem zd_545_588 : decode prog_14_method_146_code 588 = .ok (.getfield 1309, 3) := zsh_g zdk_545 (r := 147) (k := 0) rfl rfl rfl
theorem zd_545_591 : decode prog_14_method_146_code 591 = .ok (.iload_n 2, 1) := zsh_g zdk_545 (r := 147) (k := 1) rfl rfl rfl
theorem zd_545_592 : decode prog_14_method_146_code 592 = .ok (.ifCond .eq 10, 3) := zsh_g zdk_545 (r := 148) (k := 0) rfl rfl rfl
theorem zd_545_595 : decode prog_14_method_146_code 595 = .ok (.aload_n 0, 1) := zsh_g zdk_545 (r := 148) (k := 1) rfl rfl rfl
theorem zd_545_596 : decode prog_14_method_146_code 596 = .ok (.getfield 1309, 3) := zsh_g zdk_545 (r := 149) (k := 0) rfl rfl rfl
theorem zd_545_599 : decode prog_14_method_146_code 599 = .ok (.goto 7, 3) := zsh_g zdk_545 (r := 149) (k := 1) rfl rfl rfl
theorem zd_545_602 : decode prog_14_method_146_code 602 = .ok (.aload_n 0, 1) := zsh_g zdk_545 (r := 150) (k := 0) rfl rfl rfl
theorem zd_545_603 : decode prog_14_method_146_code 603 = .ok (.getfield 1312, 3) := zsh_g zdk_545 (r := 150) (k := 1) rfl rfl rfl
theorem zd_545_606 : decode prog_14_method_146_code 606 = .ok (.invokevirtual 1376, 3) := zsh_g zdk_545 (r := 151) (k := 0) rfl rfl rfl
theorem zd_545_609 : decode prog_14_method_146_code 609 = .ok (.iload_n 1, 1) := zsh_g zdk_545 (r := 152) (k := 0) rfl rfl rfl
theorem zd_545_610 : decode prog_14_method_146_code 610 = .ok (.bipush 60, 2) := zsh_g zdk_545 (r := 152) (k := 1) rfl rfl rfl
theorem zd_545_612 : decode prog_14_method_146_code 612 = .ok (.if_icmp .eq 9, 3) := zsh_g zdk_545 (r := 153) (k := 0) rfl rfl rfl
theorem zd_545_615 : decode prog_14_method_146_code 615 = .ok (.iload_n 1, 1) := zsh_g zdk_545 (r := 153) (k := 1) rfl rfl rfl
theorem zd_545_616 : decode prog_14_method_146_code 616 = .ok (.bipush 62, 2) := zsh_g zdk_545 (r := 154) (k := 0) rfl rfl rfl
theorem zd_545_618 : decode prog_14_method_146_code 618 = .ok (.if_icmp .ne 7, 3) := zsh_g zdk_545 (r := 154) (k := 1) rfl rfl rfl
theorem zd_545_621 : decode prog_14_method_146_code 621 = .ok (.iconst 1, 1) := zsh_g zdk_545 (r := 155) (k := 0) rfl rfl rfl
theorem zd_545_622 : decode prog_14_method_146_code 622 = .ok (.goto 4, 3) := zsh_g zdk_545 (r := 155) (k := 1) rfl rfl rfl
theorem zd_545_625 : decode prog_14_method_146_code 625 = .ok (.iconst 0, 1) := zsh_g zdk_545 (r := 156) (k := 0) rfl rfl rfl
theorem zd_545_626 : decode prog_14_method_146_code 626 = .ok (.istore_n 3, 1) := zsh_g zdk_545 (r := 156) (k := 1) rfl rfl rfl
theorem zd_545_627 : decode prog_14_method_146_code 627 = .ok (.aload_n 0, 1) := zsh_g zdk_545 (r := 156) (k := 2) rfl rfl rfl
theorem zd_545_628 : decode prog_14_method_146_code 628 = .ok (.aload_n 0, 1) := zsh_g zdk_545 (r := 157) (k := 0) rfl rfl rfl
theorem zd_545_629 : decode prog_14_method_146_code 629 = .ok (.getfield 289, 3) := zsh_g zdk_545 (r := 157) (k := 1) rfl rfl rfl
theorem zd_545_632 : decode prog_14_method_146_code 632 = .ok (.iload_n 3, 1) := zsh_g zdk_545 (r := 158) (k := 0) rfl rfl rfl
theorem zd_545_633 : decode prog_14_method_146_code 633 = .ok (.ifCond .eq 8, 3) := zsh_g zdk_545 (r := 158) (k := 1) rfl rfl rfl
theorem zd_545_636 : decode prog_14_method_146_code 636 = .ok (.bipush 42, 2) := zsh_g zdk_545 (r := 159) (k := 0) rfl rfl rfl
theorem zd_545_638 : decode prog_14_method_146_code 638 = .ok (.goto 5, 3) := zsh_g zdk_545 (r := 159) (k := 1) rfl rfl rfl
theorem zd_545_641 : decode prog_14_method_146_code 641 = .ok (.bipush 41, 2) := zsh_g zdk_545 (r := 160) (k := 0) rfl rfl rfl
theorem zd_545_643 : decode prog_14_method_146_code 643 = .ok (.iaload, 1) := zsh_g zdk_545 (r := 160) (k := 1) rfl rfl rfl
theorem zd_545_644 : decode prog_14_method_146_code 644 = .ok (.iconst 1, 1) := zsh_g zdk_545 (r := 161) (k := 0) rfl rfl rfl
theorem zd_545_645 : decode prog_14_method_146_code 645 = .ok (.iconst 0, 1) := zsh_g zdk_545 (r := 161) (k := 1) rfl rfl rfl
theorem zd_545_646 : decode prog_14_method_146_code 646 = .ok (.iconst 0, 1) := zsh_g zdk_545 (r := 161) (k := 2) rfl rfl rfl
theorem zd_545_647 : decode prog_14_method_146_code 647 = .ok (.invokestatic 1366, 3) := zsh_g zdk_545 (r := 161) (k := 3) rfl rfl rfl
theorem zd_545_650 : decode prog_14_method_146_code 650 = .ok (.iconst 1, 1) := zsh_g zdk_545 (r := 162) (k := 0) rfl rfl rfl
theorem zd_545_651 : decode prog_14_method_146_code 651 = .ok (.invokestatic 1293, 3) := zsh_g zdk_545 (r := 162) (k := 1) rfl rfl rfl
theorem zd_545_654 : decode prog_14_method_146_code 654 = .ok (.iconst 0, 1) := zsh_g zdk_545 (r := 163) (k := 0) rfl rfl rfl
theorem zd_545_655 : decode prog_14_method_146_code 655 = .ok (.iconst 0, 1) := zsh_g zdk_545 (r := 163) (k := 1) rfl rfl rfl
theorem zd_545_656 : decode prog_14_method_146_code 656 = .ok (.iconst 4, 1) := zsh_g zdk_545 (r := 164) (k := 0) rfl rfl rfl
theorem zd_545_657 : decode prog_14_method_146_code 657 = .ok (.invokevirtual 1358, 3) := zsh_g zdk_545 (r := 164) (k := 1) rfl rfl rfl
theorem zd_545_660 : decode prog_14_method_146_code 660 = .ok (.goto 3, 3) := zsh_g zdk_545 (r := 165) (k := 0) rfl rfl rfl
theorem zd_545_1 : decode prog_14_method_146_code 1 = .ok (.tableswitch 556 41 59 #[91, 91, 134, 134, 166, 166, 203, 203, 242, 242, 272, 283, 321, 359, 397, 404, 488, 512, 512], 91) := by decide +kernel
def zdl_546 : List (List (Nat × Instr × Nat)) := [[(0, (.aload_n 0), 1), (1, (.invokevirtual 1225), 3)], [(0, (.aload_n 0), 1), (1, (.getfield 1219), 3)], [(0, (.aload_n 0), 1), (1, (.getfield 1204), 3)], [(0, (.if_icmp .ge 10), 3), (3, (.aload_n 0), 1)], [(0, (.invokevirtual 1254), 3), (3, (.goto 21), 3)], [(2, (.aload_n 0), 1), (3, (.iload_n 1), 1)], [(0, (.ifCond .eq 9), 3), (3, (.ldc2_w 1379), 3)], [(2, (.goto 6), 3)], [(1, (.ldc2_w 1381), 3)], [(0, (.lconst 0), 1), (1, (.invokevirtual 536), 3)], [(0, (.istore_n 2), 1), (1, (.aload_n 0), 1), (2, (.invokevirtual 1336), 3)], [(1, (.aload_n 0), 1), (2, (.getfield 1228), 3)], [(1, (.ifCond .ne 9), 3)], [(0, (.aload_n 0), 1), (1, (.iconst 1), 1), (2, (.invokevirtual 1216), 3)], [(2, (.aload_n 0), 1), (3, (.iload_n 2), 1)], [(0, (.invokevirtual 1383), 3), (3, (.istore_n 3), 1)], [(0, (.iload_n 3), 1), (1, (.ifCond .lt 29), 3)], [(0, (.aload_n 0), 1), (1, (.getfield 50), 3)], [(0, (.bipush 64), 2), (2, (.aload_n 0), 1), (3, (.getfield 1174), 3)], [(2, .imul, 1), (3, (.iload_n 3), 1)], [(0, .iadd, 1), (1, .baload, 1), (2, (.iload_n 1), 1), (3, (.if_icmp .eq 11), 3)], [(2, (.aload_n 0), 1), (3, (.iconst 2), 1)], [(0, (.invokevirtual 1216), 3), (3, (.goto 44), 3)], [(2, (.iload_n 3), 1), (3, (.ifCond .lt 11), 3)], [(2, (.aload_n 0), 1), (3, (.iload_n 3), 1)], [(0, (.putfield 1272), 3), (3, (.goto 32), 3)], [(2, (.aload_n 0), 1), (3, (.getfield 44), 3)], [(2, (.aload_n 0), 1), (3, (.getfield 1174), 3)], [(2, .iaload, 1), (3, (.bipush 64), 2)], [(1, (.if_icmp .ne 12), 3)], [(0, (.aload_n 0), 1), (1, (.bipush 6), 2), (3, (.invokevirtual 1216), 3)], [(2, (.goto 9), 3)], [(1, (.aload_n 0), 1), (2, (.iload_n 2), 1), (3, (.iload_n 1), 1)], [(0, (.invokevirtual 1386), 3)]]
theorem zdk_546 : zsh_all 8 zdl_546 prog_14_method_150_code.data.toList = true := by decide +kernel
theorem zd_546_0 : decode prog_14_method_150_code 0 = .ok (.aload_n 0, 1) := zsh_g zdk_546 (r := 0) (k := 0) rfl rfl rfl
theorem zd_546_1 : decode prog_14_method_150_code 1 = .ok (.invokevirtual 1225, 3) := zsh_g zdk_546 (r := 0) (k := 1) rfl rfl rfl
theorem zd_546_4 : decode prog_14_method_150_code 4 = .ok (.aload_n 0, 1) := zsh_g zdk_546 (r := 1) (k := 0) rfl rfl rfl
theorem zd_546_5 : decode prog_14_method_150_code 5 = .ok (.getfield 1219, 3) := zsh_g zdk_546 (r := 1) (k := 1) rfl rfl rfl
theorem zd_546_8 : decode prog_14_method_150_code 8 = .ok (.aload_n 0, 1) := zsh_g zdk_546 (r := 2) (k := 0) rfl rfl rfl
theorem zd_546_9 : decode prog_14_method_150_code 9 = .ok (.getfield 1204, 3) := zsh_g zdk_546 (r := 2) (k := 1) rfl rfl rfl
theorem zd_546_12 : decode prog_14_method_150_code 12 = .ok (.if_icmp .ge 10, 3) := zsh_g zdk_546 (r := 3) (k := 0) rfl rfl rfl
theorem zd_546_15 : decode prog_14_method_150_code 15 = .ok (.aload_n 0, 1) := zsh_g zdk_546 (r := 3) (k := 1) rfl rfl rfl
theorem zd_546_16 : decode prog_14_method_150_code 16 = .ok (.invokevirtual 1254, 3) := zsh_g zdk_546 (r := 4) (k := 0) rfl rfl rfl
theorem zd_546_19 : decode prog_14_method_150_code 19 = .ok (.goto 21, 3) := zsh_g zdk_546 (r := 4) (k := 1) rfl rfl rfl
theorem zd_546_22 : decode prog_14_method_150_code 22 = .ok (.aload_n 0, 1) := zsh_g zdk_546 (r := 5) (k := 0) rfl rfl rfl
theorem zd_546_23 : decode prog_14_method_150_code 23 = .ok (.iload_n 1, 1) := zsh_g zdk_546 (r := 5) (k := 1) rfl rfl rfl
theorem zd_546_24 : decode prog_14_method_150_code 24 = .ok (.ifCond .eq 9, 3) := zsh_g zdk_546 (r := 6) (k := 0) rfl rfl rfl
theorem zd_546_27 : decode prog_14_method_150_code 27 = .ok (.ldc2_w 1379, 3) := zsh_g zdk_546 (r := 6) (k := 1) rfl rfl rfl
theorem zd_546_30 : decode prog_14_method_150_code 30 = .ok (.goto 6, 3) := zsh_g zdk_546 (r := 7) (k := 0) rfl rfl rfl
theorem zd_546_33 : decode prog_14_method_150_code 33 = .ok (.ldc2_w 1381, 3) := zsh_g zdk_546 (r := 8) (k := 0) rfl rfl rfl
theorem zd_546_36 : decode prog_14_method_150_code 36 = .ok (.lconst 0, 1) := zsh_g zdk_546 (r := 9) (k := 0) rfl rfl rfl
theorem zd_546_37 : decode prog_14_method_150_code 37 = .ok (.invokevirtual 536, 3) := zsh_g zdk_546 (r := 9) (k := 1) rfl rfl rfl
theorem zd_546_40 : decode prog_14_method_150_code 40 = .ok (.istore_n 2, 1) := zsh_g zdk_546 (r := 10) (k := 0) rfl rfl rfl
theorem zd_546_41 : decode prog_14_method_150_code 41 = .ok (.aload_n 0, 1) := zsh_g zdk_546 (r := 10) (k := 1) rfl rfl rfl
theorem zd_546_42 : decode prog_14_method_150_code 42 = .ok (.invokevirtual 1336, 3) := zsh_g zdk_546 (r := 10) (k := 2) rfl rfl rfl
theorem zd_546_45 : decode prog_14_method_150_code 45 = .ok (.aload_n 0, 1) := zsh_g zdk_546 (r := 11) (k := 0) rfl rfl rfl
theorem zd_546_46 : decode prog_14_method_150_code 46 = .ok (.getfield 1228, 3) := zsh_g zdk_546 (r := 11) (k := 1) rfl rfl rfl
theorem zd_546_49 : decode prog_14_method_150_code 49 = .ok (.ifCond .ne 9, 3) := zsh_g zdk_546 (r := 12) (k := 0) rfl rfl rfl
theorem zd_546_52 : decode prog_14_method_150_code 52 = .ok (.aload_n 0, 1) := zsh_g zdk_546 (r := 13) (k := 0) rfl rfl rfl
theorem zd_546_53 : decode prog_14_method_150_code 53 = .ok (.iconst 1, 1) := zsh_g zdk_546 (r := 13) (k := 1) rfl rfl rfl
theorem zd_546_54 : decode prog_14_method_150_code 54 = .ok (.invokevirtual 1216, 3) := zsh_g zdk_546 (r := 13) (k := 2) rfl rfl rfl
theorem zd_546_58 : decode prog_14_method_150_code 58 = .ok (.aload_n 0, 1) := zsh_g zdk_546 (r := 14) (k := 0) rfl rfl rfl
theorem zd_546_59 : decode prog_14_method_150_code 59 = .ok (.iload_n 2, 1) := zsh_g zdk_546 (r := 14) (k := 1) rfl rfl rfl
theorem zd_546_60 : decode prog_14_method_150_code 60 = .ok (.invokevirtual 1383, 3) := zsh_g zdk_546 (r := 15) (k := 0) rfl rfl rfl
theorem zd_546_63 : decode prog_14_method_150_code 63 = .ok (.istore_n 3, 1) := zsh_g zdk_546 (r := 15) (k := 1) rfl rfl rfl
theorem zd_546_64 : decode prog_14_method_150_code 64 = .ok (.iload_n 3, 1) := zsh_g zdk_546 (r := 16) (k := 0) rfl rfl rfl
theorem zd_546_65 : decode prog_14_method_150_code 65 = .ok (.ifCond .lt 29, 3) := zsh_g zdk_546 (r := 16) (k := 1) rfl rfl rfl
theorem zd_546_68 : decode prog_14_method_150_code 68 = .ok (.aload_n 0, 1) := zsh_g zdk_546 (r := 17) (k := 0) rfl rfl rfl
theorem zd_546_69 : decode prog_14_method_150_code 69 = .ok (.getfield 50, 3) := zsh_g zdk_546 (r := 17) (k := 1) rfl rfl rfl
theorem zd_546_72 : decode prog_14_method_150_code 72 = .ok (.bipush 64, 2) := zsh_g zdk_546 (r := 18) (k := 0) rfl rfl rfl
theorem zd_546_74 : decode prog_14_method_150_code 74 = .ok (.aload_n 0, 1) := zsh_g zdk_546 (r := 18) (k := 1) rfl rfl rfl
theorem zd_546_75 : decode prog_14_method_150_code 75 = .ok (.getfield 1174, 3) := zsh_g zdk_546 (r := 18) (k := 2) rfl rfl rfl
theorem zd_546_78 : decode prog_14_method_150_code 78 = .ok (.imul, 1) := zsh_g zdk_546 (r := 19) (k := 0) rfl rfl rfl
theorem zd_546_79 : decode prog_14_method_150_code 79 = .ok (.iload_n 3, 1) := zsh_g zdk_546 (r := 19) (k := 1) rfl rfl rfl
theorem zd_546_80 : decode prog_14_method_150_code 80 = .ok (.iadd, 1) := zsh_g zdk_546 (r := 20) (k := 0) rfl rfl rfl
theorem zd_546_81 : decode prog_14_method_150_code 81 = .ok (.baload, 1) := zsh_g zdk_546 (r := 20) (k := 1) rfl rfl rfl
theorem zd_546_82 : decode prog_14_method_150_code 82 = .ok (.iload_n 1, 1) := zsh_g zdk_546 (r := 20) (k := 2) rfl rfl rfl
theorem zd_546_83 : decode prog_14_method_150_code 83 = .ok (.if_icmp .eq 11, 3) := zsh_g zdk_546 (r := 20) (k := 3) rfl rfl rfl
theorem zd_546_86 : decode prog_14_method_150_code 86 = .ok (.aload_n 0, 1) := zsh_g zdk_546 (r := 21) (k := 0) rfl rfl rfl
theorem zd_546_87 : decode prog_14_method_150_code 87 = .ok (.iconst 2, 1) := zsh_g zdk_546 (r := 21) (k := 1) rfl rfl rfl
theorem zd_546_88 : decode prog_14_method_150_code 88 = .ok (.invokevirtual 1216, 3) := zsh_g zdk_546 (r := 22) (k := 0) rfl rfl rfl
theorem zd_546_91 : decode prog_14_method_150_code 91 = .ok (.goto 44, 3) := zsh_g zdk_546 (r := 22) (k := 1) rfl rfl rfl
theorem zd_546_94 : decode prog_14_method_150_code 94 = .ok (.iload_n 3, 1) := zsh_g zdk_546 (r := 23) (k := 0) rfl rfl rfl
theorem zd_546_95 : decode prog_14_method_150_code 95 = .ok (.ifCond .lt 11, 3) := zsh_g zdk_546 (r := 23) (k := 1) rfl rfl rfl
theorem zd_546_98 : decode prog_14_method_150_code 98 = .ok (.aload_n 0, 1) := zsh_g zdk_546 (r := 24) (k := 0) rfl rfl rfl
theorem zd_546_99 : decode prog_14_method_150_code 99 = .ok (.iload_n 3, 1) := zsh_g zdk_546 (r := 24) (k := 1) rfl rfl rfl
theorem zd_546_100 : decode prog_14_method_150_code 100 = .ok (.putfield 1272, 3) := zsh_g zdk_546 (r := 25) (k := 0) rfl rfl rfl
theorem zd_546_103 : decode prog_14_method_150_code 103 = .ok (.goto 32, 3) := zsh_g zdk_546 (r := 25) (k := 1) rfl rfl rfl
theorem zd_546_106 : decode prog_14_method_150_code 106 = .ok (.aload_n 0, 1) := zsh_g zdk_546 (r := 26) (k := 0) rfl rfl rfl
theorem zd_546_107 : decode prog_14_method_150_code 107 = .ok (.getfield 44, 3) := zsh_g zdk_546 (r := 26) (k := 1) rfl rfl rfl
theorem zd_546_110 : decode prog_14_method_150_code 110 = .ok (.aload_n 0, 1) := zsh_g zdk_546 (r := 27) (k := 0) rfl rfl rfl
theorem zd_546_111 : decode prog_14_method_150_code 111 = .ok (.getfield 1174, 3) := zsh_g zdk_546 (r := 27) (k := 1) rfl rfl rfl
theorem zd_546_114 : decode prog_14_method_150_code 114 = .ok (.iaload, 1) := zsh_g zdk_546 (r := 28) (k := 0) rfl rfl rfl
theorem zd_546_115 : decode prog_14_method_150_code 115 = .ok (.bipush 64, 2) := zsh_g zdk_546 (r := 28) (k := 1) rfl rfl rfl
theorem zd_546_117 : decode prog_14_method_150_code 117 = .ok (.if_icmp .ne 12, 3) := zsh_g zdk_546 (r := 29) (k := 0) rfl rfl rfl
theorem zd_546_120 : decode prog_14_method_150_code 120 = .ok (.aload_n 0, 1) := zsh_g zdk_546 (r := 30) (k := 0) rfl rfl rfl
theorem zd_546_121 : decode prog_14_method_150_code 121 = .ok (.bipush 6, 2) := zsh_g zdk_546 (r := 30) (k := 1) rfl rfl rfl
theorem zd_546_123 : decode prog_14_method_150_code 123 = .ok (.invokevirtual 1216, 3) := zsh_g zdk_546 (r := 30) (k := 2) rfl rfl rfl
theorem zd_546_126 : decode prog_14_method_150_code 126 = .ok (.goto 9, 3) := zsh_g zdk_546 (r := 31) (k := 0) rfl rfl rfl
theorem zd_546_129 : decode prog_14_method_150_code 129 = .ok (.aload_n 0, 1) := zsh_g zdk_546 (r := 32) (k := 0) rfl rfl rfl
theorem zd_546_130 : decode prog_14_method_150_code 130 = .ok (.iload_n 2, 1) := zsh_g zdk_546 (r := 32) (k := 1) rfl rfl rfl
theorem zd_546_131 : decode prog_14_method_150_code 131 = .ok (.iload_n 1, 1) := zsh_g zdk_546 (r := 32) (k := 2) rfl rfl rfl
theorem zd_546_132 : decode prog_14_method_150_code 132 = .ok (.invokevirtual 1386, 3) := zsh_g zdk_546 (r := 33) (k := 0) rfl rfl rfl
def zdl_547 : List (List (Nat × Instr × Nat)) := [[(0, (.aload_n 0), 1), (1, (.invokevirtual 1254), 3)], [(0, (.istore_n 2), 1), (1, (.iload_n 1), 1), (2, (.bipush 66), 2)], [(0, (.if_icmp .eq 14), 3), (3, (.aload_n 0), 1)], [(0, (.bipush 44), 2), (2, (.invokevirtual 1269), 3)], [(1, (.aload_n 0), 1), (2, (.iconst 1), 1), (3, (.invokevirtual 1315), 3)], [(2, (.aload_n 0), 1), (3, (.invokevirtual 1336), 3)], [(2, (.aload_n 0), 1), (3, (.getfield 1228), 3)], [(2, (.ifCond .ne 11), 3)], [(1, (.aload_n 0), 1), (2, (.iconst 1), 1), (3, (.invokevirtual 1216), 3)], [(2, (.goto 247), 3)], [(1, (.iload_n 1), 1), (2, (.bipush 74), 2)], [(0, (.if_icmp .ne 11), 3), (3, (.aload_n 0), 1)], [(0, (.iload_n 2), 1), (1, (.invokevirtual 1404), 3)], [(0, (.goto 233), 3), (3, (.iload_n 1), 1)], [(0, (.bipush 66), 2), (2, (.if_icmp .ne 42), 3)], [(1, (.aload_n 0), 1), (2, (.iload_n 2), 1), (3, (.invokevirtual 1407), 3)], [(2, (.ifCond .eq 219), 3)], [(1, (.aload_n 0), 1), (2, (.iload_n 2), 1), (3, (.invokevirtual 1395), 3)], [(2, (.ifCond .ne 211), 3)], [(1, (.aload_n 0), 1), (2, (.getfield 368), 3)], [(1, (.aload_n 0), 1), (2, (.getfield 1392), 3)], [(1, (.iload_n 2), 1), (2, .iastore, 1), (3, (.aload_n 0), 1)], [(0, .dup, 1), (1, (.getfield 1392), 3)], [(0, (.iconst 1), 1), (1, .iadd, 1), (2, (.putfield 1392), 3)], [(1, (.goto 188), 3)], [(0, (.aload_n 0), 1), (1, (.getfield 431), 3)], [(0, (.iconst 0), 1), (1, .iaload, 1), (2, (.iconst 0), 1), (3, (.bipush 15), 2)], [(1, (.invokestatic 504), 3)], [(0, (.ifCond .ne 11), 3), (3, (.aload_n 0), 1)], [(0, (.iconst 3), 1), (1, (.invokevirtual 1216), 3)], [(0, (.goto 165), 3), (3, (.iload_n 1), 1)], [(0, (.bipush 67), 2), (2, (.if_icmp .ne 74), 3)], [(1, (.aload_n 0), 1), (2, (.iload_n 2), 1), (3, (.invokevirtual 1398), 3)], [(2, (.istore_n 3), 1), (3, (.iload_n 3), 1)], [(0, (.ifCond .lt 18), 3), (3, (.aload_n 0), 1)], [(0, (.getfield 374), 3), (3, (.iload_n 3), 1)], [(0, (.aload_n 0), 1), (1, (.getfield 431), 3)], [(0, (.iconst 0), 1), (1, .iaload, 1), (2, .iastore, 1), (3, (.goto 46), 3)], [(2, (.aload_n 0), 1), (3, (.iload_n 2), 1)], [(0, (.invokevirtual 1407), 3), (3, (.ifCond .eq 38), 3)], [(2, (.aload_n 0), 1), (3, (.getfield 371), 3)], [(2, (.aload_n 0), 1), (3, (.getfield 1389), 3)], [(2, (.iload_n 2), 1), (3, .iastore, 1)], [(0, (.aload_n 0), 1), (1, (.getfield 374), 3)], [(0, (.aload_n 0), 1), (1, (.getfield 1389), 3)], [(0, (.aload_n 0), 1), (1, (.getfield 431), 3)], [(0, (.iconst 0), 1), (1, .iaload, 1), (2, .iastore, 1), (3, (.aload_n 0), 1)], [(0, .dup, 1), (1, (.getfield 1389), 3)], [(0, (.iconst 1), 1), (1, .iadd, 1), (2, (.putfield 1389), 3)], [(1, (.goto 88), 3)], [(0, (.aload_n 0), 1), (1, (.getfield 117), 3)], [(0, (.aload_n 0), 1), (1, (.getfield 1174), 3)], [(0, .iaload, 1), (1, (.sipush 600), 3)], [(0, (.if_icmp .ne 12), 3), (3, (.aload_n 0), 1)], [(0, (.bipush 6), 2), (2, (.invokevirtual 1216), 3)], [(1, (.goto 64), 3)], [(0, (.sipush 600), 3), (3, (.aload_n 0), 1)], [(0, (.getfield 1174), 3), (3, .imul, 1)], [(0, (.aload_n 0), 1), (1, (.getfield 117), 3)], [(0, (.aload_n 0), 1), (1, (.getfield 1174), 3)], [(0, .iaload, 1), (1, .iadd, 1), (2, (.istore_n 3), 1), (3, (.aload_n 0), 1)], [(0, (.getfield 120), 3), (3, (.iload_n 3), 1)], [(0, (.iload_n 2), 1), (1, .iastore, 1), (2, (.aload_n 0), 1), (3, (.getfield 123), 3)], [(2, (.iload_n 3), 1), (3, (.aload_n 0), 1)], [(0, (.getfield 431), 3), (3, (.iconst 0), 1)], [(0, .iaload, 1), (1, .iastore, 1), (2, (.aload_n 0), 1), (3, (.getfield 126), 3)], [(2, (.iload_n 3), 1), (3, (.aload_n 0), 1)], [(0, (.getfield 1177), 3), (3, .iastore, 1)], [(0, (.aload_n 0), 1), (1, (.getfield 117), 3)], [(0, (.aload_n 0), 1), (1, (.getfield 1174), 3)], [(0, .dup2, 1), (1, .iaload, 1), (2, (.iconst 1), 1), (3, .iadd, 1)], [(0, .iastore, 1)]]
theorem zdk_547 : zsh_all 8 zdl_547 prog_14_method_154_code.data.toList = true := by decide +kernel
theorem zd_547_0 : decode prog_14_method_154_code 0 = .ok (.aload_n 0, 1) := zsh_g zdk_547 (r := 0) (k := 0) rfl rfl rfl
theorem zd_547_1 : decode prog_14_method_154_code 1 = .ok (.invokevirtual 1254, 3) := zsh_g zdk_547 (r := 0) (k := 1) rfl rfl rfl
theorem zd_547_4 : decode prog_14_method_154_code 4 = .ok (.istore_n 2, 1) := zsh_g zdk_547 (r := 1) (k := 0) rfl rfl rfl
theorem zd_547_5 : decode prog_14_method_154_code 5 = .ok (.iload_n 1, 1) := zsh_g zdk_547 (r := 1) (k := 1) rfl rfl rfl
theorem zd_547_6 : decode prog_14_method_154_code 6 = .ok (.bipush 66, 2) := zsh_g zdk_547 (r := 1) (k := 2) rfl rfl rfl
theorem zd_547_8 : decode prog_14_method_154_code 8 = .ok (.if_icmp .eq 14, 3) := zsh_g zdk_547 (r := 2) (k := 0) rfl rfl rfl
theorem zd_547_11 : decode prog_14_method_154_code 11 = .ok (.aload_n 0, 1) := zsh_g zdk_547 (r := 2) (k := 1) rfl rfl rfl
theorem zd_547_12 : decode prog_14_method_154_code 12 = .ok (.bipush 44, 2) := zsh_g zdk_547 (r := 3) (k := 0) rfl rfl rfl
theorem zd_547_14 : decode prog_14_method_154_code 14 = .ok (.invokevirtual 1269, 3) := zsh_g zdk_547 (r := 3) (k := 1) rfl rfl rfl
theorem zd_547_17 : decode prog_14_method_154_code 17 = .ok (.aload_n 0, 1) := zsh_g zdk_547 (r := 4) (k := 0) rfl rfl rfl
theorem zd_547_18 : decode prog_14_method_154_code 18 = .ok (.iconst 1, 1) := zsh_g zdk_547 (r := 4) (k := 1) rfl rfl rfl
theorem zd_547_19 : decode prog_14_method_154_code 19 = .ok (.invokevirtual 1315, 3) := zsh_g zdk_547 (r := 4) (k := 2) rfl rfl rfl
theorem zd_547_22 : decode prog_14_method_154_code 22 = .ok (.aload_n 0, 1) := zsh_g zdk_547 (r := 5) (k := 0) rfl rfl rfl
theorem zd_547_23 : decode prog_14_method_154_code 23 = .ok (.invokevirtual 1336, 3) := zsh_g zdk_547 (r := 5) (k := 1) rfl rfl rfl
theorem zd_547_26 : decode prog_14_method_154_code 26 = .ok (.aload_n 0, 1) := zsh_g zdk_547 (r := 6) (k := 0) rfl rfl rfl
theorem zd_547_27 : decode prog_14_method_154_code 27 = .ok (.getfield 1228, 3) := zsh_g zdk_547 (r := 6) (k := 1) rfl rfl rfl
theorem zd_547_30 : decode prog_14_method_154_code 30 = .ok (.ifCond .ne 11, 3) := zsh_g zdk_547 (r := 7) (k := 0) rfl rfl rfl
theorem zd_547_33 : decode prog_14_method_154_code 33 = .ok (.aload_n 0, 1) := zsh_g zdk_547 (r := 8) (k := 0) rfl rfl rfl
theorem zd_547_34 : decode prog_14_method_154_code 34 = .ok (.iconst 1, 1) := zsh_g zdk_547 (r := 8) (k := 1) rfl rfl rfl
theorem zd_547_35 : decode prog_14_method_154_code 35 = .ok (.invokevirtual 1216, 3) := zsh_g zdk_547 (r := 8) (k := 2) rfl rfl rfl
theorem zd_547_38 : decode prog_14_method_154_code 38 = .ok (.goto 247, 3) := zsh_g zdk_547 (r := 9) (k := 0) rfl rfl rfl
theorem zd_547_41 : decode prog_14_method_154_code 41 = .ok (.iload_n 1, 1) := zsh_g zdk_547 (r := 10) (k := 0) rfl rfl rfl
theorem zd_547_42 : decode prog_14_method_154_code 42 = .ok (.bipush 74, 2) := zsh_g zdk_547 (r := 10) (k := 1) rfl rfl rfl
theorem zd_547_44 : decode prog_14_method_154_code 44 = .ok (.if_icmp .ne 11, 3) := zsh_g zdk_547 (r := 11) (k := 0) rfl rfl rfl
theorem zd_547_47 : decode prog_14_method_154_code 47 = .ok (.aload_n 0, 1) := zsh_g zdk_547 (r := 11) (k := 1) rfl rfl rfl
theorem zd_547_48 : decode prog_14_method_154_code 48 = .ok (.iload_n 2, 1) := zsh_g zdk_547 (r := 12) (k := 0) rfl rfl rfl
theorem zd_547_49 : decode prog_14_method_154_code 49 = .ok (.invokevirtual 1404, 3) := zsh_g zdk_547 (r := 12) (k := 1) rfl rfl rfl
theorem zd_547_52 : decode prog_14_method_154_code 52 = .ok (.goto 233, 3) := zsh_g zdk_547 (r := 13) (k := 0) rfl rfl rfl
theorem zd_547_55 : decode prog_14_method_154_code 55 = .ok (.iload_n 1, 1) := zsh_g zdk_547 (r := 13) (k := 1) rfl rfl rfl
theorem zd_547_56 : decode prog_14_method_154_code 56 = .ok (.bipush 66, 2) := zsh_g zdk_547 (r := 14) (k := 0) rfl rfl rfl
theorem zd_547_58 : decode prog_14_method_154_code 58 = .ok (.if_icmp .ne 42, 3) := zsh_g zdk_547 (r := 14) (k := 1) rfl rfl rfl
theorem zd_547_61 : decode prog_14_method_154_code 61 = .ok (.aload_n 0, 1) := zsh_g zdk_547 (r := 15) (k := 0) rfl rfl rfl
theorem zd_547_62 : decode prog_14_method_154_code 62 = .ok (.iload_n 2, 1) := zsh_g zdk_547 (r := 15) (k := 1) rfl rfl rfl
theorem zd_547_63 : decode prog_14_method_154_code 63 = .ok (.invokevirtual 1407, 3) := zsh_g zdk_547 (r := 15) (k := 2) rfl rfl rfl
theorem zd_547_66 : decode prog_14_method_154_code 66 = .ok (.ifCond .eq 219, 3) := zsh_g zdk_547 (r := 16) (k := 0) rfl rfl rfl
theorem zd_547_69 : decode prog_14_method_154_code 69 = .ok (.aload_n 0, 1) := zsh_g zdk_547 (r := 17) (k := 0) rfl rfl rfl
theorem zd_547_70 : decode prog_14_method_154_code 70 = .ok (.iload_n 2, 1) := zsh_g zdk_547 (r := 17) (k := 1) rfl rfl rfl
theorem zd_547_71 : decode prog_14_method_154_code 71 = .ok (.invokevirtual 1395, 3) := zsh_g zdk_547 (r := 17) (k := 2) rfl rfl rfl
theorem zd_547_74 : decode prog_14_method_154_code 74 = .ok (.ifCond .ne 211, 3) := zsh_g zdk_547 (r := 18) (k := 0) rfl rfl rfl
theorem zd_547_77 : decode prog_14_method_154_code 77 = .ok (.aload_n 0, 1) := zsh_g zdk_547 (r := 19) (k := 0) rfl rfl rfl
theorem zd_547_78 : decode prog_14_method_154_code 78 = .ok (.getfield 368, 3) := zsh_g zdk_547 (r := 19) (k := 1) rfl rfl rfl
theorem zd_547_81 : decode prog_14_method_154_code 81 = .ok (.aload_n 0, 1) := zsh_g zdk_547 (r := 20) (k := 0) rfl rfl rfl
theorem zd_547_82 : decode prog_14_method_154_code 82 = .ok (.getfield 1392, 3) := zsh_g zdk_547 (r := 20) (k := 1) rfl rfl rfl
theorem zd_547_85 : decode prog_14_method_154_code 85 = .ok (.iload_n 2, 1) := zsh_g zdk_547 (r := 21) (k := 0) rfl rfl rfl
theorem zd_547_86 : decode prog_14_method_154_code 86 = .ok (.iastore, 1) := zsh_g zdk_547 (r := 21) (k := 1) rfl rfl rfl
theorem zd_547_87 : decode prog_14_method_154_code 87 = .ok (.aload_n 0, 1) := zsh_g zdk_547 (r := 21) (k := 2) rfl rfl rfl
theorem zd_547_88 : decode prog_14_method_154_code 88 = .ok (.dup, 1) := zsh_g zdk_547 (r := 22) (k := 0) rfl rfl rfl
theorem zd_547_89 : decode prog_14_method_154_code 89 = .ok (.getfield 1392, 3) := zsh_g zdk_547 (r := 22) (k := 1) rfl rfl rfl
theorem zd_547_92 : decode prog_14_method_154_code 92 = .ok (.iconst 1, 1) := zsh_g zdk_547 (r := 23) (k := 0) rfl rfl rfl
theorem zd_547_93 : decode prog_14_method_154_code 93 = .ok (.iadd, 1) := zsh_g zdk_547 (r := 23) (k := 1) rfl rfl rfl
theorem zd_547_94 : decode prog_14_method_154_code 94 = .ok (.putfield 1392, 3) := zsh_g zdk_547 (r := 23) (k := 2) rfl rfl rfl
theorem zd_547_97 : decode prog_14_method_154_code 97 = .ok (.goto 188, 3) := zsh_g zdk_547 (r := 24) (k := 0) rfl rfl rfl
theorem zd_547_100 : decode prog_14_method_154_code 100 = .ok (.aload_n 0, 1) := zsh_g zdk_547 (r := 25) (k := 0) rfl rfl rfl
theorem zd_547_101 : decode prog_14_method_154_code 101 = .ok (.getfield 431, 3) := zsh_g zdk_547 (r := 25) (k := 1) rfl rfl rfl
theorem zd_547_104 : decode prog_14_method_154_code 104 = .ok (.iconst 0, 1) := zsh_g zdk_547 (r := 26) (k := 0) rfl rfl rfl
theorem zd_547_105 : decode prog_14_method_154_code 105 = .ok (.iaload, 1) := zsh_g zdk_547 (r := 26) (k := 1) rfl rfl rfl
theorem zd_547_106 : decode prog_14_method_154_code 106 = .ok (.iconst 0, 1) := zsh_g zdk_547 (r := 26) (k := 2) rfl rfl rfl
theorem zd_547_107 : decode prog_14_method_154_code 107 = .ok (.bipush 15, 2) := zsh_g zdk_547 (r := 26) (k := 3) rfl rfl rfl
theorem zd_547_109 : decode prog_14_method_154_code 109 = .ok (.invokestatic 504, 3) := zsh_g zdk_547 (r := 27) (k := 0) rfl rfl rfl
theorem zd_547_112 : decode prog_14_method_154_code 112 = .ok (.ifCond .ne 11, 3) := zsh_g zdk_547 (r := 28) (k := 0) rfl rfl rfl
theorem zd_547_115 : decode prog_14_method_154_code 115 = .ok (.aload_n 0, 1) := zsh_g zdk_547 (r := 28) (k := 1) rfl rfl rfl
theorem zd_547_116 : decode prog_14_method_154_code 116 = .ok (.iconst 3, 1) := zsh_g zdk_547 (r := 29) (k := 0) rfl rfl rfl
theorem zd_547_117 : decode prog_14_method_154_code 117 = .ok (.invokevirtual 1216, 3) := zsh_g zdk_547 (r := 29) (k := 1) rfl rfl rfl
theorem zd_547_120 : decode prog_14_method_154_code 120 = .ok (.goto 165, 3) := zsh_g zdk_547 (r := 30) (k := 0) rfl rfl rfl
theorem zd_547_123 : decode prog_14_method_154_code 123 = .ok (.iload_n 1, 1) := zsh_g zdk_547 (r := 30) (k := 1) rfl rfl rfl
theorem zd_547_124 : decode prog_14_method_154_code 124 = .ok (.bipush 67, 2) := zsh_g zdk_547 (r := 31) (k := 0) rfl rfl rfl
theorem zd_547_126 : decode prog_14_method_154_code 126 = .ok (.if_icmp .ne 74, 3) := zsh_g zdk_547 (r := 31) (k := 1) rfl rfl rfl
theorem zd_547_129 : decode prog_14_method_154_code 129 = .ok (.aload_n 0, 1) := zsh_g zdk_547 (r := 32) (k := 0) rfl rfl rfl
theorem zd_547_130 : decode prog_14_method_154_code 130 = .ok (.iload_n 2, 1) := zsh_g zdk_547 (r := 32) (k := 1) rfl rfl rfl
theorem zd_547_131 : decode prog_14_method_154_code 131 = .ok (.invokevirtual 1398, 3) := zsh_g zdk_547 (r := 32) (k := 2) rfl rfl rfl
theorem zd_547_134 : decode prog_14_method_154_code 134 = .ok (.istore_n 3, 1) := zsh_g zdk_547 (r := 33) (k := 0) rfl rfl rfl
theorem zd_547_135 : decode prog_14_method_154_code 135 = .ok (.iload_n 3, 1) := zsh_g zdk_547 (r := 33) (k := 1) rfl rfl rfl
theorem zd_547_136 : decode prog_14_method_154_code 136 = .ok (.ifCond .lt 18, 3) := zsh_g zdk_547 (r := 34) (k := 0) rfl rfl rfl
theorem zd_547_139 : decode prog_14_method_154_code 139 = .ok (.aload_n 0, 1) := zsh_g zdk_547 (r := 34) (k := 1) rfl rfl rfl
theorem zd_547_140 : decode prog_14_method_154_code 140 = .ok (.getfield 374, 3) := zsh_g zdk_547 (r := 35) (k := 0) rfl rfl rfl
theorem zd_547_143 : decode prog_14_method_154_code 143 = .ok (.iload_n 3, 1) := zsh_g zdk_547 (r := 35) (k := 1) rfl rfl rfl
theorem zd_547_144 : decode prog_14_method_154_code 144 = .ok (.aload_n 0, 1) := zsh_g zdk_547 (r := 36) (k := 0) rfl rfl rfl
theorem zd_547_145 : decode prog_14_method_154_code 145 = .ok (.getfield 431, 3) := zsh_g zdk_547 (r := 36) (k := 1) rfl rfl rfl
theorem zd_547_148 : decode prog_14_method_154_code 148 = .ok (.iconst 0, 1) := zsh_g zdk_547 (r := 37) (k := 0) rfl rfl rfl
theorem zd_547_149 : decode prog_14_method_154_code 149 = .ok (.iaload, 1) := zsh_g zdk_547 (r := 37) (k := 1) rfl rfl rfl
theorem zd_547_150 : decode prog_14_method_154_code 150 = .ok (.iastore, 1) := zsh_g zdk_547 (r := 37) (k := 2) rfl rfl rfl
theorem zd_547_151 : decode prog_14_method_154_code 151 = .ok (.goto 46, 3) := zsh_g zdk_547 (r := 37) (k := 3) rfl rfl rfl
theorem zd_547_154 : decode prog_14_method_154_code 154 = .ok (.aload_n 0, 1) := zsh_g zdk_547 (r := 38) (k := 0) rfl rfl rfl
theorem zd_547_155 : decode prog_14_method_154_code 155 = .ok (.iload_n 2, 1) := zsh_g zdk_547 (r := 38) (k := 1) rfl rfl rfl
theorem zd_547_156 : decode prog_14_method_154_code 156 = .ok (.invokevirtual 1407, 3) := zsh_g zdk_547 (r := 39) (k := 0) rfl rfl rfl
theorem zd_547_159 : decode prog_14_method_154_code 159 = .ok (.ifCond .eq 38, 3) := zsh_g zdk_547 (r := 39) (k := 1) rfl rfl rfl
theorem zd_547_162 : decode prog_14_method_154_code 162 = .ok (.aload_n 0, 1) := zsh_g zdk_547 (r := 40) (k := 0) rfl rfl rfl
theorem zd_547_163 : decode prog_14_method_154_code 163 = .ok (.getfield 371, 3) := zsh_g zdk_547 (r := 40) (k := 1) rfl rfl rfl
theorem zd_547_166 : decode prog_14_method_154_code 166 = .ok (.aload_n 0, 1) := zsh_g zdk_547 (r := 41) (k := 0) rfl rfl rfl
theorem zd_547_167 : decode prog_14_method_154_code 167 = .ok (.getfield 1389, 3) := zsh_g zdk_547 (r := 41) (k := 1) rfl rfl rfl
theorem zd_547_170 : decode prog_14_method_154_code 170 = .ok (.iload_n 2, 1) := zsh_g zdk_547 (r := 42) (k := 0) rfl rfl rfl
theorem zd_547_171 : decode prog_14_method_154_code 171 = .ok (.iastore, 1) := zsh_g zdk_547 (r := 42) (k := 1) rfl rfl rfl
theorem zd_547_172 : decode prog_14_method_154_code 172 = .ok (.aload_n 0, 1) := zsh_g zdk_547 (r := 43) (k := 0) rfl rfl rfl
theorem zd_547_173 : decode prog_14_method_154_code 173 = .ok (.getfield 374, 3) := zsh_g zdk_547 (r := 43) (k := 1) rfl rfl rfl
theorem zd_547_176 : decode prog_14_method_154_code 176 = .ok (.aload_n 0, 1) := zsh_g zdk_547 (r := 44) (k := 0) rfl rfl rfl
theorem zd_547_177 : decode prog_14_method_154_code 177 = .ok (.getfield 1389, 3) := zsh_g zdk_547 (r := 44) (k := 1) rfl rfl rfl
theorem zd_547_180 : decode prog_14_method_154_code 180 = .ok (.aload_n 0, 1) := zsh_g zdk_547 (r := 45) (k := 0) rfl rfl rfl
theorem zd_547_181 : decode prog_14_method_154_code 181 = .ok (.getfield 431, 3) := zsh_g zdk_547 (r := 45) (k := 1) rfl rfl rfl
theorem zd_547_184 : decode prog_14_method_154_code 184 = .ok (.iconst 0, 1) := zsh_g zdk_547 (r := 46) (k := 0) rfl rfl rfl
theorem zd_547_185 : decode prog_14_method_154_code 185 = .ok (.iaload, 1) := zsh_g zdk_547 (r := 46) (k := 1) rfl rfl rfl
theorem zd_547_186 : decode prog_14_method_154_code 186 = .ok (.iastore, 1) := zsh_g zdk_547 (r := 46) (k := 2) rfl rfl rfl
theorem zd_547_187 : decode prog_14_method_154_code 187 = .ok (.aload_n 0, 1) := zsh_g zdk_547 (r := 46) (k := 3) rfl rfl rfl
theorem zd_547_188 : decode prog_14_method_154_code 188 = .ok (.dup, 1) := zsh_g zdk_547 (r := 47) (k := 0) rfl rfl rfl
theorem zd_547_189 : decode prog_14_method_154_code 189 = .ok (.getfield 1389, 3) := zsh_g zdk_547 (r := 47) (k := 1) rfl rfl rfl
theorem zd_547_192 : decode prog_14_method_154_code 192 = .ok (.iconst 1, 1) := zsh_g zdk_547 (r := 48) (k := 0) rfl rfl rfl
theorem zd_547_193 : decode prog_14_method_154_code 193 = .ok (.iadd, 1) := zsh_g zdk_547 (r := 48) (k := 1) rfl rfl rfl
theorem zd_547_194 : decode prog_14_method_154_code 194 = .ok (.putfield 1389, 3) := zsh_g zdk_547 (r := 48) (k := 2) rfl rfl rfl
theorem zd_547_197 : decode prog_14_method_154_code 197 = .ok (.goto 88, 3) := zsh_g zdk_547 (r := 49) (k := 0) rfl rfl rfl
theorem zd_547_200 : decode prog_14_method_154_code 200 = .ok (.aload_n 0, 1) := zsh_g zdk_547 (r := 50) (k := 0) rfl rfl rfl
theorem zd_547_201 : decode prog_14_method_154_code 201 = .ok (.getfield 117, 3) := zsh_g zdk_547 (r := 50) (k := 1) rfl rfl rfl
theorem zd_547_204 : decode prog_14_method_154_code 204 = .ok (.aload_n 0, 1) := zsh_g zdk_547 (r := 51) (k := 0) rfl rfl rfl
theorem zd_547_205 : decode prog_14_method_154_code 205 = .ok (.getfield 1174, 3) := zsh_g zdk_547 (r := 51) (k := 1) rfl rfl rfl
theorem zd_547_208 : decode prog_14_method_154_code 208 = .ok (.iaload, 1) := zsh_g zdk_547 (r := 52) (k := 0) rfl rfl rfl
theorem zd_547_209 : decode prog_14_method_154_code 209 = .ok (.sipush 600, 3) := zsh_g zdk_547 (r := 52) (k := 1) rfl rfl rfl
theorem zd_547_212 : decode prog_14_method_154_code 212 = .ok (.if_icmp .ne 12, 3) := zsh_g zdk_547 (r := 53) (k := 0) rfl rfl rfl
theorem zd_547_215 : decode prog_14_method_154_code 215 = .ok (.aload_n 0, 1) := zsh_g zdk_547 (r := 53) (k := 1) rfl rfl rfl
theorem zd_547_216 : decode prog_14_method_154_code 216 = .ok (.bipush 6, 2) := zsh_g zdk_547 (r := 54) (k := 0) rfl rfl rfl
theorem zd_547_218 : decode prog_14_method_154_code 218 = .ok (.invokevirtual 1216, 3) := zsh_g zdk_547 (r := 54) (k := 1) rfl rfl rfl
theorem zd_547_221 : decode prog_14_method_154_code 221 = .ok (.goto 64, 3) := zsh_g zdk_547 (r := 55) (k := 0) rfl rfl rfl
theorem zd_547_224 : decode prog_14_method_154_code 224 = .ok (.sipush 600, 3) := zsh_g zdk_547 (r := 56) (k := 0) rfl rfl rfl
theorem zd_547_227 : decode prog_14_method_154_code 227 = .ok (.aload_n 0, 1) := zsh_g zdk_547 (r := 56) (k := 1) rfl rfl rfl
theorem zd_547_228 : decode prog_14_method_154_code 228 = .ok (.getfield 1174, 3) := zsh_g zdk_547 (r := 57) (k := 0) rfl rfl rfl
theorem zd_547_231 : decode prog_14_method_154_code 231 = .ok (.imul, 1) := zsh_g zdk_547 (r := 57) (k := 1) rfl rfl rfl
theorem zd_547_232 : decode prog_14_method_154_code 232 = .ok (.aload_n 0, 1) := zsh_g zdk_547 (r := 58) (k := 0) rfl rfl rfl
theorem zd_547_233 : decode prog_14_method_154_code 233 = .ok (.getfield 117, 3) := zsh_g zdk_547 (r := 58) (k := 1) rfl rfl rfl
theorem zd_547_236 : decode prog_14_method_154_code 236 = .ok (.aload_n 0, 1) := zsh_g zdk_547 (r := 59) (k := 0) rfl rfl rfl
theorem zd_547_237 : decode prog_14_method_154_code 237 = .ok (.getfield 1174, 3) := zsh_g zdk_547 (r := 59) (k := 1) rfl rfl rfl
theorem zd_547_240 : decode prog_14_method_154_code 240 = .ok (.iaload, 1) := zsh_g zdk_547 (r := 60) (k := 0) rfl rfl rfl
theorem zd_547_241 : decode prog_14_method_154_code 241 = .ok (.iadd, 1) := zsh_g zdk_547 (r := 60) (k := 1) rfl rfl rfl
theorem zd_547_242 : decode prog_14_method_154_code 242 = .ok (.istore_n 3, 1) := zsh_g zdk_547 (r := 60) (k := 2) rfl rfl rfl
theorem zd_547_243 : decode prog_14_method_154_code 243 = .ok (.aload_n 0, 1) := zsh_g zdk_547 (r := 60) (k := 3) rfl rfl rfl
theorem zd_547_244 : decode prog_14_method_154_code 244 = .ok (.getfield 120, 3) := zsh_g zdk_547 (r := 61) (k := 0) rfl rfl rfl
theorem zd_547_247 : decode prog_14_method_154_code 247 = .ok (.iload_n 3, 1) := zsh_g zdk_547 (r := 61) (k := 1) rfl rfl rfl
theorem zd_547_248 : decode prog_14_method_154_code 248 = .ok (.iload_n 2, 1) := zsh_g zdk_547 (r := 62) (k := 0) rfl rfl rfl
theorem zd_547_249 : decode prog_14_method_154_code 249 = .ok (.iastore, 1) := zsh_g zdk_547 (r := 62) (k := 1) rfl rfl rfl
theorem zd_547_250 : decode prog_14_method_154_code 250 = .ok (.aload_n 0, 1) := zsh_g zdk_547 (r := 62) (k := 2) rfl rfl rfl
theorem zd_547_251 : decode prog_14_method_154_code 251 = .ok (.getfield 123, 3) := zsh_g zdk_547 (r := 62) (k := 3) rfl rfl rfl
theorem zd_547_254 : decode prog_14_method_154_code 254 = .ok (.iload_n 3, 1) := zsh_g zdk_547 (r := 63) (k := 0) rfl rfl rfl
theorem zd_547_255 : decode prog_14_method_154_code 255 = .ok (.aload_n 0, 1) := zsh_g zdk_547 (r := 63) (k := 1) rfl rfl rfl
theorem zd_547_256 : decode prog_14_method_154_code 256 = .ok (.getfield 431, 3) := zsh_g zdk_547 (r := 64) (k := 0) rfl rfl rfl
theorem zd_547_259 : decode prog_14_method_154_code 259 = .ok (.iconst 0, 1) := zsh_g zdk_547 (r := 64) (k := 1) rfl rfl rfl
theorem zd_547_260 : decode prog_14_method_154_code 260 = .ok (.iaload, 1) := zsh_g zdk_547 (r := 65) (k := 0) rfl rfl rfl
theorem zd_547_261 : decode prog_14_method_154_code 261 = .ok (.iastore, 1) := zsh_g zdk_547 (r := 65) (k := 1) rfl rfl rfl
theorem zd_547_262 : decode prog_14_method_154_code 262 = .ok (.aload_n 0, 1) := zsh_g zdk_547 (r := 65) (k := 2) rfl rfl rfl
theorem zd_547_263 : decode prog_14_method_154_code 263 = .ok (.getfield 126, 3) := zsh_g zdk_547 (r := 65) (k := 3) rfl rfl rfl
theorem zd_547_266 : decode prog_14_method_154_code 266 = .ok (.iload_n 3, 1) := zsh_g zdk_547 (r := 66) (k := 0) rfl rfl rfl
theorem zd_547_267 : decode prog_14_method_154_code 267 = .ok (.aload_n 0, 1) := zsh_g zdk_547 (r := 66) (k := 1) rfl rfl rfl
theorem zd_547_268 : decode prog_14_method_154_code 268 = .ok (.getfield 1177, 3) := zsh_g zdk_547 (r := 67) (k := 0) rfl rfl rfl
theorem zd_547_271 : decode prog_14_method_154_code 271 = .ok (.iastore, 1) := zsh_g zdk_547 (r := 67) (k := 1) rfl rfl rfl
theorem zd_547_272 : decode prog_14_method_154_code 272 = .ok (.aload_n 0, 1) := zsh_g zdk_547 (r := 68) (k := 0) rfl rfl rfl
theorem zd_547_273 : decode prog_14_method_154_code 273 = .ok (.getfield 117, 3) := zsh_g zdk_547 (r := 68) (k := 1) rfl rfl rfl
theorem zd_547_276 : decode prog_14_method_154_code 276 = .ok (.aload_n 0, 1) := zsh_g zdk_547 (r := 69) (k := 0) rfl rfl rfl
theorem zd_547_277 : decode prog_14_method_154_code 277 = .ok (.getfield 1174, 3) := zsh_g zdk_547 (r := 69) (k := 1) rfl rfl rfl
theorem zd_547_280 : decode prog_14_method_154_code 280 = .ok (.dup2, 1) := zsh_g zdk_547 (r := 70) (k := 0) rfl rfl rfl
theorem zd_547_281 : decode prog_14_method_154_code 281 = .ok (.iaload, 1) := zsh_g zdk_547 (r := 70) (k := 1) rfl rfl rfl
theorem zd_547_282 : decode prog_14_method_154_code 282 = .ok (.iconst 1, 1) := zsh_g zdk_547 (r := 70) (k := 2) rfl rfl rfl
theorem zd_547_283 : decode prog_14_method_154_code 283 = .ok (.iadd, 1) := zsh_g zdk_547 (r := 70) (k := 3) rfl rfl rfl
theorem zd_547_284 : decode prog_14_method_154_code 284 = .ok (.iastore, 1) := zsh_g zdk_547 (r := 71) (k := 0) rfl rfl rfl
def zdl_548 : List (List (Nat × Instr × Nat)) := [[(0, (.iconst 1), 1), (1, (.istore_n 2), 1), (2, (.iload_n 2), 1), (3, (.ifCond .eq 56), 3)], [(2, (.aload_n 0), 1), (3, (.getfield 1228), 3)], [(2, (.ifCond .eq 49), 3)], [(1, (.aload_n 0), 1), (2, (.iload_n 1), 1), (3, (.bipush 69), 2)], [(1, (.if_icmp .ne 7), 3)], [(0, (.iconst 0), 1), (1, (.goto 4), 3)], [(0, (.iconst 1), 1), (1, (.invokevirtual 1315), 3)], [(0, (.aload_n 0), 1), (1, (.bipush 44), 2), (3, (.invokevirtual 1330), 3)], [(2, (.istore_n 2), 1), (3, (.aload_n 0), 1)], [(0, (.iload_n 2), 1), (1, (.ifCond .eq 12), 3)], [(0, (.aload_n 0), 1), (1, (.getfield 1219), 3)], [(0, (.iconst 1), 1), (1, .iadd, 1), (2, (.goto 7), 3)], [(1, (.aload_n 0), 1), (2, (.getfield 1219), 3)], [(1, (.putfield 1219), 3)], [(0, (.goto (-54)), 3), (3, (.aload_n 0), 1)], [(0, (.invokevirtual 1336), 3), (3, (.aload_n 0), 1)], [(0, (.getfield 1228), 3), (3, (.ifCond .ne 9), 3)], [(2, (.aload_n 0), 1), (3, (.iconst 1), 1)], [(0, (.invokevirtual 1216), 3)], [(0, (.iload_n 1), 1), (1, (.bipush 70), 2), (3, (.if_icmp .ne 9), 3)], [(2, (.sipush (-32768)), 3)], [(1, (.goto 5), 3)], [(0, (.bipush (-128)), 2), (2, (.istore_n 3), 1), (3, (.iload_n 1), 1)], [(0, (.bipush 70), 2), (2, (.if_icmp .ne 9), 3)], [(1, (.ldc_w 1302), 3)], [(0, (.goto 6), 3), (3, (.sipush 255), 3)], [(2, (.istore 4), 2)], [(0, (.iconst 1), 1), (1, (.istore 5), 2), (3, (.iconst 0), 1)], [(0, (.istore 6), 2), (2, (.iload 6), 2)], [(0, (.aload_n 0), 1), (1, (.getfield 1260), 3)], [(0, (.if_icmp .ge 43), 3), (3, (.iload_n 1), 1)], [(0, (.bipush 69), 2), (2, (.if_icmp .eq 37), 3)], [(1, (.iload 5), 2), (3, (.ifCond .eq 23), 3)], [(2, (.aload_n 0), 1), (3, (.getfield 431), 3)], [(2, (.iload 6), 2)], [(0, .iaload, 1), (1, (.iload_n 3), 1), (2, (.iload 4), 2)], [(0, (.invokestatic 504), 3), (3, (.ifCond .eq 7), 3)], [(2, (.iconst 1), 1), (3, (.goto 4), 3)], [(2, (.iconst 0), 1), (3, (.istore 5), 2)], [(1, (.iinc 6 1), 3)], [(0, (.goto (-46)), 3), (3, (.iload_n 1), 1)], [(0, (.bipush 69), 2), (2, (.if_icmp .ne 7), 3)], [(1, (.iconst 4), 1), (2, (.goto 14), 3)], [(1, (.iload_n 1), 1), (2, (.bipush 70), 2)], [(0, (.if_icmp .ne 7), 3), (3, (.iconst 2), 1)], [(0, (.goto 4), 3), (3, (.iconst 1), 1)], [(0, (.istore 6), 2), (2, (.iload 5), 2)], [(0, (.ifCond .eq 13), 3), (3, (.aload_n 0), 1)], [(0, (.invokevirtual 1290), 3), (3, (.iload 6), 2)], [(1, .irem, 1), (2, (.ifCond .eq 9), 3)], [(1, (.aload_n 0), 1), (2, (.iconst 3), 1), (3, (.invokevirtual 1216), 3)], [(3, (.aload_n 0), 1)], [(0, (.invokevirtual 1342), 3), (3, (.ifCond .ne 9), 3)], [(2, (.aload_n 0), 1), (3, (.iconst 4), 1)], [(0, (.invokevirtual 1216), 3)], [(0, (.aload_n 0), 1), (1, (.invokevirtual 1410), 3)], [(0, (.iconst 0), 1), (1, (.istore 7), 2), (3, (.iload 7), 2)], [(1, (.aload_n 0), 1), (2, (.getfield 1260), 3)], [(1, (.if_icmp .ge 78), 3)], [(0, (.aload_n 0), 1), (1, (.getfield 1183), 3)], [(0, (.ifCond .ne 71), 3), (3, (.aload_n 0), 1)], [(0, (.iload 7), 2), (2, (.iconst 0), 1), (3, (.aload_n 0), 1)], [(0, (.invokevirtual 1290), 3), (3, (.invokevirtual 1296), 3)], [(2, (.aload_n 0), 1), (3, (.getfield 434), 3)], [(2, (.iload 7), 2)], [(0, .iaload, 1), (1, (.ifCond .le 7), 3)], [(0, (.iconst 0), 1), (1, (.goto 10), 3)], [(0, (.aload_n 0), 1), (1, (.getfield 431), 3)], [(0, (.iload 7), 2), (2, .iaload, 1), (3, (.istore 8), 2)], [(1, (.iconst 0), 1), (2, (.istore 9), 2)], [(0, (.iload 9), 2), (2, (.iload 6), 2)], [(0, (.if_icmp .ge 21), 3), (3, (.aload_n 0), 1)], [(0, (.iload 8), 2), (2, (.bipush 8), 2)], [(0, (.iload 9), 2), (2, .imul, 1), (3, .ishr, 1)], [(0, (.invokevirtual 1278), 3), (3, (.iinc 9 1), 3)], [(2, (.goto (-22)), 3)], [(1, (.iinc 7 1), 3)], [(0, (.goto (-81)), 3)]]
theorem zdk_548 : zsh_all 8 zdl_548 prog_14_method_156_code.data.toList = true := by decide +kernel
theorem zd_548_0 : decode prog_14_method_156_code 0 = .ok (.iconst 1, 1) := zsh_g zdk_548 (r := 0) (k := 0) rfl rfl rfl
theorem zd_548_1 : decode prog_14_method_156_code 1 = .ok (.istore_n 2, 1) := zsh_g zdk_548 (r := 0) (k := 1) rfl rfl rfl
theorem zd_548_2 : decode prog_14_method_156_code 2 = .ok (.iload_n 2, 1) := zsh_g zdk_548 (r := 0) (k := 2) rfl rfl rfl
theorem zd_548_3 : decode prog_14_method_156_code 3 = .ok (.ifCond .eq 56, 3) := zsh_g zdk_548 (r := 0) (k := 3) rfl rfl rfl
theorem zd_548_6 : decode prog_14_method_156_code 6 = .ok (.aload_n 0, 1) := zsh_g zdk_548 (r := 1) (k := 0) rfl rfl rfl
theorem zd_548_7 : decode prog_14_method_156_code 7 = .ok (.getfield 1228, 3) := zsh_g zdk_548 (r := 1) (k := 1) rfl rfl rfl
theorem zd_548_10 : decode prog_14_method_156_code 10 = .ok (.ifCond .eq 49, 3) := zsh_g zdk_548 (r := 2) (k := 0) rfl rfl rfl
theorem zd_548_13 : decode prog_14_method_156_code 13 = .ok (.aload_n 0, 1) := zsh_g zdk_548 (r := 3) (k := 0) rfl rfl rfl
theorem zd_548_14 : decode prog_14_method_156_code 14 = .ok (.iload_n 1, 1) := zsh_g zdk_548 (r := 3) (k := 1) rfl rfl rfl
theorem zd_548_15 : decode prog_14_method_156_code 15 = .ok (.bipush 69, 2) := zsh_g zdk_548 (r := 3) (k := 2) rfl rfl rfl
theorem zd_548_17 : decode prog_14_method_156_code 17 = .ok (.if_icmp .ne 7, 3) := zsh_g zdk_548 (r := 4) (k := 0) rfl rfl rfl
theorem zd_548_20 : decode prog_14_method_156_code 20 = .ok (.iconst 0, 1) := zsh_g zdk_548 (r := 5) (k := 0) rfl rfl rfl
theorem zd_548_21 : decode prog_14_method_156_code 21 = .ok (.goto 4, 3) := zsh_g zdk_548 (r := 5) (k := 1) rfl rfl rfl
theorem zd_548_24 : decode prog_14_method_156_code 24 = .ok (.iconst 1, 1) := zsh_g zdk_548 (r := 6) (k := 0) rfl rfl rfl
theorem zd_548_25 : decode prog_14_method_156_code 25 = .ok (.invokevirtual 1315, 3) := zsh_g zdk_548 (r := 6) (k := 1) rfl rfl rfl
theorem zd_548_28 : decode prog_14_method_156_code 28 = .ok (.aload_n 0, 1) := zsh_g zdk_548 (r := 7) (k := 0) rfl rfl rfl
theorem zd_548_29 : decode prog_14_method_156_code 29 = .ok (.bipush 44, 2) := zsh_g zdk_548 (r := 7) (k := 1) rfl rfl rfl
theorem zd_548_31 : decode prog_14_method_156_code 31 = .ok (.invokevirtual 1330, 3) := zsh_g zdk_548 (r := 7) (k := 2) rfl rfl rfl
theorem zd_548_34 : decode prog_14_method_156_code 34 = .ok (.istore_n 2, 1) := zsh_g zdk_548 (r := 8) (k := 0) rfl rfl rfl
theorem zd_548_35 : decode prog_14_method_156_code 35 = .ok (.aload_n 0, 1) := zsh_g zdk_548 (r := 8) (k := 1) rfl rfl rfl
theorem zd_548_36 : decode prog_14_method_156_code 36 = .ok (.iload_n 2, 1) := zsh_g zdk_548 (r := 9) (k := 0) rfl rfl rfl
theorem zd_548_37 : decode prog_14_method_156_code 37 = .ok (.ifCond .eq 12, 3) := zsh_g zdk_548 (r := 9) (k := 1) rfl rfl rfl
theorem zd_548_40 : decode prog_14_method_156_code 40 = .ok (.aload_n 0, 1) := zsh_g zdk_548 (r := 10) (k := 0) rfl rfl rfl
theorem zd_548_41 : decode prog_14_method_156_code 41 = .ok (.getfield 1219, 3) := zsh_g zdk_548 (r := 10) (k := 1) rfl rfl rfl
theorem zd_548_44 : decode prog_14_method_156_code 44 = .ok (.iconst 1, 1) := zsh_g zdk_548 (r := 11) (k := 0) rfl rfl rfl
theorem zd_548_45 : decode prog_14_method_156_code 45 = .ok (.iadd, 1) := zsh_g zdk_548 (r := 11) (k := 1) rfl rfl rfl
theorem zd_548_46 : decode prog_14_method_156_code 46 = .ok (.goto 7, 3) := zsh_g zdk_548 (r := 11) (k := 2) rfl rfl rfl
theorem zd_548_49 : decode prog_14_method_156_code 49 = .ok (.aload_n 0, 1) := zsh_g zdk_548 (r := 12) (k := 0) rfl rfl rfl
theorem zd_548_50 : decode prog_14_method_156_code 50 = .ok (.getfield 1219, 3) := zsh_g zdk_548 (r := 12) (k := 1) rfl rfl rfl
theorem zd_548_53 : decode prog_14_method_156_code 53 = .ok (.putfield 1219, 3) := zsh_g zdk_548 (r := 13) (k := 0) rfl rfl rfl
theorem zd_548_56 : decode prog_14_method_156_code 56 = .ok (.goto (-54), 3) := zsh_g zdk_548 (r := 14) (k := 0) rfl rfl rfl
theorem zd_548_59 : decode prog_14_method_156_code 59 = .ok (.aload_n 0, 1) := zsh_g zdk_548 (r := 14) (k := 1) rfl rfl rfl
theorem zd_548_60 : decode prog_14_method_156_code 60 = .ok (.invokevirtual 1336, 3) := zsh_g zdk_548 (r := 15) (k := 0) rfl rfl rfl
theorem zd_548_63 : decode prog_14_method_156_code 63 = .ok (.aload_n 0, 1) := zsh_g zdk_548 (r := 15) (k := 1) rfl rfl rfl
theorem zd_548_64 : decode prog_14_method_156_code 64 = .ok (.getfield 1228, 3) := zsh_g zdk_548 (r := 16) (k := 0) rfl rfl rfl
theorem zd_548_67 : decode prog_14_method_156_code 67 = .ok (.ifCond .ne 9, 3) := zsh_g zdk_548 (r := 16) (k := 1) rfl rfl rfl
theorem zd_548_70 : decode prog_14_method_156_code 70 = .ok (.aload_n 0, 1) := zsh_g zdk_548 (r := 17) (k := 0) rfl rfl rfl
theorem zd_548_71 : decode prog_14_method_156_code 71 = .ok (.iconst 1, 1) := zsh_g zdk_548 (r := 17) (k := 1) rfl rfl rfl
theorem zd_548_72 : decode prog_14_method_156_code 72 = .ok (.invokevirtual 1216, 3) := zsh_g zdk_548 (r := 18) (k := 0) rfl rfl rfl
theorem zd_548_76 : decode prog_14_method_156_code 76 = .ok (.iload_n 1, 1) := zsh_g zdk_548 (r := 19) (k := 0) rfl rfl rfl
theorem zd_548_77 : decode prog_14_method_156_code 77 = .ok (.bipush 70, 2) := zsh_g zdk_548 (r := 19) (k := 1) rfl rfl rfl
theorem zd_548_79 : decode prog_14_method_156_code 79 = .ok (.if_icmp .ne 9, 3) := zsh_g zdk_548 (r := 19) (k := 2) rfl rfl rfl
theorem zd_548_82 : decode prog_14_method_156_code 82 = .ok (.sipush (-32768), 3) := zsh_g zdk_548 (r := 20) (k := 0) rfl rfl rfl
theorem zd_548_85 : decode prog_14_method_156_code 85 = .ok (.goto 5, 3) := zsh_g zdk_548 (r := 21) (k := 0) rfl rfl rfl
theorem zd_548_88 : decode prog_14_method_156_code 88 = .ok (.bipush (-128), 2) := zsh_g zdk_548 (r := 22) (k := 0) rfl rfl rfl
theorem zd_548_90 : decode prog_14_method_156_code 90 = .ok (.istore_n 3, 1) := zsh_g zdk_548 (r := 22) (k := 1) rfl rfl rfl
theorem zd_548_91 : decode prog_14_method_156_code 91 = .ok (.iload_n 1, 1) := zsh_g zdk_548 (r := 22) (k := 2) rfl rfl rfl
theorem zd_548_92 : decode prog_14_method_156_code 92 = .ok (.bipush 70, 2) := zsh_g zdk_548 (r := 23) (k := 0) rfl rfl rfl
theorem zd_548_94 : decode prog_14_method_156_code 94 = .ok (.if_icmp .ne 9, 3) := zsh_g zdk_548 (r := 23) (k := 1) rfl rfl rfl
theorem zd_548_97 : decode prog_14_method_156_code 97 = .ok (.ldc_w 1302, 3) := zsh_g zdk_548 (r := 24) (k := 0) rfl rfl rfl
theorem zd_548_100 : decode prog_14_method_156_code 100 = .ok (.goto 6, 3) := zsh_g zdk_548 (r := 25) (k := 0) rfl rfl rfl
theorem zd_548_103 : decode prog_14_method_156_code 103 = .ok (.sipush 255, 3) := zsh_g zdk_548 (r := 25) (k := 1) rfl rfl rfl
theorem zd_548_106 : decode prog_14_method_156_code 106 = .ok (.istore 4, 2) := zsh_g zdk_548 (r := 26) (k := 0) rfl rfl rfl
theorem zd_548_108 : decode prog_14_method_156_code 108 = .ok (.iconst 1, 1) := zsh_g zdk_548 (r := 27) (k := 0) rfl rfl rfl
theorem zd_548_109 : decode prog_14_method_156_code 109 = .ok (.istore 5, 2) := zsh_g zdk_548 (r := 27) (k := 1) rfl rfl rfl
theorem zd_548_111 : decode prog_14_method_156_code 111 = .ok (.iconst 0, 1) := zsh_g zdk_548 (r := 27) (k := 2) rfl rfl rfl
theorem zd_548_112 : decode prog_14_method_156_code 112 = .ok (.istore 6, 2) := zsh_g zdk_548 (r := 28) (k := 0) rfl rfl rfl
theorem zd_548_114 : decode prog_14_method_156_code 114 = .ok (.iload 6, 2) := zsh_g zdk_548 (r := 28) (k := 1) rfl rfl rfl
theorem zd_548_116 : decode prog_14_method_156_code 116 = .ok (.aload_n 0, 1) := zsh_g zdk_548 (r := 29) (k := 0) rfl rfl rfl
theorem zd_548_117 : decode prog_14_method_156_code 117 = .ok (.getfield 1260, 3) := zsh_g zdk_548 (r := 29) (k := 1) rfl rfl rfl
theorem zd_548_120 : decode prog_14_method_156_code 120 = .ok (.if_icmp .ge 43, 3) := zsh_g zdk_548 (r := 30) (k := 0) rfl rfl rfl
theorem zd_548_123 : decode prog_14_method_156_code 123 = .ok (.iload_n 1, 1) := zsh_g zdk_548 (r := 30) (k := 1) rfl rfl rfl
theorem zd_548_124 : decode prog_14_method_156_code 124 = .ok (.bipush 69, 2) := zsh_g zdk_548 (r := 31) (k := 0) rfl rfl rfl
theorem zd_548_126 : decode prog_14_method_156_code 126 = .ok (.if_icmp .eq 37, 3) := zsh_g zdk_548 (r := 31) (k := 1) rfl rfl rfl
theorem zd_548_129 : decode prog_14_method_156_code 129 = .ok (.iload 5, 2) := zsh_g zdk_548 (r := 32) (k := 0) rfl rfl rfl
theorem zd_548_131 : decode prog_14_method_156_code 131 = .ok (.ifCond .eq 23, 3) := zsh_g zdk_548 (r := 32) (k := 1) rfl rfl rfl
theorem zd_548_134 : decode prog_14_method_156_code 134 = .ok (.aload_n 0, 1) := zsh_g zdk_548 (r := 33) (k := 0) rfl rfl rfl
theorem zd_548_135 : decode prog_14_method_156_code 135 = .ok (.getfield 431, 3) := zsh_g zdk_548 (r := 33) (k := 1) rfl rfl rfl
theorem zd_548_138 : decode prog_14_method_156_code 138 = .ok (.iload 6, 2) := zsh_g zdk_548 (r := 34) (k := 0) rfl rfl rfl
theorem zd_548_140 : decode prog_14_method_156_code 140 = .ok (.iaload, 1) := zsh_g zdk_548 (r := 35) (k := 0) rfl rfl rfl
theorem zd_548_141 : decode prog_14_method_156_code 141 = .ok (.iload_n 3, 1) := zsh_g zdk_548 (r := 35) (k := 1) rfl rfl rfl
theorem zd_548_142 : decode prog_14_method_156_code 142 = .ok (.iload 4, 2) := zsh_g zdk_548 (r := 35) (k := 2) rfl rfl rfl
theorem zd_548_144 : decode prog_14_method_156_code 144 = .ok (.invokestatic 504, 3) := zsh_g zdk_548 (r := 36) (k := 0) rfl rfl rfl
theorem zd_548_147 : decode prog_14_method_156_code 147 = .ok (.ifCond .eq 7, 3) := zsh_g zdk_548 (r := 36) (k := 1) rfl rfl rfl
theorem zd_548_150 : decode prog_14_method_156_code 150 = .ok (.iconst 1, 1) := zsh_g zdk_548 (r := 37) (k := 0) rfl rfl rfl
theorem zd_548_151 : decode prog_14_method_156_code 151 = .ok (.goto 4, 3) := zsh_g zdk_548 (r := 37) (k := 1) rfl rfl rfl
theorem zd_548_154 : decode prog_14_method_156_code 154 = .ok (.iconst 0, 1) := zsh_g zdk_548 (r := 38) (k := 0) rfl rfl rfl
theorem zd_548_155 : decode prog_14_method_156_code 155 = .ok (.istore 5, 2) := zsh_g zdk_548 (r := 38) (k := 1) rfl rfl rfl
theorem zd_548_157 : decode prog_14_method_156_code 157 = .ok (.iinc 6 1, 3) := zsh_g zdk_548 (r := 39) (k := 0) rfl rfl rfl
theorem zd_548_160 : decode prog_14_method_156_code 160 = .ok (.goto (-46), 3) := zsh_g zdk_548 (r := 40) (k := 0) rfl rfl rfl
theorem zd_548_163 : decode prog_14_method_156_code 163 = .ok (.iload_n 1, 1) := zsh_g zdk_548 (r := 40) (k := 1) rfl rfl rfl
theorem zd_548_164 : decode prog_14_method_156_code 164 = .ok (.bipush 69, 2) := zsh_g zdk_548 (r := 41) (k := 0) rfl rfl rfl
theorem zd_548_166 : decode prog_14_method_156_code 166 = .ok (.if_icmp .ne 7, 3) := zsh_g zdk_548 (r := 41) (k := 1) rfl rfl rfl
theorem zd_548_169 : decode prog_14_method_156_code 169 = .ok (.iconst 4, 1) := zsh_g zdk_548 (r := 42) (k := 0) rfl rfl rfl
theorem zd_548_170 : decode prog_14_method_156_code 170 = .ok (.goto 14, 3) := zsh_g zdk_548 (r := 42) (k := 1) rfl rfl rfl
theorem zd_548_173 : decode prog_14_method_156_code 173 = .ok (.iload_n 1, 1) := zsh_g zdk_548 (r := 43) (k := 0) rfl rfl rfl
theorem zd_548_174 : decode prog_14_method_156_code 174 = .ok (.bipush 70, 2) := zsh_g zdk_548 (r := 43) (k := 1) rfl rfl rfl
theorem zd_548_176 : decode prog_14_method_156_code 176 = .ok (.if_icmp .ne 7, 3) := zsh_g zdk_548 (r := 44) (k := 0) rfl rfl rfl
theorem zd_548_179 : decode prog_14_method_156_code 179 = .ok (.iconst 2, 1) := zsh_g zdk_548 (r := 44) (k := 1) rfl rfl rfl
theorem zd_548_180 : decode prog_14_method_156_code 180 = .ok (.goto 4, 3) := zsh_g zdk_548 (r := 45) (k := 0) rfl rfl rfl
theorem zd_548_183 : decode prog_14_method_156_code 183 = .ok (.iconst 1, 1) := zsh_g zdk_548 (r := 45) (k := 1) rfl rfl rfl
theorem zd_548_184 : decode prog_14_method_156_code 184 = .ok (.istore 6, 2) := zsh_g zdk_548 (r := 46) (k := 0) rfl rfl rfl
theorem zd_548_186 : decode prog_14_method_156_code 186 = .ok (.iload 5, 2) := zsh_g zdk_548 (r := 46) (k := 1) rfl rfl rfl
theorem zd_548_188 : decode prog_14_method_156_code 188 = .ok (.ifCond .eq 13, 3) := zsh_g zdk_548 (r := 47) (k := 0) rfl rfl rfl
theorem zd_548_191 : decode prog_14_method_156_code 191 = .ok (.aload_n 0, 1) := zsh_g zdk_548 (r := 47) (k := 1) rfl rfl rfl
theorem zd_548_192 : decode prog_14_method_156_code 192 = .ok (.invokevirtual 1290, 3) := zsh_g zdk_548 (r := 48) (k := 0) rfl rfl rfl
theorem zd_548_195 : decode prog_14_method_156_code 195 = .ok (.iload 6, 2) := zsh_g zdk_548 (r := 48) (k := 1) rfl rfl rfl
theorem zd_548_197 : decode prog_14_method_156_code 197 = .ok (.irem, 1) := zsh_g zdk_548 (r := 49) (k := 0) rfl rfl rfl
theorem zd_548_198 : decode prog_14_method_156_code 198 = .ok (.ifCond .eq 9, 3) := zsh_g zdk_548 (r := 49) (k := 1) rfl rfl rfl
theorem zd_548_201 : decode prog_14_method_156_code 201 = .ok (.aload_n 0, 1) := zsh_g zdk_548 (r := 50) (k := 0) rfl rfl rfl
theorem zd_548_202 : decode prog_14_method_156_code 202 = .ok (.iconst 3, 1) := zsh_g zdk_548 (r := 50) (k := 1) rfl rfl rfl
theorem zd_548_203 : decode prog_14_method_156_code 203 = .ok (.invokevirtual 1216, 3) := zsh_g zdk_548 (r := 50) (k := 2) rfl rfl rfl
theorem zd_548_207 : decode prog_14_method_156_code 207 = .ok (.aload_n 0, 1) := zsh_g zdk_548 (r := 51) (k := 0) rfl rfl rfl
theorem zd_548_208 : decode prog_14_method_156_code 208 = .ok (.invokevirtual 1342, 3) := zsh_g zdk_548 (r := 52) (k := 0) rfl rfl rfl
theorem zd_548_211 : decode prog_14_method_156_code 211 = .ok (.ifCond .ne 9, 3) := zsh_g zdk_548 (r := 52) (k := 1) rfl rfl rfl
theorem zd_548_214 : decode prog_14_method_156_code 214 = .ok (.aload_n 0, 1) := zsh_g zdk_548 (r := 53) (k := 0) rfl rfl rfl
theorem zd_548_215 : decode prog_14_method_156_code 215 = .ok (.iconst 4, 1) := zsh_g zdk_548 (r := 53) (k := 1) rfl rfl rfl
theorem zd_548_216 : decode prog_14_method_156_code 216 = .ok (.invokevirtual 1216, 3) := zsh_g zdk_548 (r := 54) (k := 0) rfl rfl rfl
theorem zd_548_220 : decode prog_14_method_156_code 220 = .ok (.aload_n 0, 1) := zsh_g zdk_548 (r := 55) (k := 0) rfl rfl rfl
theorem zd_548_221 : decode prog_14_method_156_code 221 = .ok (.invokevirtual 1410, 3) := zsh_g zdk_548 (r := 55) (k := 1) rfl rfl rfl
theorem zd_548_224 : decode prog_14_method_156_code 224 = .ok (.iconst 0, 1) := zsh_g zdk_548 (r := 56) (k := 0) rfl rfl rfl
theorem zd_548_225 : decode prog_14_method_156_code 225 = .ok (.istore 7, 2) := zsh_g zdk_548 (r := 56) (k := 1) rfl rfl rfl
theorem zd_548_227 : decode prog_14_method_156_code 227 = .ok (.iload 7, 2) := zsh_g zdk_548 (r := 56) (k := 2) rfl rfl rfl
theorem zd_548_229 : decode prog_14_method_156_code 229 = .ok (.aload_n 0, 1) := zsh_g zdk_548 (r := 57) (k := 0) rfl rfl rfl
theorem zd_548_230 : decode prog_14_method_156_code 230 = .ok (.getfield 1260, 3) := zsh_g zdk_548 (r := 57) (k := 1) rfl rfl rfl
theorem zd_548_233 : decode prog_14_method_156_code 233 = .ok (.if_icmp .ge 78, 3) := zsh_g zdk_548 (r := 58) (k := 0) rfl rfl rfl
theorem zd_548_236 : decode prog_14_method_156_code 236 = .ok (.aload_n 0, 1) := zsh_g zdk_548 (r := 59) (k := 0) rfl rfl rfl
theorem zd_548_237 : decode prog_14_method_156_code 237 = .ok (.getfield 1183, 3) := zsh_g zdk_548 (r := 59) (k := 1) rfl rfl rfl
theorem zd_548_240 : decode prog_14_method_156_code 240 = .ok (.ifCond .ne 71, 3) := zsh_g zdk_548 (r := 60) (k := 0) rfl rfl rfl
theorem zd_548_243 : decode prog_14_method_156_code 243 = .ok (.aload_n 0, 1) := zsh_g zdk_548 (r := 60) (k := 1) rfl rfl rfl
theorem zd_548_244 : decode prog_14_method_156_code 244 = .ok (.iload 7, 2) := zsh_g zdk_548 (r := 61) (k := 0) rfl rfl rfl
theorem zd_548_246 : decode prog_14_method_156_code 246 = .ok (.iconst 0, 1) := zsh_g zdk_548 (r := 61) (k := 1) rfl rfl rfl
theorem zd_548_247 : decode prog_14_method_156_code 247 = .ok (.aload_n 0, 1) := zsh_g zdk_548 (r := 61) (k := 2) rfl rfl rfl
theorem zd_548_248 : decode prog_14_method_156_code 248 = .ok (.invokevirtual 1290, 3) := zsh_g zdk_548 (r := 62) (k := 0) rfl rfl rfl
theorem zd_548_251 : decode prog_14_method_156_code 251 = .ok (.invokevirtual 1296, 3) := zsh_g zdk_548 (r := 62) (k := 1) rfl rfl rfl
theorem zd_548_254 : decode prog_14_method_156_code 254 = .ok (.aload_n 0, 1) := zsh_g zdk_548 (r := 63) (k := 0) rfl rfl rfl
theorem zd_548_255 : decode prog_14_method_156_code 255 = .ok (.getfield 434, 3) := zsh_g zdk_548 (r := 63) (k := 1) rfl rfl rfl
theorem zd_548_258 : decode prog_14_method_156_code 258 = .ok (.iload 7, 2) := zsh_g zdk_548 (r := 64) (k := 0) rfl rfl rfl
theorem zd_548_260 : decode prog_14_method_156_code 260 = .ok (.iaload, 1) := zsh_g zdk_548 (r := 65) (k := 0) rfl rfl rfl
theorem zd_548_261 : decode prog_14_method_156_code 261 = .ok (.ifCond .le 7, 3) := zsh_g zdk_548 (r := 65) (k := 1) rfl rfl rfl
theorem zd_548_264 : decode prog_14_method_156_code 264 = .ok (.iconst 0, 1) := zsh_g zdk_548 (r := 66) (k := 0) rfl rfl rfl
theorem zd_548_265 : decode prog_14_method_156_code 265 = .ok (.goto 10, 3) := zsh_g zdk_548 (r := 66) (k := 1) rfl rfl rfl
theorem zd_548_268 : decode prog_14_method_156_code 268 = .ok (.aload_n 0, 1) := zsh_g zdk_548 (r := 67) (k := 0) rfl rfl rfl
theorem zd_548_269 : decode prog_14_method_156_code 269 = .ok (.getfield 431, 3) := zsh_g zdk_548 (r := 67) (k := 1) rfl rfl rfl
theorem zd_548_272 : decode prog_14_method_156_code 272 = .ok (.iload 7, 2) := zsh_g zdk_548 (r := 68) (k := 0) rfl rfl rfl
theorem zd_548_274 : decode prog_14_method_156_code 274 = .ok (.iaload, 1) := zsh_g zdk_548 (r := 68) (k := 1) rfl rfl rfl
theorem zd_548_275 : decode prog_14_method_156_code 275 = .ok (.istore 8, 2) := zsh_g zdk_548 (r := 68) (k := 2) rfl rfl rfl
theorem zd_548_277 : decode prog_14_method_156_code 277 = .ok (.iconst 0, 1) := zsh_g zdk_548 (r := 69) (k := 0) rfl rfl rfl
theorem zd_548_278 : decode prog_14_method_156_code 278 = .ok (.istore 9, 2) := zsh_g zdk_548 (r := 69) (k := 1) rfl rfl rfl
theorem zd_548_280 : decode prog_14_method_156_code 280 = .ok (.iload 9, 2) := zsh_g zdk_548 (r := 70) (k := 0) rfl rfl rfl
theorem zd_548_282 : decode prog_14_method_156_code 282 = .ok (.iload 6, 2) := zsh_g zdk_548 (r := 70) (k := 1) rfl rfl rfl
theorem zd_548_284 : decode prog_14_method_156_code 284 = .ok (.if_icmp .ge 21, 3) := zsh_g zdk_548 (r := 71) (k := 0) rfl rfl rfl
theorem zd_548_287 : decode prog_14_method_156_code 287 = .ok (.aload_n 0, 1) := zsh_g zdk_548 (r := 71) (k := 1) rfl rfl rfl
theorem zd_548_288 : decode prog_14_method_156_code 288 = .ok (.iload 8, 2) := zsh_g zdk_548 (r := 72) (k := 0) rfl rfl rfl
theorem zd_548_290 : decode prog_14_method_156_code 290 = .ok (.bipush 8, 2) := zsh_g zdk_548 (r := 72) (k := 1) rfl rfl rfl
theorem zd_548_292 : decode prog_14_method_156_code 292 = .ok (.iload 9, 2) := zsh_g zdk_548 (r := 73) (k := 0) rfl rfl rfl
theorem zd_548_294 : decode prog_14_method_156_code 294 = .ok (.imul, 1) := zsh_g zdk_548 (r := 73) (k := 1) rfl rfl rfl
theorem zd_548_295 : decode prog_14_method_156_code 295 = .ok (.ishr, 1) := zsh_g zdk_548 (r := 73) (k := 2) rfl rfl rfl
theorem zd_548_296 : decode prog_14_method_156_code 296 = .ok (.invokevirtual 1278, 3) := zsh_g zdk_548 (r := 74) (k := 0) rfl rfl rfl
theorem zd_548_299 : decode prog_14_method_156_code 299 = .ok (.iinc 9 1, 3) := zsh_g zdk_548 (r := 74) (k := 1) rfl rfl rfl
theorem zd_548_302 : decode prog_14_method_156_code 302 = .ok (.goto (-22), 3) := zsh_g zdk_548 (r := 75) (k := 0) rfl rfl rfl
theorem zd_548_305 : decode prog_14_method_156_code 305 = .ok (.iinc 7 1, 3) := zsh_g zdk_548 (r := 76) (k := 0) rfl rfl rfl
theorem zd_548_308 : decode prog_14_method_156_code 308 = .ok (.goto (-81), 3) := zsh_g zdk_548 (r := 77) (k := 0) rfl rfl rfl
def zdl_549 : List (List (Nat × Instr × Nat)) := [[(0, (.aload_n 0), 1), (1, (.iconst 1), 1), (2, (.invokevirtual 1315), 3)], [(1, (.aload_n 0), 1), (2, (.invokevirtual 1336), 3)], [(1, (.aload_n 0), 1), (2, (.getfield 1228), 3)], [(1, (.ifCond .ne 9), 3)], [(0, (.aload_n 0), 1), (1, (.iconst 1), 1), (2, (.invokevirtual 1216), 3)], [(2, (.aload_n 0), 1), (3, (.getfield 431), 3)], [(2, (.iconst 0), 1), (3, .iaload, 1)], [(0, (.istore_n 2), 1), (1, (.iload_n 2), 1), (2, (.iconst 0), 1), (3, (.iload_n 1), 1)], [(0, (.bipush 72), 2), (2, (.if_icmp .ne 9), 3)], [(1, (.sipush 4096), 3)], [(0, (.goto 4), 3), (3, (.iconst 4), 1)], [(0, (.invokestatic 504), 3), (3, (.ifCond .ne 9), 3)], [(2, (.aload_n 0), 1), (3, (.iconst 3), 1)], [(0, (.invokevirtual 1216), 3)], [(0, (.aload_n 0), 1), (1, (.invokevirtual 1410), 3)], [(0, (.iload_n 1), 1), (1, (.bipush 72), 2), (3, (.if_icmp .ne 29), 3)], [(2, (.iconst 0), 1), (3, (.istore_n 3), 1)], [(0, (.iload_n 3), 1), (1, (.iload_n 2), 1), (2, (.if_icmp .ge 21), 3)], [(1, (.aload_n 0), 1), (2, (.getfield 1183), 3)], [(1, (.ifCond .ne 14), 3)], [(0, (.aload_n 0), 1), (1, (.iconst 0), 1), (2, (.invokevirtual 1278), 3)], [(1, (.iinc 3 1), 3)], [(0, (.goto (-20)), 3)], [(0, (.bipush 64), 2), (2, (.aload_n 0), 1), (3, (.getfield 1174), 3)], [(2, .imul, 1), (3, (.aload_n 0), 1)], [(0, (.getfield 1272), 3), (3, .iadd, 1)], [(0, (.istore_n 3), 1), (1, (.aload_n 0), 1), (2, (.getfield 56), 3)], [(1, (.iload_n 3), 1), (2, (.iconst 1), 1), (3, (.iload_n 2), 1)], [(0, .ishl, 1), (1, (.aload_n 0), 1), (2, (.getfield 56), 3)], [(1, (.iload_n 3), 1), (2, .iaload, 1), (3, (.if_icmp .le 9), 3)], [(2, (.iconst 1), 1), (3, (.iload_n 2), 1)], [(0, .ishl, 1), (1, (.goto 9), 3)], [(0, (.aload_n 0), 1), (1, (.getfield 56), 3)], [(0, (.iload_n 3), 1), (1, .iaload, 1), (2, .iastore, 1), (3, (.aload_n 0), 1)], [(0, (.invokevirtual 1290), 3), (3, (.iconst 1), 1)], [(0, (.iload_n 2), 1), (1, .ishl, 1), (2, .irem, 1), (3, (.ifCond .eq 18), 3)], [(2, (.aload_n 0), 1), (3, (.getfield 1183), 3)], [(2, (.ifCond .ne 11), 3)], [(1, (.aload_n 0), 1), (2, (.iconst 0), 1), (3, (.invokevirtual 1278), 3)], [(2, (.goto (-23)), 3)]]
theorem zdk_549 : zsh_all 8 zdl_549 prog_14_method_157_code.data.toList = true := by decide +kernel
theorem zd_549_0 : decode prog_14_method_157_code 0 = .ok (.aload_n 0, 1) := zsh_g zdk_549 (r := 0) (k := 0) rfl rfl rfl
theorem zd_549_1 : decode prog_14_method_157_code 1 = .ok (.iconst 1, 1) := zsh_g zdk_549 (r := 0) (k := 1) rfl rfl rfl
theorem zd_549_2 : decode prog_14_method_157_code 2 = .ok (.invokevirtual 1315, 3) := zsh_g zdk_549 (r := 0) (k := 2) rfl rfl rfl
theorem zd_549_5 : decode prog_14_method_157_code 5 = .ok (.aload_n 0, 1) := zsh_g zdk_549 (r := 1) (k := 0) rfl rfl rfl
theorem zd_549_6 : decode prog_14_method_157_code 6 = .ok (.invokevirtual 1336, 3) := zsh_g zdk_549 (r := 1) (k := 1) rfl rfl rfl
theorem zd_549_9 : decode prog_14_method_157_code 9 = .ok (.aload_n 0, 1) := zsh_g zdk_549 (r := 2) (k := 0) rfl rfl rfl
theorem zd_549_10 : decode prog_14_method_157_code 10 = .ok (.getfield 1228, 3) := zsh_g zdk_549 (r := 2) (k := 1) rfl rfl rfl
theorem zd_549_13 : decode prog_14_method_157_code 13 = .ok (.ifCond .ne 9, 3) := zsh_g zdk_549 (r := 3) (k := 0) rfl rfl rfl
theorem zd_549_16 : decode prog_14_method_157_code 16 = .ok (.aload_n 0, 1) := zsh_g zdk_549 (r := 4) (k := 0) rfl rfl rfl
theorem zd_549_17 : decode prog_14_method_157_code 17 = .ok (.iconst 1, 1) := zsh_g zdk_549 (r := 4) (k := 1) rfl rfl rfl
theorem zd_549_18 : decode prog_14_method_157_code 18 = .ok (.invokevirtual 1216, 3) := zsh_g zdk_549 (r := 4) (k := 2) rfl rfl rfl
theorem zd_549_22 : decode prog_14_method_157_code 22 = .ok (.aload_n 0, 1) := zsh_g zdk_549 (r := 5) (k := 0) rfl rfl rfl
theorem zd_549_23 : decode prog_14_method_157_code 23 = .ok (.getfield 431, 3) := zsh_g zdk_549 (r := 5) (k := 1) rfl rfl rfl
theorem zd_549_26 : decode prog_14_method_157_code 26 = .ok (.iconst 0, 1) := zsh_g zdk_549 (r := 6) (k := 0) rfl rfl rfl
theorem zd_549_27 : decode prog_14_method_157_code 27 = .ok (.iaload, 1) := zsh_g zdk_549 (r := 6) (k := 1) rfl rfl rfl
theorem zd_549_28 : decode prog_14_method_157_code 28 = .ok (.istore_n 2, 1) := zsh_g zdk_549 (r := 7) (k := 0) rfl rfl rfl
theorem zd_549_29 : decode prog_14_method_157_code 29 = .ok (.iload_n 2, 1) := zsh_g zdk_549 (r := 7) (k := 1) rfl rfl rfl
theorem zd_549_30 : decode prog_14_method_157_code 30 = .ok (.iconst 0, 1) := zsh_g zdk_549 (r := 7) (k := 2) rfl rfl rfl
theorem zd_549_31 : decode prog_14_method_157_code 31 = .ok (.iload_n 1, 1) := zsh_g zdk_549 (r := 7) (k := 3) rfl rfl rfl
theorem zd_549_32 : decode prog_14_method_157_code 32 = .ok (.bipush 72, 2) := zsh_g zdk_549 (r := 8) (k := 0) rfl rfl rfl
theorem zd_549_34 : decode prog_14_method_157_code 34 = .ok (.if_icmp .ne 9, 3) := zsh_g zdk_549 (r := 8) (k := 1) rfl rfl rfl
theorem zd_549_37 : decode prog_14_method_157_code 37 = .ok (.sipush 4096, 3) := zsh_g zdk_549 (r := 9) (k := 0) rfl rfl rfl
theorem zd_549_40 : decode prog_14_method_157_code 40 = .ok (.goto 4, 3) := zsh_g zdk_549 (r := 10) (k := 0) rfl rfl rfl
theorem zd_549_43 : decode prog_14_method_157_code 43 = .ok (.iconst 4, 1) := zsh_g zdk_549 (r := 10) (k := 1) rfl rfl rfl
theorem zd_549_44 : decode prog_14_method_157_code 44 = .ok (.invokestatic 504, 3) := zsh_g zdk_549 (r := 11) (k := 0) rfl rfl rfl
theorem zd_549_47 : decode prog_14_method_157_code 47 = .ok (.ifCond .ne 9, 3) := zsh_g zdk_549 (r := 11) (k := 1) rfl rfl rfl
theorem zd_549_50 : decode prog_14_method_157_code 50 = .ok (.aload_n 0, 1) := zsh_g zdk_549 (r := 12) (k := 0) rfl rfl rfl
theorem zd_549_51 : decode prog_14_method_157_code 51 = .ok (.iconst 3, 1) := zsh_g zdk_549 (r := 12) (k := 1) rfl rfl rfl
theorem zd_549_52 : decode prog_14_method_157_code 52 = .ok (.invokevirtual 1216, 3) := zsh_g zdk_549 (r := 13) (k := 0) rfl rfl rfl
theorem zd_549_56 : decode prog_14_method_157_code 56 = .ok (.aload_n 0, 1) := zsh_g zdk_549 (r := 14) (k := 0) rfl rfl rfl
theorem zd_549_57 : decode prog_14_method_157_code 57 = .ok (.invokevirtual 1410, 3) := zsh_g zdk_549 (r := 14) (k := 1) rfl rfl rfl
theorem zd_549_60 : decode prog_14_method_157_code 60 = .ok (.iload_n 1, 1) := zsh_g zdk_549 (r := 15) (k := 0) rfl rfl rfl
theorem zd_549_61 : decode prog_14_method_157_code 61 = .ok (.bipush 72, 2) := zsh_g zdk_549 (r := 15) (k := 1) rfl rfl rfl
theorem zd_549_63 : decode prog_14_method_157_code 63 = .ok (.if_icmp .ne 29, 3) := zsh_g zdk_549 (r := 15) (k := 2) rfl rfl rfl
theorem zd_549_66 : decode prog_14_method_157_code 66 = .ok (.iconst 0, 1) := zsh_g zdk_549 (r := 16) (k := 0) rfl rfl rfl
theorem zd_549_67 : decode prog_14_method_157_code 67 = .ok (.istore_n 3, 1) := zsh_g zdk_549 (r := 16) (k := 1) rfl rfl rfl
theorem zd_549_68 : decode prog_14_method_157_code 68 = .ok (.iload_n 3, 1) := zsh_g zdk_549 (r := 17) (k := 0) rfl rfl rfl
theorem zd_549_69 : decode prog_14_method_157_code 69 = .ok (.iload_n 2, 1) := zsh_g zdk_549 (r := 17) (k := 1) rfl rfl rfl
theorem zd_549_70 : decode prog_14_method_157_code 70 = .ok (.if_icmp .ge 21, 3) := zsh_g zdk_549 (r := 17) (k := 2) rfl rfl rfl
theorem zd_549_73 : decode prog_14_method_157_code 73 = .ok (.aload_n 0, 1) := zsh_g zdk_549 (r := 18) (k := 0) rfl rfl rfl
theorem zd_549_74 : decode prog_14_method_157_code 74 = .ok (.getfield 1183, 3) := zsh_g zdk_549 (r := 18) (k := 1) rfl rfl rfl
theorem zd_549_77 : decode prog_14_method_157_code 77 = .ok (.ifCond .ne 14, 3) := zsh_g zdk_549 (r := 19) (k := 0) rfl rfl rfl
theorem zd_549_80 : decode prog_14_method_157_code 80 = .ok (.aload_n 0, 1) := zsh_g zdk_549 (r := 20) (k := 0) rfl rfl rfl
theorem zd_549_81 : decode prog_14_method_157_code 81 = .ok (.iconst 0, 1) := zsh_g zdk_549 (r := 20) (k := 1) rfl rfl rfl
theorem zd_549_82 : decode prog_14_method_157_code 82 = .ok (.invokevirtual 1278, 3) := zsh_g zdk_549 (r := 20) (k := 2) rfl rfl rfl
theorem zd_549_85 : decode prog_14_method_157_code 85 = .ok (.iinc 3 1, 3) := zsh_g zdk_549 (r := 21) (k := 0) rfl rfl rfl
theorem zd_549_88 : decode prog_14_method_157_code 88 = .ok (.goto (-20), 3) := zsh_g zdk_549 (r := 22) (k := 0) rfl rfl rfl
theorem zd_549_92 : decode prog_14_method_157_code 92 = .ok (.bipush 64, 2) := zsh_g zdk_549 (r := 23) (k := 0) rfl rfl rfl
theorem zd_549_94 : decode prog_14_method_157_code 94 = .ok (.aload_n 0, 1) := zsh_g zdk_549 (r := 23) (k := 1) rfl rfl rfl
theorem zd_549_95 : decode prog_14_method_157_code 95 = .ok (.getfield 1174, 3) := zsh_g zdk_549 (r := 23) (k := 2) rfl rfl rfl
theorem zd_549_98 : decode prog_14_method_157_code 98 = .ok (.imul, 1) := zsh_g zdk_549 (r := 24) (k := 0) rfl rfl rfl
theorem zd_549_99 : decode prog_14_method_157_code 99 = .ok (.aload_n 0, 1) := zsh_g zdk_549 (r := 24) (k := 1) rfl rfl rfl
theorem zd_549_100 : decode prog_14_method_157_code 100 = .ok (.getfield 1272, 3) := zsh_g zdk_549 (r := 25) (k := 0) rfl rfl rfl
theorem zd_549_103 : decode prog_14_method_157_code 103 = .ok (.iadd, 1) := zsh_g zdk_549 (r := 25) (k := 1) rfl rfl rfl
theorem zd_549_104 : decode prog_14_method_157_code 104 = .ok (.istore_n 3, 1) := zsh_g zdk_549 (r := 26) (k := 0) rfl rfl rfl
theorem zd_549_105 : decode prog_14_method_157_code 105 = .ok (.aload_n 0, 1) := zsh_g zdk_549 (r := 26) (k := 1) rfl rfl rfl
theorem zd_549_106 : decode prog_14_method_157_code 106 = .ok (.getfield 56, 3) := zsh_g zdk_549 (r := 26) (k := 2) rfl rfl rfl
theorem zd_549_109 : decode prog_14_method_157_code 109 = .ok (.iload_n 3, 1) := zsh_g zdk_549 (r := 27) (k := 0) rfl rfl rfl
theorem zd_549_110 : decode prog_14_method_157_code 110 = .ok (.iconst 1, 1) := zsh_g zdk_549 (r := 27) (k := 1) rfl rfl rfl
theorem zd_549_111 : decode prog_14_method_157_code 111 = .ok (.iload_n 2, 1) := zsh_g zdk_549 (r := 27) (k := 2) rfl rfl rfl
theorem zd_549_112 : decode prog_14_method_157_code 112 = .ok (.ishl, 1) := zsh_g zdk_549 (r := 28) (k := 0) rfl rfl rfl
theorem zd_549_113 : decode prog_14_method_157_code 113 = .ok (.aload_n 0, 1) := zsh_g zdk_549 (r := 28) (k := 1) rfl rfl rfl
theorem zd_549_114 : decode prog_14_method_157_code 114 = .ok (.getfield 56, 3) := zsh_g zdk_549 (r := 28) (k := 2) rfl rfl rfl
theorem zd_549_117 : decode prog_14_method_157_code 117 = .ok (.iload_n 3, 1) := zsh_g zdk_549 (r := 29) (k := 0) rfl rfl rfl
theorem zd_549_118 : decode prog_14_method_157_code 118 = .ok (.iaload, 1) := zsh_g zdk_549 (r := 29) (k := 1) rfl rfl rfl
theorem zd_549_119 : decode prog_14_method_157_code 119 = .ok (.if_icmp .le 9, 3) := zsh_g zdk_549 (r := 29) (k := 2) rfl rfl rfl
theorem zd_549_122 : decode prog_14_method_157_code 122 = .ok (.iconst 1, 1) := zsh_g zdk_549 (r := 30) (k := 0) rfl rfl rfl
theorem zd_549_123 : decode prog_14_method_157_code 123 = .ok (.iload_n 2, 1) := zsh_g zdk_549 (r := 30) (k := 1) rfl rfl rfl
theorem zd_549_124 : decode prog_14_method_157_code 124 = .ok (.ishl, 1) := zsh_g zdk_549 (r := 31) (k := 0) rfl rfl rfl
theorem zd_549_125 : decode prog_14_method_157_code 125 = .ok (.goto 9, 3) := zsh_g zdk_549 (r := 31) (k := 1) rfl rfl rfl
theorem zd_549_128 : decode prog_14_method_157_code 128 = .ok (.aload_n 0, 1) := zsh_g zdk_549 (r := 32) (k := 0) rfl rfl rfl
theorem zd_549_129 : decode prog_14_method_157_code 129 = .ok (.getfield 56, 3) := zsh_g zdk_549 (r := 32) (k := 1) rfl rfl rfl
theorem zd_549_132 : decode prog_14_method_157_code 132 = .ok (.iload_n 3, 1) := zsh_g zdk_549 (r := 33) (k := 0) rfl rfl rfl
theorem zd_549_133 : decode prog_14_method_157_code 133 = .ok (.iaload, 1) := zsh_g zdk_549 (r := 33) (k := 1) rfl rfl rfl
theorem zd_549_134 : decode prog_14_method_157_code 134 = .ok (.iastore, 1) := zsh_g zdk_549 (r := 33) (k := 2) rfl rfl rfl
theorem zd_549_135 : decode prog_14_method_157_code 135 = .ok (.aload_n 0, 1) := zsh_g zdk_549 (r := 33) (k := 3) rfl rfl rfl
theorem zd_549_136 : decode prog_14_method_157_code 136 = .ok (.invokevirtual 1290, 3) := zsh_g zdk_549 (r := 34) (k := 0) rfl rfl rfl
theorem zd_549_139 : decode prog_14_method_157_code 139 = .ok (.iconst 1, 1) := zsh_g zdk_549 (r := 34) (k := 1) rfl rfl rfl
theorem zd_549_140 : decode prog_14_method_157_code 140 = .ok (.iload_n 2, 1) := zsh_g zdk_549 (r := 35) (k := 0) rfl rfl rfl
theorem zd_549_141 : decode prog_14_method_157_code 141 = .ok (.ishl, 1) := zsh_g zdk_549 (r := 35) (k := 1) rfl rfl rfl
theorem zd_549_142 : decode prog_14_method_157_code 142 = .ok (.irem, 1) := zsh_g zdk_549 (r := 35) (k := 2) rfl rfl rfl
theorem zd_549_143 : decode prog_14_method_157_code 143 = .ok (.ifCond .eq 18, 3) := zsh_g zdk_549 (r := 35) (k := 3) rfl rfl rfl
theorem zd_549_146 : decode prog_14_method_157_code 146 = .ok (.aload_n 0, 1) := zsh_g zdk_549 (r := 36) (k := 0) rfl rfl rfl
theorem zd_549_147 : decode prog_14_method_157_code 147 = .ok (.getfield 1183, 3) := zsh_g zdk_549 (r := 36) (k := 1) rfl rfl rfl
theorem zd_549_150 : decode prog_14_method_157_code 150 = .ok (.ifCond .ne 11, 3) := zsh_g zdk_549 (r := 37) (k := 0) rfl rfl rfl
theorem zd_549_153 : decode prog_14_method_157_code 153 = .ok (.aload_n 0, 1) := zsh_g zdk_549 (r := 38) (k := 0) rfl rfl rfl
theorem zd_549_154 : decode prog_14_method_157_code 154 = .ok (.iconst 0, 1) := zsh_g zdk_549 (r := 38) (k := 1) rfl rfl rfl
theorem zd_549_155 : decode prog_14_method_157_code 155 = .ok (.invokevirtual 1278, 3) := zsh_g zdk_549 (r := 38) (k := 2) rfl rfl rfl
theorem zd_549_158 : decode prog_14_method_157_code 158 = .ok (.goto (-23), 3) := zsh_g zdk_549 (r := 39) (k := 0) rfl rfl rfl
def zdl_550 : List (List (Nat × Instr × Nat)) := [[(0, (.iload_n 1), 1)], [], [], [], [], [], [], [], [], [], [], [(0, (.aload_n 0), 1), (1, (.iconst 1), 1), (2, (.invokevirtual 1315), 3)], [(1, (.aload_n 0), 1), (2, (.invokevirtual 1336), 3)], [(1, (.aload_n 0), 1), (2, (.getfield 1228), 3)], [(1, (.ifCond .ne 9), 3)], [(0, (.aload_n 0), 1), (1, (.iconst 1), 1), (2, (.invokevirtual 1216), 3)], [(2, (.aload_n 0), 1), (3, (.aload_n 0), 1)], [(0, (.getfield 431), 3), (3, (.iconst 0), 1)], [(0, .iaload, 1), (1, (.ifCond .eq 7), 3)], [(0, (.iconst 1), 1), (1, (.goto 4), 3)], [(0, (.iconst 0), 1), (1, (.iconst 0), 1), (2, (.invokevirtual 1428), 3)], [(1, (.goto 54), 3)], [(0, (.aload_n 0), 1), (1, (.invokevirtual 1432), 3)], [(0, (.goto 47), 3), (3, (.aload_n 0), 1)], [(0, (.invokevirtual 1336), 3), (3, (.aload_n 0), 1)], [(0, (.getfield 1228), 3), (3, (.ifCond .ne 9), 3)], [(2, (.aload_n 0), 1), (3, (.iconst 1), 1)], [(0, (.invokevirtual 1216), 3)], [(0, (.aload_n 0), 1), (1, (.iload_n 1), 1), (2, (.invokevirtual 1435), 3)], [(1, (.goto 22), 3)], [(0, (.aload_n 0), 1), (1, (.invokevirtual 1438), 3)], [(0, (.goto 15), 3), (3, (.aload_n 0), 1)], [(0, (.invokevirtual 1441), 3), (3, (.goto 8), 3)], [(2, (.aload_n 0), 1), (3, (.iconst 5), 1)], [(0, (.invokevirtual 1216), 3)]]
theorem zdk_550 : zsh_all 8 zdl_550 prog_14_method_159_code.data.toList = true := by decide +kernel
theorem zd_550_0 : decode prog_14_method_159_code 0 = .ok (.iload_n 1, 1) := zsh_g zdk_550 (r := 0) (k := 0) rfl rfl rfl
theorem zd_550_44 : decode prog_14_method_159_code 44 = .ok (.aload_n 0, 1) := zsh_g zdk_550 (r := 11) (k := 0) rfl rfl rfl
theorem zd_550_45 : decode prog_14_method_159_code 45 = .ok (.iconst 1, 1) := zsh_g zdk_550 (r := 11) (k := 1) rfl rfl rfl
theorem zd_550_46 : decode prog_14_method_159_code 46 = .ok (.invokevirtual 1315, 3) := zsh_g zdk_550 (r := 11) (k := 2) rfl rfl rfl
theorem zd_550_49 : decode prog_14_method_159_code 49 = .ok (.aload_n 0, 1) := zsh_g zdk_550 (r := 12) (k := 0) rfl rfl rfl
theorem zd_550_50 : decode prog_14_method_159_code 50 = .ok (.invokevirtual 1336, 3) := zsh_g zdk_550 (r := 12) (k := 1) rfl rfl rfl
theorem zd_550_53 : decode prog_14_method_159_code 53 = .ok (.aload_n 0, 1) := zsh_g zdk_550 (r := 13) (k := 0) rfl rfl rfl
theorem zd_550_54 : decode prog_14_method_159_code 54 = .ok (.getfield 1228, 3) := zsh_g zdk_550 (r := 13) (k := 1) rfl rfl rfl
theorem zd_550_57 : decode prog_14_method_159_code 57 = .ok (.ifCond .ne 9, 3) := zsh_g zdk_550 (r := 14) (k := 0) rfl rfl rfl
theorem zd_550_60 : decode prog_14_method_159_code 60 = .ok (.aload_n 0, 1) := zsh_g zdk_550 (r := 15) (k := 0) rfl rfl rfl
theorem zd_550_61 : decode prog_14_method_159_code 61 = .ok (.iconst 1, 1) := zsh_g zdk_550 (r := 15) (k := 1) rfl rfl rfl
theorem zd_550_62 : decode prog_14_method_159_code 62 = .ok (.invokevirtual 1216, 3) := zsh_g zdk_550 (r := 15) (k := 2) rfl rfl rfl
theorem zd_550_66 : decode prog_14_method_159_code 66 = .ok (.aload_n 0, 1) := zsh_g zdk_550 (r := 16) (k := 0) rfl rfl rfl
theorem zd_550_67 : decode prog_14_method_159_code 67 = .ok (.aload_n 0, 1) := zsh_g zdk_550 (r := 16) (k := 1) rfl rfl rfl
theorem zd_550_68 : decode prog_14_method_159_code 68 = .ok (.getfield 431, 3) := zsh_g zdk_550 (r := 17) (k := 0) rfl rfl rfl
theorem zd_550_71 : decode prog_14_method_159_code 71 = .ok (.iconst 0, 1) := zsh_g zdk_550 (r := 17) (k := 1) rfl rfl rfl
theorem zd_550_72 : decode prog_14_method_159_code 72 = .ok (.iaload, 1) := zsh_g zdk_550 (r := 18) (k := 0) rfl rfl rfl
theorem zd_550_73 : decode prog_14_method_159_code 73 = .ok (.ifCond .eq 7, 3) := zsh_g zdk_550 (r := 18) (k := 1) rfl rfl rfl
theorem zd_550_76 : decode prog_14_method_159_code 76 = .ok (.iconst 1, 1) := zsh_g zdk_550 (r := 19) (k := 0) rfl rfl rfl
theorem zd_550_77 : decode prog_14_method_159_code 77 = .ok (.goto 4, 3) := zsh_g zdk_550 (r := 19) (k := 1) rfl rfl rfl
theorem zd_550_80 : decode prog_14_method_159_code 80 = .ok (.iconst 0, 1) := zsh_g zdk_550 (r := 20) (k := 0) rfl rfl rfl
theorem zd_550_81 : decode prog_14_method_159_code 81 = .ok (.iconst 0, 1) := zsh_g zdk_550 (r := 20) (k := 1) rfl rfl rfl
theorem zd_550_82 : decode prog_14_method_159_code 82 = .ok (.invokevirtual 1428, 3) := zsh_g zdk_550 (r := 20) (k := 2) rfl rfl rfl
theorem zd_550_85 : decode prog_14_method_159_code 85 = .ok (.goto 54, 3) := zsh_g zdk_550 (r := 21) (k := 0) rfl rfl rfl
theorem zd_550_88 : decode prog_14_method_159_code 88 = .ok (.aload_n 0, 1) := zsh_g zdk_550 (r := 22) (k := 0) rfl rfl rfl
theorem zd_550_89 : decode prog_14_method_159_code 89 = .ok (.invokevirtual 1432, 3) := zsh_g zdk_550 (r := 22) (k := 1) rfl rfl rfl
theorem zd_550_92 : decode prog_14_method_159_code 92 = .ok (.goto 47, 3) := zsh_g zdk_550 (r := 23) (k := 0) rfl rfl rfl
theorem zd_550_95 : decode prog_14_method_159_code 95 = .ok (.aload_n 0, 1) := zsh_g zdk_550 (r := 23) (k := 1) rfl rfl rfl
theorem zd_550_96 : decode prog_14_method_159_code 96 = .ok (.invokevirtual 1336, 3) := zsh_g zdk_550 (r := 24) (k := 0) rfl rfl rfl
theorem zd_550_99 : decode prog_14_method_159_code 99 = .ok (.aload_n 0, 1) := zsh_g zdk_550 (r := 24) (k := 1) rfl rfl rfl
theorem zd_550_100 : decode prog_14_method_159_code 100 = .ok (.getfield 1228, 3) := zsh_g zdk_550 (r := 25) (k := 0) rfl rfl rfl
theorem zd_550_103 : decode prog_14_method_159_code 103 = .ok (.ifCond .ne 9, 3) := zsh_g zdk_550 (r := 25) (k := 1) rfl rfl rfl
theorem zd_550_106 : decode prog_14_method_159_code 106 = .ok (.aload_n 0, 1) := zsh_g zdk_550 (r := 26) (k := 0) rfl rfl rfl
theorem zd_550_107 : decode prog_14_method_159_code 107 = .ok (.iconst 1, 1) := zsh_g zdk_550 (r := 26) (k := 1) rfl rfl rfl
theorem zd_550_108 : decode prog_14_method_159_code 108 = .ok (.invokevirtual 1216, 3) := zsh_g zdk_550 (r := 27) (k := 0) rfl rfl rfl
theorem zd_550_112 : decode prog_14_method_159_code 112 = .ok (.aload_n 0, 1) := zsh_g zdk_550 (r := 28) (k := 0) rfl rfl rfl
theorem zd_550_113 : decode prog_14_method_159_code 113 = .ok (.iload_n 1, 1) := zsh_g zdk_550 (r := 28) (k := 1) rfl rfl rfl
theorem zd_550_114 : decode prog_14_method_159_code 114 = .ok (.invokevirtual 1435, 3) := zsh_g zdk_550 (r := 28) (k := 2) rfl rfl rfl
theorem zd_550_117 : decode prog_14_method_159_code 117 = .ok (.goto 22, 3) := zsh_g zdk_550 (r := 29) (k := 0) rfl rfl rfl
theorem zd_550_120 : decode prog_14_method_159_code 120 = .ok (.aload_n 0, 1) := zsh_g zdk_550 (r := 30) (k := 0) rfl rfl rfl
theorem zd_550_121 : decode prog_14_method_159_code 121 = .ok (.invokevirtual 1438, 3) := zsh_g zdk_550 (r := 30) (k := 1) rfl rfl rfl
theorem zd_550_124 : decode prog_14_method_159_code 124 = .ok (.goto 15, 3) := zsh_g zdk_550 (r := 31) (k := 0) rfl rfl rfl
theorem zd_550_127 : decode prog_14_method_159_code 127 = .ok (.aload_n 0, 1) := zsh_g zdk_550 (r := 31) (k := 1) rfl rfl rfl
theorem zd_550_128 : decode prog_14_method_159_code 128 = .ok (.invokevirtual 1441, 3) := zsh_g zdk_550 (r := 32) (k := 0) rfl rfl rfl
theorem zd_550_131 : decode prog_14_method_159_code 131 = .ok (.goto 8, 3) := zsh_g zdk_550 (r := 32) (k := 1) rfl rfl rfl
theorem zd_550_134 : decode prog_14_method_159_code 134 = .ok (.aload_n 0, 1) := zsh_g zdk_550 (r := 33) (k := 0) rfl rfl rfl
theorem zd_550_135 : decode prog_14_method_159_code 135 = .ok (.iconst 5, 1) := zsh_g zdk_550 (r := 33) (k := 1) rfl rfl rfl
theorem zd_550_136 : decode prog_14_method_159_code 136 = .ok (.invokevirtual 1216, 3) := zsh_g zdk_550 (r := 34) (k := 0) rfl rfl rfl
theorem zd_550_1 : decode prog_14_method_159_code 1 = .ok (.tableswitch 133 77 83 #[43, 87, 94, 94, 119, 133, 126], 43) := by decide +kernel
def zdl_551 : List (List (Nat × Instr × Nat)) := [[(0, (.iload_n 0), 1), (1, (.ifCond .lt 14), 3)], [(0, (.iload_n 0), 1), (1, (.sipush 255), 3)], [(0, (.if_icmp .gt 7), 3), (3, (.iconst 1), 1)], [(0, (.goto 4), 3), (3, (.iconst 0), 1)]]
theorem zdk_551 : zsh_all 8 zdl_551 prog_29_method_4_code.data.toList = true := by decide +kernel
theorem zd_551_0 : decode prog_29_method_4_code 0 = .ok (.iload_n 0, 1) := zsh_g zdk_551 (r := 0) (k := 0) rfl rfl rfl
theorem zd_551_1 : decode prog_29_method_4_code 1 = .ok (.ifCond .lt 14, 3) := zsh_g zdk_551 (r := 0) (k := 1) rfl rfl rfl
theorem zd_551_4 : decode prog_29_method_4_code 4 = .ok (.iload_n 0, 1) := zsh_g zdk_551 (r := 1) (k := 0) rfl rfl rfl
theorem zd_551_5 : decode prog_29_method_4_code 5 = .ok (.sipush 255, 3) := zsh_g zdk_551 (r := 1) (k := 1) rfl rfl rfl
theorem zd_551_8 : decode prog_29_method_4_code 8 = .ok (.if_icmp .gt 7, 3) := zsh_g zdk_551 (r := 2) (k := 0) rfl rfl rfl
theorem zd_551_11 : decode prog_29_method_4_code 11 = .ok (.iconst 1, 1) := zsh_g zdk_551 (r := 2) (k := 1) rfl rfl rfl
theorem zd_551_12 : decode prog_29_method_4_code 12 = .ok (.goto 4, 3) := zsh_g zdk_551 (r := 3) (k := 0) rfl rfl rfl
theorem zd_551_15 : decode prog_29_method_4_code 15 = .ok (.iconst 0, 1) := zsh_g zdk_551 (r := 3) (k := 1) rfl rfl rfl
def zdl_552 : List (List (Nat × Instr × Nat)) := [[(0, (.iload_n 1), 1), (1, .i2b, 1), (2, (.istore 4), 2)], [(0, (.iload_n 2), 1), (1, (.istore 5), 2), (3, (.iload 5), 2)], [(1, (.iload_n 3), 1), (2, (.if_icmp .ge 21), 3)], [(1, (.aload_n 0), 1), (2, (.iload 5), 2)], [(0, .baload, 1), (1, (.iload 4), 2), (3, (.if_icmp .ne 6), 3)], [(2, (.iload 5), 2)], [(1, (.iinc 5 1), 3)], [(0, (.goto (-21)), 3), (3, (.iconst (-1)), 1)]]
theorem zdk_552 : zsh_all 8 zdl_552 prog_29_method_23_code.data.toList = true := by decide +kernel
theorem zd_552_0 : decode prog_29_method_23_code 0 = .ok (.iload_n 1, 1) := zsh_g zdk_552 (r := 0) (k := 0) rfl rfl rfl
theorem zd_552_1 : decode prog_29_method_23_code 1 = .ok (.i2b, 1) := zsh_g zdk_552 (r := 0) (k := 1) rfl rfl rfl
theorem zd_552_2 : decode prog_29_method_23_code 2 = .ok (.istore 4, 2) := zsh_g zdk_552 (r := 0) (k := 2) rfl rfl rfl
theorem zd_552_4 : decode prog_29_method_23_code 4 = .ok (.iload_n 2, 1) := zsh_g zdk_552 (r := 1) (k := 0) rfl rfl rfl
theorem zd_552_5 : decode prog_29_method_23_code 5 = .ok (.istore 5, 2) := zsh_g zdk_552 (r := 1) (k := 1) rfl rfl rfl
theorem zd_552_7 : decode prog_29_method_23_code 7 = .ok (.iload 5, 2) := zsh_g zdk_552 (r := 1) (k := 2) rfl rfl rfl
theorem zd_552_9 : decode prog_29_method_23_code 9 = .ok (.iload_n 3, 1) := zsh_g zdk_552 (r := 2) (k := 0) rfl rfl rfl
theorem zd_552_10 : decode prog_29_method_23_code 10 = .ok (.if_icmp .ge 21, 3) := zsh_g zdk_552 (r := 2) (k := 1) rfl rfl rfl
theorem zd_552_13 : decode prog_29_method_23_code 13 = .ok (.aload_n 0, 1) := zsh_g zdk_552 (r := 3) (k := 0) rfl rfl rfl
theorem zd_552_14 : decode prog_29_method_23_code 14 = .ok (.iload 5, 2) := zsh_g zdk_552 (r := 3) (k := 1) rfl rfl rfl
theorem zd_552_16 : decode prog_29_method_23_code 16 = .ok (.baload, 1) := zsh_g zdk_552 (r := 4) (k := 0) rfl rfl rfl
theorem zd_552_17 : decode prog_29_method_23_code 17 = .ok (.iload 4, 2) := zsh_g zdk_552 (r := 4) (k := 1) rfl rfl rfl
theorem zd_552_19 : decode prog_29_method_23_code 19 = .ok (.if_icmp .ne 6, 3) := zsh_g zdk_552 (r := 4) (k := 2) rfl rfl rfl
theorem zd_552_22 : decode prog_29_method_23_code 22 = .ok (.iload 5, 2) := zsh_g zdk_552 (r := 5) (k := 0) rfl rfl rfl
theorem zd_552_25 : decode prog_29_method_23_code 25 = .ok (.iinc 5 1, 3) := zsh_g zdk_552 (r := 6) (k := 0) rfl rfl rfl
theorem zd_552_28 : decode prog_29_method_23_code 28 = .ok (.goto (-21), 3) := zsh_g zdk_552 (r := 7) (k := 0) rfl rfl rfl
theorem zd_552_31 : decode prog_29_method_23_code 31 = .ok (.iconst (-1), 1) := zsh_g zdk_552 (r := 7) (k := 1) rfl rfl rfl
def zdl_553 : List (List (Nat × Instr × Nat)) := [[(0, (.iload_n 2), 1), (1, (.iload_n 3), 1), (2, (.aload_n 0), 1), (3, (.invokestatic 96), 3)], [(2, (.aload_n 0), 1), (3, (.iload_n 1), 1)], [(0, (.iload_n 2), 1), (1, (.iload_n 3), 1), (2, (.invokestatic 244), 3)]]
theorem zdk_553 : zsh_all 8 zdl_553 prog_30_method_47_code.data.toList = true := by decide +kernel
theorem zd_553_0 : decode prog_30_method_47_code 0 = .ok (.iload_n 2, 1) := zsh_g zdk_553 (r := 0) (k := 0) rfl rfl rfl
theorem zd_553_1 : decode prog_30_method_47_code 1 = .ok (.iload_n 3, 1) := zsh_g zdk_553 (r := 0) (k := 1) rfl rfl rfl
theorem zd_553_2 : decode prog_30_method_47_code 2 = .ok (.aload_n 0, 1) := zsh_g zdk_553 (r := 0) (k := 2) rfl rfl rfl
theorem zd_553_3 : decode prog_30_method_47_code 3 = .ok (.invokestatic 96, 3) := zsh_g zdk_553 (r := 0) (k := 3) rfl rfl rfl
theorem zd_553_6 : decode prog_30_method_47_code 6 = .ok (.aload_n 0, 1) := zsh_g zdk_553 (r := 1) (k := 0) rfl rfl rfl
theorem zd_553_7 : decode prog_30_method_47_code 7 = .ok (.iload_n 1, 1) := zsh_g zdk_553 (r := 1) (k := 1) rfl rfl rfl
theorem zd_553_8 : decode prog_30_method_47_code 8 = .ok (.iload_n 2, 1) := zsh_g zdk_553 (r := 2) (k := 0) rfl rfl rfl
theorem zd_553_9 : decode prog_30_method_47_code 9 = .ok (.iload_n 3, 1) := zsh_g zdk_553 (r := 2) (k := 1) rfl rfl rfl
theorem zd_553_10 : decode prog_30_method_47_code 10 = .ok (.invokestatic 244, 3) := zsh_g zdk_553 (r := 2) (k := 2) rfl rfl rfl
def zdl_554 : List (List (Nat × Instr × Nat)) := [[(0, (.iload_n 1), 1), (1, (.invokestatic 164), 3)], [(0, (.ifCond .eq 65), 3), (3, (.iload_n 1), 1)], [(0, (.invokestatic 157), 3), (3, (.istore 4), 2)], [(1, (.iload_n 1), 1), (2, (.invokestatic 161), 3)], [(1, (.istore 5), 2), (3, (.iload_n 2), 1)], [(0, (.iload_n 3), 1), (1, (.aload_n 0), 1), (2, (.invokestatic 96), 3)], [(1, (.iload_n 2), 1), (2, (.istore 6), 2)], [(0, (.iload 6), 2), (2, (.iload_n 3), 1), (3, (.iconst 1), 1)], [(0, .isub, 1), (1, (.if_icmp .ge 36), 3)], [(0, (.aload_n 0), 1), (1, (.iload 6), 2), (3, (.invokestatic 71), 3)], [(2, (.iload 4), 2)], [(0, (.if_icmp .ne 19), 3), (3, (.aload_n 0), 1)], [(0, (.iload 6), 2), (2, (.iconst 1), 1), (3, .iadd, 1)], [(0, (.invokestatic 71), 3), (3, (.iload 5), 2)], [(1, (.if_icmp .ne 6), 3)], [(0, (.iload 6), 2), (3, (.iinc 6 1), 3)], [(2, (.goto (-38)), 3)], [(1, (.iconst (-1)), 1)]]
theorem zdk_554 : zsh_all 8 zdl_554 prog_30_method_49_code.data.toList = true := by decide +kernel
theorem zd_554_0 : decode prog_30_method_49_code 0 = .ok (.iload_n 1, 1) := zsh_g zdk_554 (r := 0) (k := 0) rfl rfl rfl
theorem zd_554_1 : decode prog_30_method_49_code 1 = .ok (.invokestatic 164, 3) := zsh_g zdk_554 (r := 0) (k := 1) rfl rfl rfl
theorem zd_554_4 : decode prog_30_method_49_code 4 = .ok (.ifCond .eq 65, 3) := zsh_g zdk_554 (r := 1) (k := 0) rfl rfl rfl
theorem zd_554_7 : decode prog_30_method_49_code 7 = .ok (.iload_n 1, 1) := zsh_g zdk_554 (r := 1) (k := 1) rfl rfl rfl
theorem zd_554_8 : decode prog_30_method_49_code 8 = .ok (.invokestatic 157, 3) := zsh_g zdk_554 (r := 2) (k := 0) rfl rfl rfl
theorem zd_554_11 : decode prog_30_method_49_code 11 = .ok (.istore 4, 2) := zsh_g zdk_554 (r := 2) (k := 1) rfl rfl rfl
theorem zd_554_13 : decode prog_30_method_49_code 13 = .ok (.iload_n 1, 1) := zsh_g zdk_554 (r := 3) (k := 0) rfl rfl rfl
theorem zd_554_14 : decode prog_30_method_49_code 14 = .ok (.invokestatic 161, 3) := zsh_g zdk_554 (r := 3) (k := 1) rfl rfl rfl
theorem zd_554_17 : decode prog_30_method_49_code 17 = .ok (.istore 5, 2) := zsh_g zdk_554 (r := 4) (k := 0) rfl rfl rfl
theorem zd_554_19 : decode prog_30_method_49_code 19 = .ok (.iload_n 2, 1) := zsh_g zdk_554 (r := 4) (k := 1) rfl rfl rfl
theorem zd_554_20 : decode prog_30_method_49_code 20 = .ok (.iload_n 3, 1) := zsh_g zdk_554 (r := 5) (k := 0) rfl rfl rfl
theorem zd_554_21 : decode prog_30_method_49_code 21 = .ok (.aload_n 0, 1) := zsh_g zdk_554 (r := 5) (k := 1) rfl rfl rfl
theorem zd_554_22 : decode prog_30_method_49_code 22 = .ok (.invokestatic 96, 3) := zsh_g zdk_554 (r := 5) (k := 2) rfl rfl rfl
theorem zd_554_25 : decode prog_30_method_49_code 25 = .ok (.iload_n 2, 1) := zsh_g zdk_554 (r := 6) (k := 0) rfl rfl rfl
theorem zd_554_26 : decode prog_30_method_49_code 26 = .ok (.istore 6, 2) := zsh_g zdk_554 (r := 6) (k := 1) rfl rfl rfl
theorem zd_554_28 : decode prog_30_method_49_code 28 = .ok (.iload 6, 2) := zsh_g zdk_554 (r := 7) (k := 0) rfl rfl rfl
theorem zd_554_30 : decode prog_30_method_49_code 30 = .ok (.iload_n 3, 1) := zsh_g zdk_554 (r := 7) (k := 1) rfl rfl rfl
theorem zd_554_31 : decode prog_30_method_49_code 31 = .ok (.iconst 1, 1) := zsh_g zdk_554 (r := 7) (k := 2) rfl rfl rfl
theorem zd_554_32 : decode prog_30_method_49_code 32 = .ok (.isub, 1) := zsh_g zdk_554 (r := 8) (k := 0) rfl rfl rfl
theorem zd_554_33 : decode prog_30_method_49_code 33 = .ok (.if_icmp .ge 36, 3) := zsh_g zdk_554 (r := 8) (k := 1) rfl rfl rfl
theorem zd_554_36 : decode prog_30_method_49_code 36 = .ok (.aload_n 0, 1) := zsh_g zdk_554 (r := 9) (k := 0) rfl rfl rfl
theorem zd_554_37 : decode prog_30_method_49_code 37 = .ok (.iload 6, 2) := zsh_g zdk_554 (r := 9) (k := 1) rfl rfl rfl
theorem zd_554_39 : decode prog_30_method_49_code 39 = .ok (.invokestatic 71, 3) := zsh_g zdk_554 (r := 9) (k := 2) rfl rfl rfl
theorem zd_554_42 : decode prog_30_method_49_code 42 = .ok (.iload 4, 2) := zsh_g zdk_554 (r := 10) (k := 0) rfl rfl rfl
theorem zd_554_44 : decode prog_30_method_49_code 44 = .ok (.if_icmp .ne 19, 3) := zsh_g zdk_554 (r := 11) (k := 0) rfl rfl rfl
theorem zd_554_47 : decode prog_30_method_49_code 47 = .ok (.aload_n 0, 1) := zsh_g zdk_554 (r := 11) (k := 1) rfl rfl rfl
theorem zd_554_48 : decode prog_30_method_49_code 48 = .ok (.iload 6, 2) := zsh_g zdk_554 (r := 12) (k := 0) rfl rfl rfl
theorem zd_554_50 : decode prog_30_method_49_code 50 = .ok (.iconst 1, 1) := zsh_g zdk_554 (r := 12) (k := 1) rfl rfl rfl
theorem zd_554_51 : decode prog_30_method_49_code 51 = .ok (.iadd, 1) := zsh_g zdk_554 (r := 12) (k := 2) rfl rfl rfl
theorem zd_554_52 : decode prog_30_method_49_code 52 = .ok (.invokestatic 71, 3) := zsh_g zdk_554 (r := 13) (k := 0) rfl rfl rfl
theorem zd_554_55 : decode prog_30_method_49_code 55 = .ok (.iload 5, 2) := zsh_g zdk_554 (r := 13) (k := 1) rfl rfl rfl
theorem zd_554_57 : decode prog_30_method_49_code 57 = .ok (.if_icmp .ne 6, 3) := zsh_g zdk_554 (r := 14) (k := 0) rfl rfl rfl
theorem zd_554_60 : decode prog_30_method_49_code 60 = .ok (.iload 6, 2) := zsh_g zdk_554 (r := 15) (k := 0) rfl rfl rfl
theorem zd_554_63 : decode prog_30_method_49_code 63 = .ok (.iinc 6 1, 3) := zsh_g zdk_554 (r := 15) (k := 1) rfl rfl rfl
theorem zd_554_66 : decode prog_30_method_49_code 66 = .ok (.goto (-38), 3) := zsh_g zdk_554 (r := 16) (k := 0) rfl rfl rfl
theorem zd_554_69 : decode prog_30_method_49_code 69 = .ok (.iconst (-1), 1) := zsh_g zdk_554 (r := 17) (k := 0) rfl rfl rfl
def zdl_555 : List (List (Nat × Instr × Nat)) := [[(0, (.aload_n 0), 1), (1, (.iload_n 1), 1), (2, (.invokevirtual 270), 3)], [(1, (.iconst 0), 1), (2, (.istore_n 2), 1), (3, (.iload_n 2), 1)], [(0, (.sipush 3000), 3), (3, (.if_icmp .gt 51), 3)], [(2, (.aload_n 0), 1), (3, (.invokevirtual 69), 3)], [(2, (.invokestatic 264), 3)], [(1, (.istore_n 3), 1), (2, (.iload_n 3), 1), (3, (.bipush 19), 2)], [(1, (.if_icmp .lt 9), 3)], [(0, (.iload_n 3), 1), (1, (.bipush 24), 2), (3, (.if_icmp .le 4), 3)], [(3, (.aload_n 0), 1)], [(0, (.invokevirtual 73), 3), (3, (.aload_n 0), 1)], [(0, (.iload_n 1), 1), (1, (.iconst 1), 1), (2, .iadd, 1), (3, (.invokevirtual 270), 3)], [(2, (.aload_n 0), 1), (3, (.getfield 36), 3)], [(2, (.iload_n 3), 1), (3, (.iload_n 1), 1)], [(0, (.iconst 0), 1), (1, (.invokevirtual 169), 3)], [(0, (.iinc 2 1), 3), (3, (.goto (-52)), 3)]]
theorem zdk_555 : zsh_all 8 zdl_555 prog_10_method_37_code.data.toList = true := by decide +kernel
theorem zd_555_0 : decode prog_10_method_37_code 0 = .ok (.aload_n 0, 1) := zsh_g zdk_555 (r := 0) (k := 0) rfl rfl rfl
theorem zd_555_1 : decode prog_10_method_37_code 1 = .ok (.iload_n 1, 1) := zsh_g zdk_555 (r := 0) (k := 1) rfl rfl rfl
theorem zd_555_2 : decode prog_10_method_37_code 2 = .ok (.invokevirtual 270, 3) := zsh_g zdk_555 (r := 0) (k := 2) rfl rfl rfl
theorem zd_555_5 : decode prog_10_method_37_code 5 = .ok (.iconst 0, 1) := zsh_g zdk_555 (r := 1) (k := 0) rfl rfl rfl
theorem zd_555_6 : decode prog_10_method_37_code 6 = .ok (.istore_n 2, 1) := zsh_g zdk_555 (r := 1) (k := 1) rfl rfl rfl
theorem zd_555_7 : decode prog_10_method_37_code 7 = .ok (.iload_n 2, 1) := zsh_g zdk_555 (r := 1) (k := 2) rfl rfl rfl
theorem zd_555_8 : decode prog_10_method_37_code 8 = .ok (.sipush 3000, 3) := zsh_g zdk_555 (r := 2) (k := 0) rfl rfl rfl
theorem zd_555_11 : decode prog_10_method_37_code 11 = .ok (.if_icmp .gt 51, 3) := zsh_g zdk_555 (r := 2) (k := 1) rfl rfl rfl
theorem zd_555_14 : decode prog_10_method_37_code 14 = .ok (.aload_n 0, 1) := zsh_g zdk_555 (r := 3) (k := 0) rfl rfl rfl
theorem zd_555_15 : decode prog_10_method_37_code 15 = .ok (.invokevirtual 69, 3) := zsh_g zdk_555 (r := 3) (k := 1) rfl rfl rfl
theorem zd_555_18 : decode prog_10_method_37_code 18 = .ok (.invokestatic 264, 3) := zsh_g zdk_555 (r := 4) (k := 0) rfl rfl rfl
theorem zd_555_21 : decode prog_10_method_37_code 21 = .ok (.istore_n 3, 1) := zsh_g zdk_555 (r := 5) (k := 0) rfl rfl rfl
theorem zd_555_22 : decode prog_10_method_37_code 22 = .ok (.iload_n 3, 1) := zsh_g zdk_555 (r := 5) (k := 1) rfl rfl rfl
theorem zd_555_23 : decode prog_10_method_37_code 23 = .ok (.bipush 19, 2) := zsh_g zdk_555 (r := 5) (k := 2) rfl rfl rfl
theorem zd_555_25 : decode prog_10_method_37_code 25 = .ok (.if_icmp .lt 9, 3) := zsh_g zdk_555 (r := 6) (k := 0) rfl rfl rfl
theorem zd_555_28 : decode prog_10_method_37_code 28 = .ok (.iload_n 3, 1) := zsh_g zdk_555 (r := 7) (k := 0) rfl rfl rfl
theorem zd_555_29 : decode prog_10_method_37_code 29 = .ok (.bipush 24, 2) := zsh_g zdk_555 (r := 7) (k := 1) rfl rfl rfl
theorem zd_555_31 : decode prog_10_method_37_code 31 = .ok (.if_icmp .le 4, 3) := zsh_g zdk_555 (r := 7) (k := 2) rfl rfl rfl
theorem zd_555_35 : decode prog_10_method_37_code 35 = .ok (.aload_n 0, 1) := zsh_g zdk_555 (r := 8) (k := 0) rfl rfl rfl
theorem zd_555_36 : decode prog_10_method_37_code 36 = .ok (.invokevirtual 73, 3) := zsh_g zdk_555 (r := 9) (k := 0) rfl rfl rfl
theorem zd_555_39 : decode prog_10_method_37_code 39 = .ok (.aload_n 0, 1) := zsh_g zdk_555 (r := 9) (k := 1) rfl rfl rfl
theorem zd_555_40 : decode prog_10_method_37_code 40 = .ok (.iload_n 1, 1) := zsh_g zdk_555 (r := 10) (k := 0) rfl rfl rfl
theorem zd_555_41 : decode prog_10_method_37_code 41 = .ok (.iconst 1, 1) := zsh_g zdk_555 (r := 10) (k := 1) rfl rfl rfl
theorem zd_555_42 : decode prog_10_method_37_code 42 = .ok (.iadd, 1) := zsh_g zdk_555 (r := 10) (k := 2) rfl rfl rfl
theorem zd_555_43 : decode prog_10_method_37_code 43 = .ok (.invokevirtual 270, 3) := zsh_g zdk_555 (r := 10) (k := 3) rfl rfl rfl
theorem zd_555_46 : decode prog_10_method_37_code 46 = .ok (.aload_n 0, 1) := zsh_g zdk_555 (r := 11) (k := 0) rfl rfl rfl
theorem zd_555_47 : decode prog_10_method_37_code 47 = .ok (.getfield 36, 3) := zsh_g zdk_555 (r := 11) (k := 1) rfl rfl rfl
theorem zd_555_50 : decode prog_10_method_37_code 50 = .ok (.iload_n 3, 1) := zsh_g zdk_555 (r := 12) (k := 0) rfl rfl rfl
theorem zd_555_51 : decode prog_10_method_37_code 51 = .ok (.iload_n 1, 1) := zsh_g zdk_555 (r := 12) (k := 1) rfl rfl rfl
theorem zd_555_52 : decode prog_10_method_37_code 52 = .ok (.iconst 0, 1) := zsh_g zdk_555 (r := 13) (k := 0) rfl rfl rfl
theorem zd_555_53 : decode prog_10_method_37_code 53 = .ok (.invokevirtual 169, 3) := zsh_g zdk_555 (r := 13) (k := 1) rfl rfl rfl
theorem zd_555_56 : decode prog_10_method_37_code 56 = .ok (.iinc 2 1, 3) := zsh_g zdk_555 (r := 14) (k := 0) rfl rfl rfl
theorem zd_555_59 : decode prog_10_method_37_code 59 = .ok (.goto (-52), 3) := zsh_g zdk_555 (r := 14) (k := 1) rfl rfl rfl
def zdl_556 : List (List (Nat × Instr × Nat)) := [[(0, (.iload_n 0), 1), (1, (.iload_n 1), 1), (2, .iadd, 1), (3, (.istore_n 2), 1)], [(0, (.iload_n 2), 1), (1, (.ifCond .ge 44), 3)], [], [], [], [], [], [], [], [], [], [], [(1, (.iload_n 2), 1), (2, (.ldc 200), 2)], [(0, (.if_icmp .gt 6), 3), (3, (.ldc 200), 2)], [(2, (.iload_n 2), 1)]]
theorem zdk_556 : zsh_all 8 zdl_556 prog_36_method_28_code.data.toList = true := by decide +kernel
theorem zd_556_0 : decode prog_36_method_28_code 0 = .ok (.iload_n 0, 1) := zsh_g zdk_556 (r := 0) (k := 0) rfl rfl rfl
theorem zd_556_1 : decode prog_36_method_28_code 1 = .ok (.iload_n 1, 1) := zsh_g zdk_556 (r := 0) (k := 1) rfl rfl rfl
theorem zd_556_2 : decode prog_36_method_28_code 2 = .ok (.iadd, 1) := zsh_g zdk_556 (r := 0) (k := 2) rfl rfl rfl
theorem zd_556_3 : decode prog_36_method_28_code 3 = .ok (.istore_n 2, 1) := zsh_g zdk_556 (r := 0) (k := 3) rfl rfl rfl
theorem zd_556_4 : decode prog_36_method_28_code 4 = .ok (.iload_n 2, 1) := zsh_g zdk_556 (r := 1) (k := 0) rfl rfl rfl
theorem zd_556_5 : decode prog_36_method_28_code 5 = .ok (.ifCond .ge 44, 3) := zsh_g zdk_556 (r := 1) (k := 1) rfl rfl rfl
theorem zd_556_49 : decode prog_36_method_28_code 49 = .ok (.iload_n 2, 1) := zsh_g zdk_556 (r := 12) (k := 0) rfl rfl rfl
theorem zd_556_50 : decode prog_36_method_28_code 50 = .ok (.ldc 200, 2) := zsh_g zdk_556 (r := 12) (k := 1) rfl rfl rfl
theorem zd_556_52 : decode prog_36_method_28_code 52 = .ok (.if_icmp .gt 6, 3) := zsh_g zdk_556 (r := 13) (k := 0) rfl rfl rfl
theorem zd_556_55 : decode prog_36_method_28_code 55 = .ok (.ldc 200, 2) := zsh_g zdk_556 (r := 13) (k := 1) rfl rfl rfl
theorem zd_556_58 : decode prog_36_method_28_code 58 = .ok (.iload_n 2, 1) := zsh_g zdk_556 (r := 14) (k := 0) rfl rfl rfl
def zdl_557 : List (List (Nat × Instr × Nat)) := [[(0, (.iload_n 0), 1), (1, (.ifCond .lt 13), 3)], [(0, (.iload_n 0), 1), (1, (.iload_n 1), 1), (2, (.if_icmp .gt 8), 3)], [(1, (.iload_n 1), 1), (2, (.iload_n 2), 1), (3, (.if_icmp .le 11), 3)], [(2, (.aload_n 3), 1), (3, (.iload_n 0), 1)], [(0, (.iload_n 1), 1), (1, (.iload_n 2), 1)], [(2, (.iload_n 0), 1)]]
theorem zdk_557 : zsh_all 8 zdl_557 prog_37_method_12_code.data.toList = true := by decide +kernel
theorem zd_557_0 : decode prog_37_method_12_code 0 = .ok (.iload_n 0, 1) := zsh_g zdk_557 (r := 0) (k := 0) rfl rfl rfl
theorem zd_557_1 : decode prog_37_method_12_code 1 = .ok (.ifCond .lt 13, 3) := zsh_g zdk_557 (r := 0) (k := 1) rfl rfl rfl
theorem zd_557_4 : decode prog_37_method_12_code 4 = .ok (.iload_n 0, 1) := zsh_g zdk_557 (r := 1) (k := 0) rfl rfl rfl
theorem zd_557_5 : decode prog_37_method_12_code 5 = .ok (.iload_n 1, 1) := zsh_g zdk_557 (r := 1) (k := 1) rfl rfl rfl
theorem zd_557_6 : decode prog_37_method_12_code 6 = .ok (.if_icmp .gt 8, 3) := zsh_g zdk_557 (r := 1) (k := 2) rfl rfl rfl
theorem zd_557_9 : decode prog_37_method_12_code 9 = .ok (.iload_n 1, 1) := zsh_g zdk_557 (r := 2) (k := 0) rfl rfl rfl
theorem zd_557_10 : decode prog_37_method_12_code 10 = .ok (.iload_n 2, 1) := zsh_g zdk_557 (r := 2) (k := 1) rfl rfl rfl
theorem zd_557_11 : decode prog_37_method_12_code 11 = .ok (.if_icmp .le 11, 3) := zsh_g zdk_557 (r := 2) (k := 2) rfl rfl rfl
theorem zd_557_14 : decode prog_37_method_12_code 14 = .ok (.aload_n 3, 1) := zsh_g zdk_557 (r := 3) (k := 0) rfl rfl rfl
theorem zd_557_15 : decode prog_37_method_12_code 15 = .ok (.iload_n 0, 1) := zsh_g zdk_557 (r := 3) (k := 1) rfl rfl rfl
theorem zd_557_16 : decode prog_37_method_12_code 16 = .ok (.iload_n 1, 1) := zsh_g zdk_557 (r := 4) (k := 0) rfl rfl rfl
theorem zd_557_17 : decode prog_37_method_12_code 17 = .ok (.iload_n 2, 1) := zsh_g zdk_557 (r := 4) (k := 1) rfl rfl rfl
theorem zd_557_22 : decode prog_37_method_12_code 22 = .ok (.iload_n 0, 1) := zsh_g zdk_557 (r := 5) (k := 0) rfl rfl rfl
def zdl_558 : List (List (Nat × Instr × Nat)) := [[(0, (.iload_n 0), 1), (1, (.iload_n 1), 1), (2, (.aload_n 2), 1), (3, (.invokestatic 48), 3)], [(2, (.invokestatic 419), 3)], [(1, .pop, 1)]]
theorem zdk_558 : zsh_all 8 zdl_558 prog_30_method_94_code.data.toList = true := by decide +kernel
theorem zd_558_0 : decode prog_30_method_94_code 0 = .ok (.iload_n 0, 1) := zsh_g zdk_558 (r := 0) (k := 0) rfl rfl rfl
theorem zd_558_1 : decode prog_30_method_94_code 1 = .ok (.iload_n 1, 1) := zsh_g zdk_558 (r := 0) (k := 1) rfl rfl rfl
theorem zd_558_2 : decode prog_30_method_94_code 2 = .ok (.aload_n 2, 1) := zsh_g zdk_558 (r := 0) (k := 2) rfl rfl rfl
theorem zd_558_3 : decode prog_30_method_94_code 3 = .ok (.invokestatic 48, 3) := zsh_g zdk_558 (r := 0) (k := 3) rfl rfl rfl
theorem zd_558_6 : decode prog_30_method_94_code 6 = .ok (.invokestatic 419, 3) := zsh_g zdk_558 (r := 1) (k := 0) rfl rfl rfl
theorem zd_558_9 : decode prog_30_method_94_code 9 = .ok (.pop, 1) := zsh_g zdk_558 (r := 2) (k := 0) rfl rfl rfl
def zdl_559 : List (List (Nat × Instr × Nat)) := [[(0, (.aload_n 0), 1), (1, (.getfield 604), 3)], [(0, (.iconst 1), 1), (1, .isub, 1), (2, (.istore_n 1), 1), (3, (.aload_n 0), 1)], [(0, (.getfield 244), 3), (3, (.iload_n 1), 1)], [(0, .iaload, 1), (1, (.ifCond .le 14), 3)], [(0, (.aload_n 0), 1), (1, (.getfield 235), 3)], [(0, (.iload_n 1), 1), (1, .iaload, 1), (2, (.iconst 1), 1), (3, .iadd, 1)], [(0, (.goto 9), 3), (3, (.aload_n 0), 1)], [(0, (.getfield 235), 3), (3, (.iload_n 1), 1)], [(0, .iaload, 1)]]
theorem zdk_559 : zsh_all 8 zdl_559 prog_14_method_32_code.data.toList = true := by decide +kernel
theorem zd_559_0 : decode prog_14_method_32_code 0 = .ok (.aload_n 0, 1) := zsh_g zdk_559 (r := 0) (k := 0) rfl rfl rfl
theorem zd_559_1 : decode prog_14_method_32_code 1 = .ok (.getfield 604, 3) := zsh_g zdk_559 (r := 0) (k := 1) rfl rfl rfl
theorem zd_559_4 : decode prog_14_method_32_code 4 = .ok (.iconst 1, 1) := zsh_g zdk_559 (r := 1) (k := 0) rfl rfl rfl
theorem zd_559_5 : decode prog_14_method_32_code 5 = .ok (.isub, 1) := zsh_g zdk_559 (r := 1) (k := 1) rfl rfl rfl
theorem zd_559_6 : decode prog_14_method_32_code 6 = .ok (.istore_n 1, 1) := zsh_g zdk_559 (r := 1) (k := 2) rfl rfl rfl
theorem zd_559_7 : decode prog_14_method_32_code 7 = .ok (.aload_n 0, 1) := zsh_g zdk_559 (r := 1) (k := 3) rfl rfl rfl
theorem zd_559_8 : decode prog_14_method_32_code 8 = .ok (.getfield 244, 3) := zsh_g zdk_559 (r := 2) (k := 0) rfl rfl rfl
theorem zd_559_11 : decode prog_14_method_32_code 11 = .ok (.iload_n 1, 1) := zsh_g zdk_559 (r := 2) (k := 1) rfl rfl rfl
theorem zd_559_12 : decode prog_14_method_32_code 12 = .ok (.iaload, 1) := zsh_g zdk_559 (r := 3) (k := 0) rfl rfl rfl
theorem zd_559_13 : decode prog_14_method_32_code 13 = .ok (.ifCond .le 14, 3) := zsh_g zdk_559 (r := 3) (k := 1) rfl rfl rfl
theorem zd_559_16 : decode prog_14_method_32_code 16 = .ok (.aload_n 0, 1) := zsh_g zdk_559 (r := 4) (k := 0) rfl rfl rfl
theorem zd_559_17 : decode prog_14_method_32_code 17 = .ok (.getfield 235, 3) := zsh_g zdk_559 (r := 4) (k := 1) rfl rfl rfl
theorem zd_559_20 : decode prog_14_method_32_code 20 = .ok (.iload_n 1, 1) := zsh_g zdk_559 (r := 5) (k := 0) rfl rfl rfl
theorem zd_559_21 : decode prog_14_method_32_code 21 = .ok (.iaload, 1) := zsh_g zdk_559 (r := 5) (k := 1) rfl rfl rfl
theorem zd_559_22 : decode prog_14_method_32_code 22 = .ok (.iconst 1, 1) := zsh_g zdk_559 (r := 5) (k := 2) rfl rfl rfl
theorem zd_559_23 : decode prog_14_method_32_code 23 = .ok (.iadd, 1) := zsh_g zdk_559 (r := 5) (k := 3) rfl rfl rfl
theorem zd_559_24 : decode prog_14_method_32_code 24 = .ok (.goto 9, 3) := zsh_g zdk_559 (r := 6) (k := 0) rfl rfl rfl
theorem zd_559_27 : decode prog_14_method_32_code 27 = .ok (.aload_n 0, 1) := zsh_g zdk_559 (r := 6) (k := 1) rfl rfl rfl
theorem zd_559_28 : decode prog_14_method_32_code 28 = .ok (.getfield 235, 3) := zsh_g zdk_559 (r := 7) (k := 0) rfl rfl rfl
theorem zd_559_31 : decode prog_14_method_32_code 31 = .ok (.iload_n 1, 1) := zsh_g zdk_559 (r := 7) (k := 1) rfl rfl rfl
theorem zd_559_32 : decode prog_14_method_32_code 32 = .ok (.iaload, 1) := zsh_g zdk_559 (r := 8) (k := 0) rfl rfl rfl
def zdl_560 : List (List (Nat × Instr × Nat)) := [[(0, (.iload_n 0), 1), (1, (.bipush 42), 2), (3, (.if_icmp .eq 35), 3)], [(2, (.iload_n 0), 1), (3, (.bipush 47), 2)], [(1, (.if_icmp .eq 29), 3)], [(0, (.iload_n 0), 1), (1, (.bipush 37), 2), (3, (.if_icmp .eq 23), 3)], [(2, (.iload_n 0), 1), (3, (.bipush 38), 2)], [(1, (.if_icmp .eq 17), 3)], [(0, (.iload_n 0), 1), (1, (.sipush 131), 3)], [(0, (.if_icmp .eq 10), 3), (3, (.iload_n 0), 1)], [(0, (.sipush 132), 3), (3, (.if_icmp .ne 7), 3)], [(2, (.iconst 1), 1), (3, (.goto 4), 3)], [(2, (.iconst 0), 1)]]
theorem zdk_560 : zsh_all 8 zdl_560 prog_14_method_36_code.data.toList = true := by decide +kernel
theorem zd_560_0 : decode prog_14_method_36_code 0 = .ok (.iload_n 0, 1) := zsh_g zdk_560 (r := 0) (k := 0) rfl rfl rfl
theorem zd_560_1 : decode prog_14_method_36_code 1 = .ok (.bipush 42, 2) := zsh_g zdk_560 (r := 0) (k := 1) rfl rfl rfl
theorem zd_560_3 : decode prog_14_method_36_code 3 = .ok (.if_icmp .eq 35, 3) := zsh_g zdk_560 (r := 0) (k := 2) rfl rfl rfl
theorem zd_560_6 : decode prog_14_method_36_code 6 = .ok (.iload_n 0, 1) := zsh_g zdk_560 (r := 1) (k := 0) rfl rfl rfl
theorem zd_560_7 : decode prog_14_method_36_code 7 = .ok (.bipush 47, 2) := zsh_g zdk_560 (r := 1) (k := 1) rfl rfl rfl
theorem zd_560_9 : decode prog_14_method_36_code 9 = .ok (.if_icmp .eq 29, 3) := zsh_g zdk_560 (r := 2) (k := 0) rfl rfl rfl
theorem zd_560_12 : decode prog_14_method_36_code 12 = .ok (.iload_n 0, 1) := zsh_g zdk_560 (r := 3) (k := 0) rfl rfl rfl
theorem zd_560_13 : decode prog_14_method_36_code 13 = .ok (.bipush 37, 2) := zsh_g zdk_560 (r := 3) (k := 1) rfl rfl rfl
theorem zd_560_15 : decode prog_14_method_36_code 15 = .ok (.if_icmp .eq 23, 3) := zsh_g zdk_560 (r := 3) (k := 2) rfl rfl rfl
theorem zd_560_18 : decode prog_14_method_36_code 18 = .ok (.iload_n 0, 1) := zsh_g zdk_560 (r := 4) (k := 0) rfl rfl rfl
theorem zd_560_19 : decode prog_14_method_36_code 19 = .ok (.bipush 38, 2) := zsh_g zdk_560 (r := 4) (k := 1) rfl rfl rfl
theorem zd_560_21 : decode prog_14_method_36_code 21 = .ok (.if_icmp .eq 17, 3) := zsh_g zdk_560 (r := 5) (k := 0) rfl rfl rfl
theorem zd_560_24 : decode prog_14_method_36_code 24 = .ok (.iload_n 0, 1) := zsh_g zdk_560 (r := 6) (k := 0) rfl rfl rfl
theorem zd_560_25 : decode prog_14_method_36_code 25 = .ok (.sipush 131, 3) := zsh_g zdk_560 (r := 6) (k := 1) rfl rfl rfl
theorem zd_560_28 : decode prog_14_method_36_code 28 = .ok (.if_icmp .eq 10, 3) := zsh_g zdk_560 (r := 7) (k := 0) rfl rfl rfl
theorem zd_560_31 : decode prog_14_method_36_code 31 = .ok (.iload_n 0, 1) := zsh_g zdk_560 (r := 7) (k := 1) rfl rfl rfl
theorem zd_560_32 : decode prog_14_method_36_code 32 = .ok (.sipush 132, 3) := zsh_g zdk_560 (r := 8) (k := 0) rfl rfl rfl
theorem zd_560_35 : decode prog_14_method_36_code 35 = .ok (.if_icmp .ne 7, 3) := zsh_g zdk_560 (r := 8) (k := 1) rfl rfl rfl
theorem zd_560_38 : decode prog_14_method_36_code 38 = .ok (.iconst 1, 1) := zsh_g zdk_560 (r := 9) (k := 0) rfl rfl rfl
theorem zd_560_39 : decode prog_14_method_36_code 39 = .ok (.goto 4, 3) := zsh_g zdk_560 (r := 9) (k := 1) rfl rfl rfl
theorem zd_560_42 : decode prog_14_method_36_code 42 = .ok (.iconst 0, 1) := zsh_g zdk_560 (r := 10) (k := 0) rfl rfl rfl
def zdl_561 : List (List (Nat × Instr × Nat)) := [[(0, (.iload_n 0), 1), (1, (.bipush 43), 2), (3, (.if_icmp .eq 21), 3)], [(2, (.iload_n 0), 1), (3, (.bipush 45), 2)], [(1, (.if_icmp .eq 15), 3)], [(0, (.iload_n 0), 1), (1, (.bipush 124), 2), (3, (.if_icmp .eq 9), 3)], [(2, (.iload_n 0), 1), (3, (.bipush 94), 2)], [(1, (.if_icmp .ne 7), 3)], [(0, (.iconst 1), 1), (1, (.goto 4), 3)], [(0, (.iconst 0), 1)]]
theorem zdk_561 : zsh_all 8 zdl_561 prog_14_method_37_code.data.toList = true := by decide +kernel
theorem zd_561_0 : decode prog_14_method_37_code 0 = .ok (.iload_n 0, 1) := zsh_g zdk_561 (r := 0) (k := 0) rfl rfl rfl
theorem zd_561_1 : decode prog_14_method_37_code 1 = .ok (.bipush 43, 2) := zsh_g zdk_561 (r := 0) (k := 1) rfl rfl rfl
theorem zd_561_3 : decode prog_14_method_37_code 3 = .ok (.if_icmp .eq 21, 3) := zsh_g zdk_561 (r := 0) (k := 2) rfl rfl rfl
theorem zd_561_6 : decode prog_14_method_37_code 6 = .ok (.iload_n 0, 1) := zsh_g zdk_561 (r := 1) (k := 0) rfl rfl rfl
theorem zd_561_7 : decode prog_14_method_37_code 7 = .ok (.bipush 45, 2) := zsh_g zdk_561 (r := 1) (k := 1) rfl rfl rfl
theorem zd_561_9 : decode prog_14_method_37_code 9 = .ok (.if_icmp .eq 15, 3) := zsh_g zdk_561 (r := 2) (k := 0) rfl rfl rfl
theorem zd_561_12 : decode prog_14_method_37_code 12 = .ok (.iload_n 0, 1) := zsh_g zdk_561 (r := 3) (k := 0) rfl rfl rfl
theorem zd_561_13 : decode prog_14_method_37_code 13 = .ok (.bipush 124, 2) := zsh_g zdk_561 (r := 3) (k := 1) rfl rfl rfl
theorem zd_561_15 : decode prog_14_method_37_code 15 = .ok (.if_icmp .eq 9, 3) := zsh_g zdk_561 (r := 3) (k := 2) rfl rfl rfl
theorem zd_561_18 : decode prog_14_method_37_code 18 = .ok (.iload_n 0, 1) := zsh_g zdk_561 (r := 4) (k := 0) rfl rfl rfl
theorem zd_561_19 : decode prog_14_method_37_code 19 = .ok (.bipush 94, 2) := zsh_g zdk_561 (r := 4) (k := 1) rfl rfl rfl
theorem zd_561_21 : decode prog_14_method_37_code 21 = .ok (.if_icmp .ne 7, 3) := zsh_g zdk_561 (r := 5) (k := 0) rfl rfl rfl
theorem zd_561_24 : decode prog_14_method_37_code 24 = .ok (.iconst 1, 1) := zsh_g zdk_561 (r := 6) (k := 0) rfl rfl rfl
theorem zd_561_25 : decode prog_14_method_37_code 25 = .ok (.goto 4, 3) := zsh_g zdk_561 (r := 6) (k := 1) rfl rfl rfl
theorem zd_561_28 : decode prog_14_method_37_code 28 = .ok (.iconst 0, 1) := zsh_g zdk_561 (r := 7) (k := 0) rfl rfl rfl
def zdl_562 : List (List (Nat × Instr × Nat)) := [[(0, (.iload_n 0), 1), (1, (.sipush 128), 3)], [(0, (.if_icmp .eq 23), 3), (3, (.iload_n 0), 1)], [(0, (.sipush 129), 3), (3, (.if_icmp .eq 16), 3)], [(2, (.iload_n 0), 1), (3, (.bipush 60), 2)], [(1, (.if_icmp .eq 10), 3)], [(0, (.iload_n 0), 1), (1, (.sipush 130), 3)], [(0, (.if_icmp .ne 7), 3), (3, (.iconst 1), 1)], [(0, (.goto 4), 3), (3, (.iconst 0), 1)]]
theorem zdk_562 : zsh_all 8 zdl_562 prog_14_method_38_code.data.toList = true := by decide +kernel
theorem zd_562_0 : decode prog_14_method_38_code 0 = .ok (.iload_n 0, 1) := zsh_g zdk_562 (r := 0) (k := 0) rfl rfl rfl
theorem zd_562_1 : decode prog_14_method_38_code 1 = .ok (.sipush 128, 3) := zsh_g zdk_562 (r := 0) (k := 1) rfl rfl rfl
theorem zd_562_4 : decode prog_14_method_38_code 4 = .ok (.if_icmp .eq 23, 3) := zsh_g zdk_562 (r := 1) (k := 0) rfl rfl rfl
theorem zd_562_7 : decode prog_14_method_38_code 7 = .ok (.iload_n 0, 1) := zsh_g zdk_562 (r := 1) (k := 1) rfl rfl rfl
theorem zd_562_8 : decode prog_14_method_38_code 8 = .ok (.sipush 129, 3) := zsh_g zdk_562 (r := 2) (k := 0) rfl rfl rfl
theorem zd_562_11 : decode prog_14_method_38_code 11 = .ok (.if_icmp .eq 16, 3) := zsh_g zdk_562 (r := 2) (k := 1) rfl rfl rfl
theorem zd_562_14 : decode prog_14_method_38_code 14 = .ok (.iload_n 0, 1) := zsh_g zdk_562 (r := 3) (k := 0) rfl rfl rfl
theorem zd_562_15 : decode prog_14_method_38_code 15 = .ok (.bipush 60, 2) := zsh_g zdk_562 (r := 3) (k := 1) rfl rfl rfl
theorem zd_562_17 : decode prog_14_method_38_code 17 = .ok (.if_icmp .eq 10, 3) := zsh_g zdk_562 (r := 4) (k := 0) rfl rfl rfl
theorem zd_562_20 : decode prog_14_method_38_code 20 = .ok (.iload_n 0, 1) := zsh_g zdk_562 (r := 5) (k := 0) rfl rfl rfl
theorem zd_562_21 : decode prog_14_method_38_code 21 = .ok (.sipush 130, 3) := zsh_g zdk_562 (r := 5) (k := 1) rfl rfl rfl
theorem zd_562_24 : decode prog_14_method_38_code 24 = .ok (.if_icmp .ne 7, 3) := zsh_g zdk_562 (r := 6) (k := 0) rfl rfl rfl
theorem zd_562_27 : decode prog_14_method_38_code 27 = .ok (.iconst 1, 1) := zsh_g zdk_562 (r := 6) (k := 1) rfl rfl rfl
theorem zd_562_28 : decode prog_14_method_38_code 28 = .ok (.goto 4, 3) := zsh_g zdk_562 (r := 7) (k := 0) rfl rfl rfl
theorem zd_562_31 : decode prog_14_method_38_code 31 = .ok (.iconst 0, 1) := zsh_g zdk_562 (r := 7) (k := 1) rfl rfl rfl
def zdl_563 : List (List (Nat × Instr × Nat)) := [[(0, (.aload_n 0), 1), (1, (.invokevirtual 1225), 3)], [(0, (.aload_n 0), 1), (1, (.invokevirtual 1222), 3)], [(0, (.bipush 36), 2), (2, (.if_icmp .eq 10), 3)], [(1, (.aload_n 0), 1), (2, (.iconst 0), 1), (3, (.putfield 1228), 3)], [(2, (.iconst 0), 1)], [(0, (.aload_n 0), 1), (1, .dup, 1), (2, (.getfield 1219), 3)], [(1, (.iconst 1), 1), (2, .iadd, 1), (3, (.putfield 1219), 3)], [(2, (.aload_n 0), 1), (3, (.getfield 1219), 3)], [(2, (.istore_n 1), 1), (3, (.lconst 0), 1)], [(0, (.lstore_n 2), 1), (1, (.iconst 0), 1), (2, (.istore 4), 2)], [(0, (.iconst 1), 1), (1, (.istore 5), 2), (3, (.aload_n 0), 1)], [(0, (.invokevirtual 1222), 3), (3, (.invokestatic 550), 3)], [(2, (.ifCond .ne 13), 3)], [(1, (.aload_n 0), 1), (2, (.invokevirtual 1222), 3)], [(1, (.invokestatic 553), 3)], [(0, (.ifCond .eq 109), 3), (3, (.aload_n 0), 1)], [(0, (.getfield 1219), 3), (3, (.iload_n 1), 1)], [(0, .isub, 1), (1, (.bipush 8), 2), (3, (.if_icmp .ge 23), 3)], [(2, (.lload_n 2), 1), (3, (.aload_n 0), 1)], [(0, (.invokevirtual 1222), 3), (3, .i2l, 1)], [(0, (.bipush 8), 2), (2, (.aload_n 0), 1), (3, (.getfield 1219), 3)], [(2, (.iload_n 1), 1), (3, .isub, 1)], [(0, .imul, 1), (1, .lshl, 1), (2, .lor, 1), (3, (.goto 4), 3)], [(2, (.lload_n 2), 1), (3, (.lstore_n 2), 1)], [(0, (.aload_n 0), 1), (1, (.invokevirtual 1222), 3)], [(0, (.invokestatic 553), 3), (3, (.ifCond .eq 27), 3)], [(2, (.iload 4), 2)], [(0, (.sipush 1000), 3), (3, (.if_icmp .ge 19), 3)], [(2, (.bipush 10), 2)], [(0, (.iload 4), 2), (2, .imul, 1), (3, (.aload_n 0), 1)], [(0, (.invokevirtual 1222), 3), (3, .iadd, 1)], [(0, (.bipush 48), 2), (2, .isub, 1), (3, (.goto 5), 3)], [(2, (.iload 4), 2)], [(0, (.istore 4), 2), (2, (.iload 5), 2)], [(0, (.ifCond .eq 17), 3), (3, (.aload_n 0), 1)], [(0, (.invokevirtual 1222), 3), (3, (.invokestatic 553), 3)], [(2, (.ifCond .eq 7), 3)], [(1, (.iconst 1), 1), (2, (.goto 4), 3)], [(1, (.iconst 0), 1), (2, (.istore 5), 2)], [(0, (.aload_n 0), 1), (1, .dup, 1), (2, (.getfield 1219), 3)], [(1, (.iconst 1), 1), (2, .iadd, 1), (3, (.putfield 1219), 3)], [(2, (.goto (-123)), 3)], [(1, (.aload_n 0), 1), (2, (.getfield 1219), 3)], [(1, (.iload_n 1), 1), (2, .isub, 1), (3, (.istore 6), 2)], [(1, (.iload 6), 2), (3, (.ifCond .le 54), 3)], [(2, (.iload 5), 2)], [(0, (.ifCond .eq 49), 3), (3, (.aload_n 0), 1)], [(0, (.aload_n 0), 1), (1, (.getfield 1228), 3)], [(0, (.ifCond .eq 31), 3), (3, (.iload 4), 2)], [(1, (.bipush 32), 2), (3, (.if_icmp .ge 24), 3)], [(2, (.iload 6), 2)], [(0, (.iconst 1), 1), (1, (.if_icmp .eq 14), 3)], [(0, (.aload_n 0), 1), (1, (.getfield 298), 3)], [(0, (.iload_n 1), 1), (1, .iaload, 1), (2, (.bipush 48), 2)], [(0, (.if_icmp .eq 7), 3), (3, (.iconst 1), 1)], [(0, (.goto 4), 3), (3, (.iconst 0), 1)], [(0, (.putfield 1228), 3), (3, (.iload 4), 2)], [(1, (.bipush 31), 2), (3, .iand, 1)], [(1, (.iload 6), 2), (3, (.ifCond .eq 10), 3)], [(2, (.iload 6), 2)], [(0, (.bipush 8), 2), (2, (.if_icmp .le 7), 3)], [(1, (.iconst (-1)), 1), (2, (.goto 12), 3)], [(1, (.aload_n 0), 1), (2, (.lload_n 2), 1), (3, (.lconst 0), 1)], [(0, (.invokevirtual 536), 3), (3, (.bipush 93), 2)], [(1, .isub, 1), (2, (.istore 7), 2)], [(0, (.aload_n 0), 1), (1, (.aload_n 0), 1), (2, (.getfield 1228), 3)], [(1, (.ifCond .eq 18), 3)], [(0, (.iload 7), 2), (2, (.iconst 0), 1), (3, (.bipush 31), 2)], [(1, (.invokestatic 504), 3)], [(0, (.ifCond .eq 7), 3), (3, (.iconst 1), 1)], [(0, (.goto 4), 3), (3, (.iconst 0), 1)], [(0, (.putfield 1228), 3), (3, (.iload 7), 2)], [(1, (.bipush 31), 2), (3, .iand, 1)]]
theorem zdk_563 : zsh_all 8 zdl_563 prog_14_method_115_code.data.toList = true := by decide +kernel
theorem zd_563_0 : decode prog_14_method_115_code 0 = .ok (.aload_n 0, 1) := zsh_g zdk_563 (r := 0) (k := 0) rfl rfl rfl
theorem zd_563_1 : decode prog_14_method_115_code 1 = .ok (.invokevirtual 1225, 3) := zsh_g zdk_563 (r := 0) (k := 1) rfl rfl rfl
theorem zd_563_4 : decode prog_14_method_115_code 4 = .ok (.aload_n 0, 1) := zsh_g zdk_563 (r := 1) (k := 0) rfl rfl rfl
theorem zd_563_5 : decode prog_14_method_115_code 5 = .ok (.invokevirtual 1222, 3) := zsh_g zdk_563 (r := 1) (k := 1) rfl rfl rfl
theorem zd_563_8 : decode prog_14_method_115_code 8 = .ok (.bipush 36, 2) := zsh_g zdk_563 (r := 2) (k := 0) rfl rfl rfl
theorem zd_563_10 : decode prog_14_method_115_code 10 = .ok (.if_icmp .eq 10, 3) := zsh_g zdk_563 (r := 2) (k := 1) rfl rfl rfl
theorem zd_563_13 : decode prog_14_method_115_code 13 = .ok (.aload_n 0, 1) := zsh_g zdk_563 (r := 3) (k := 0) rfl rfl rfl
theorem zd_563_14 : decode prog_14_method_115_code 14 = .ok (.iconst 0, 1) := zsh_g zdk_563 (r := 3) (k := 1) rfl rfl rfl
theorem zd_563_15 : decode prog_14_method_115_code 15 = .ok (.putfield 1228, 3) := zsh_g zdk_563 (r := 3) (k := 2) rfl rfl rfl
theorem zd_563_18 : decode prog_14_method_115_code 18 = .ok (.iconst 0, 1) := zsh_g zdk_563 (r := 4) (k := 0) rfl rfl rfl
theorem zd_563_20 : decode prog_14_method_115_code 20 = .ok (.aload_n 0, 1) := zsh_g zdk_563 (r := 5) (k := 0) rfl rfl rfl
theorem zd_563_21 : decode prog_14_method_115_code 21 = .ok (.dup, 1) := zsh_g zdk_563 (r := 5) (k := 1) rfl rfl rfl
theorem zd_563_22 : decode prog_14_method_115_code 22 = .ok (.getfield 1219, 3) := zsh_g zdk_563 (r := 5) (k := 2) rfl rfl rfl
theorem zd_563_25 : decode prog_14_method_115_code 25 = .ok (.iconst 1, 1) := zsh_g zdk_563 (r := 6) (k := 0) rfl rfl rfl
theorem zd_563_26 : decode prog_14_method_115_code 26 = .ok (.iadd, 1) := zsh_g zdk_563 (r := 6) (k := 1) rfl rfl rfl
theorem zd_563_27 : decode prog_14_method_115_code 27 = .ok (.putfield 1219, 3) := zsh_g zdk_563 (r := 6) (k := 2) rfl rfl rfl
theorem zd_563_30 : decode prog_14_method_115_code 30 = .ok (.aload_n 0, 1) := zsh_g zdk_563 (r := 7) (k := 0) rfl rfl rfl
theorem zd_563_31 : decode prog_14_method_115_code 31 = .ok (.getfield 1219, 3) := zsh_g zdk_563 (r := 7) (k := 1) rfl rfl rfl
theorem zd_563_34 : decode prog_14_method_115_code 34 = .ok (.istore_n 1, 1) := zsh_g zdk_563 (r := 8) (k := 0) rfl rfl rfl
theorem zd_563_35 : decode prog_14_method_115_code 35 = .ok (.lconst 0, 1) := zsh_g zdk_563 (r := 8) (k := 1) rfl rfl rfl
theorem zd_563_36 : decode prog_14_method_115_code 36 = .ok (.lstore_n 2, 1) := zsh_g zdk_563 (r := 9) (k := 0) rfl rfl rfl
theorem zd_563_37 : decode prog_14_method_115_code 37 = .ok (.iconst 0, 1) := zsh_g zdk_563 (r := 9) (k := 1) rfl rfl rfl
theorem zd_563_38 : decode prog_14_method_115_code 38 = .ok (.istore 4, 2) := zsh_g zdk_563 (r := 9) (k := 2) rfl rfl rfl
theorem zd_563_40 : decode prog_14_method_115_code 40 = .ok (.iconst 1, 1) := zsh_g zdk_563 (r := 10) (k := 0) rfl rfl rfl
theorem zd_563_41 : decode prog_14_method_115_code 41 = .ok (.istore 5, 2) := zsh_g zdk_563 (r := 10) (k := 1) rfl rfl rfl
theorem zd_563_43 : decode prog_14_method_115_code 43 = .ok (.aload_n 0, 1) := zsh_g zdk_563 (r := 10) (k := 2) rfl rfl rfl
theorem zd_563_44 : decode prog_14_method_115_code 44 = .ok (.invokevirtual 1222, 3) := zsh_g zdk_563 (r := 11) (k := 0) rfl rfl rfl
theorem zd_563_47 : decode prog_14_method_115_code 47 = .ok (.invokestatic 550, 3) := zsh_g zdk_563 (r := 11) (k := 1) rfl rfl rfl
theorem zd_563_50 : decode prog_14_method_115_code 50 = .ok (.ifCond .ne 13, 3) := zsh_g zdk_563 (r := 12) (k := 0) rfl rfl rfl
theorem zd_563_53 : decode prog_14_method_115_code 53 = .ok (.aload_n 0, 1) := zsh_g zdk_563 (r := 13) (k := 0) rfl rfl rfl
theorem zd_563_54 : decode prog_14_method_115_code 54 = .ok (.invokevirtual 1222, 3) := zsh_g zdk_563 (r := 13) (k := 1) rfl rfl rfl
theorem zd_563_57 : decode prog_14_method_115_code 57 = .ok (.invokestatic 553, 3) := zsh_g zdk_563 (r := 14) (k := 0) rfl rfl rfl
theorem zd_563_60 : decode prog_14_method_115_code 60 = .ok (.ifCond .eq 109, 3) := zsh_g zdk_563 (r := 15) (k := 0) rfl rfl rfl
theorem zd_563_63 : decode prog_14_method_115_code 63 = .ok (.aload_n 0, 1) := zsh_g zdk_563 (r := 15) (k := 1) rfl rfl rfl
theorem zd_563_64 : decode prog_14_method_115_code 64 = .ok (.getfield 1219, 3) := zsh_g zdk_563 (r := 16) (k := 0) rfl rfl rfl
theorem zd_563_67 : decode prog_14_method_115_code 67 = .ok (.iload_n 1, 1) := zsh_g zdk_563 (r := 16) (k := 1) rfl rfl rfl
theorem zd_563_68 : decode prog_14_method_115_code 68 = .ok (.isub, 1) := zsh_g zdk_563 (r := 17) (k := 0) rfl rfl rfl
theorem zd_563_69 : decode prog_14_method_115_code 69 = .ok (.bipush 8, 2) := zsh_g zdk_563 (r := 17) (k := 1) rfl rfl rfl
theorem zd_563_71 : decode prog_14_method_115_code 71 = .ok (.if_icmp .ge 23, 3) := zsh_g zdk_563 (r := 17) (k := 2) rfl rfl rfl
theorem zd_563_74 : decode prog_14_method_115_code 74 = .ok (.lload_n 2, 1) := zsh_g zdk_563 (r := 18) (k := 0) rfl rfl rfl
theorem zd_563_75 : decode prog_14_method_115_code 75 = .ok (.aload_n 0, 1) := zsh_g zdk_563 (r := 18) (k := 1) rfl rfl rfl
theorem zd_563_76 : decode prog_14_method_115_code 76 = .ok (.invokevirtual 1222, 3) := zsh_g zdk_563 (r := 19) (k := 0) rfl rfl rfl
theorem zd_563_79 : decode prog_14_method_115_code 79 = .ok (.i2l, 1) := zsh_g zdk_563 (r := 19) (k := 1) rfl rfl rfl
theorem zd_563_80 : decode prog_14_method_115_code 80 = .ok (.bipush 8, 2) := zsh_g zdk_563 (r := 20) (k := 0) rfl rfl rfl
theorem zd_563_82 : decode prog_14_method_115_code 82 = .ok (.aload_n 0, 1) := zsh_g zdk_563 (r := 20) (k := 1) rfl rfl rfl
theorem zd_563_83 : decode prog_14_method_115_code 83 = .ok (.getfield 1219, 3) := zsh_g zdk_563 (r := 20) (k := 2) rfl rfl rfl
theorem zd_563_86 : decode prog_14_method_115_code 86 = .ok (.iload_n 1, 1) := zsh_g zdk_563 (r := 21) (k := 0) rfl rfl rfl
theorem zd_563_87 : decode prog_14_method_115_code 87 = .ok (.isub, 1) := zsh_g zdk_563 (r := 21) (k := 1) rfl rfl rfl
theorem zd_563_88 : decode prog_14_method_115_code 88 = .ok (.imul, 1) := zsh_g zdk_563 (r := 22) (k := 0) rfl rfl rfl
theorem zd_563_89 : decode prog_14_method_115_code 89 = .ok (.lshl, 1) := zsh_g zdk_563 (r := 22) (k := 1) rfl rfl rfl
theorem zd_563_90 : decode prog_14_method_115_code 90 = .ok (.lor, 1) := zsh_g zdk_563 (r := 22) (k := 2) rfl rfl rfl
theorem zd_563_91 : decode prog_14_method_115_code 91 = .ok (.goto 4, 3) := zsh_g zdk_563 (r := 22) (k := 3) rfl rfl rfl
theorem zd_563_94 : decode prog_14_method_115_code 94 = .ok (.lload_n 2, 1) := zsh_g zdk_563 (r := 23) (k := 0) rfl rfl rfl
theorem zd_563_95 : decode prog_14_method_115_code 95 = .ok (.lstore_n 2, 1) := zsh_g zdk_563 (r := 23) (k := 1) rfl rfl rfl
theorem zd_563_96 : decode prog_14_method_115_code 96 = .ok (.aload_n 0, 1) := zsh_g zdk_563 (r := 24) (k := 0) rfl rfl rfl
theorem zd_563_97 : decode prog_14_method_115_code 97 = .ok (.invokevirtual 1222, 3) := zsh_g zdk_563 (r := 24) (k := 1) rfl rfl rfl
theorem zd_563_100 : decode prog_14_method_115_code 100 = .ok (.invokestatic 553, 3) := zsh_g zdk_563 (r := 25) (k := 0) rfl rfl rfl
theorem zd_563_103 : decode prog_14_method_115_code 103 = .ok (.ifCond .eq 27, 3) := zsh_g zdk_563 (r := 25) (k := 1) rfl rfl rfl
theorem zd_563_106 : decode prog_14_method_115_code 106 = .ok (.iload 4, 2) := zsh_g zdk_563 (r := 26) (k := 0) rfl rfl rfl
theorem zd_563_108 : decode prog_14_method_115_code 108 = .ok (.sipush 1000, 3) := zsh_g zdk_563 (r := 27) (k := 0) rfl rfl rfl
theorem zd_563_111 : decode prog_14_method_115_code 111 = .ok (.if_icmp .ge 19, 3) := zsh_g zdk_563 (r := 27) (k := 1) rfl rfl rfl
theorem zd_563_114 : decode prog_14_method_115_code 114 = .ok (.bipush 10, 2) := zsh_g zdk_563 (r := 28) (k := 0) rfl rfl rfl
theorem zd_563_116 : decode prog_14_method_115_code 116 = .ok (.iload 4, 2) := zsh_g zdk_563 (r := 29) (k := 0) rfl rfl rfl
theorem zd_563_118 : decode prog_14_method_115_code 118 = .ok (.imul, 1) := zsh_g zdk_563 (r := 29) (k := 1) rfl rfl rfl
theorem zd_563_119 : decode prog_14_method_115_code 119 = .ok (.aload_n 0, 1) := zsh_g zdk_563 (r := 29) (k := 2) rfl rfl rfl
theorem zd_563_120 : decode prog_14_method_115_code 120 = .ok (.invokevirtual 1222, 3) := zsh_g zdk_563 (r := 30) (k := 0) rfl rfl rfl
theorem zd_563_123 : decode prog_14_method_115_code 123 = .ok (.iadd, 1) := zsh_g zdk_563 (r := 30) (k := 1) rfl rfl rfl
theorem zd_563_124 : decode prog_14_method_115_code 124 = .ok (.bipush 48, 2) := zsh_g zdk_563 (r := 31) (k := 0) rfl rfl rfl
theorem zd_563_126 : decode prog_14_method_115_code 126 = .ok (.isub, 1) := zsh_g zdk_563 (r := 31) (k := 1) rfl rfl rfl
theorem zd_563_127 : decode prog_14_method_115_code 127 = .ok (.goto 5, 3) := zsh_g zdk_563 (r := 31) (k := 2) rfl rfl rfl
theorem zd_563_130 : decode prog_14_method_115_code 130 = .ok (.iload 4, 2) := zsh_g zdk_563 (r := 32) (k := 0) rfl rfl rfl
theorem zd_563_132 : decode prog_14_method_115_code 132 = .ok (.istore 4, 2) := zsh_g zdk_563 (r := 33) (k := 0) rfl rfl rfl
theorem zd_563_134 : decode prog_14_method_115_code 134 = .ok (.iload 5, 2) := zsh_g zdk_563 (r := 33) (k := 1) rfl rfl rfl
theorem zd_563_136 : decode prog_14_method_115_code 136 = .ok (.ifCond .eq 17, 3) := zsh_g zdk_563 (r := 34) (k := 0) rfl rfl rfl
theorem zd_563_139 : decode prog_14_method_115_code 139 = .ok (.aload_n 0, 1) := zsh_g zdk_563 (r := 34) (k := 1) rfl rfl rfl
theorem zd_563_140 : decode prog_14_method_115_code 140 = .ok (.invokevirtual 1222, 3) := zsh_g zdk_563 (r := 35) (k := 0) rfl rfl rfl
theorem zd_563_143 : decode prog_14_method_115_code 143 = .ok (.invokestatic 553, 3) := zsh_g zdk_563 (r := 35) (k := 1) rfl rfl rfl
theorem zd_563_146 : decode prog_14_method_115_code 146 = .ok (.ifCond .eq 7, 3) := zsh_g zdk_563 (r := 36) (k := 0) rfl rfl rfl
theorem zd_563_149 : decode prog_14_method_115_code 149 = .ok (.iconst 1, 1) := zsh_g zdk_563 (r := 37) (k := 0) rfl rfl rfl
theorem zd_563_150 : decode prog_14_method_115_code 150 = .ok (.goto 4, 3) := zsh_g zdk_563 (r := 37) (k := 1) rfl rfl rfl
theorem zd_563_153 : decode prog_14_method_115_code 153 = .ok (.iconst 0, 1) := zsh_g zdk_563 (r := 38) (k := 0) rfl rfl rfl
theorem zd_563_154 : decode prog_14_method_115_code 154 = .ok (.istore 5, 2) := zsh_g zdk_563 (r := 38) (k := 1) rfl rfl rfl
theorem zd_563_156 : decode prog_14_method_115_code 156 = .ok (.aload_n 0, 1) := zsh_g zdk_563 (r := 39) (k := 0) rfl rfl rfl
theorem zd_563_157 : decode prog_14_method_115_code 157 = .ok (.dup, 1) := zsh_g zdk_563 (r := 39) (k := 1) rfl rfl rfl
theorem zd_563_158 : decode prog_14_method_115_code 158 = .ok (.getfield 1219, 3) := zsh_g zdk_563 (r := 39) (k := 2) rfl rfl rfl
theorem zd_563_161 : decode prog_14_method_115_code 161 = .ok (.iconst 1, 1) := zsh_g zdk_563 (r := 40) (k := 0) rfl rfl rfl
theorem zd_563_162 : decode prog_14_method_115_code 162 = .ok (.iadd, 1) := zsh_g zdk_563 (r := 40) (k := 1) rfl rfl rfl
theorem zd_563_163 : decode prog_14_method_115_code 163 = .ok (.putfield 1219, 3) := zsh_g zdk_563 (r := 40) (k := 2) rfl rfl rfl
theorem zd_563_166 : decode prog_14_method_115_code 166 = .ok (.goto (-123), 3) := zsh_g zdk_563 (r := 41) (k := 0) rfl rfl rfl
theorem zd_563_169 : decode prog_14_method_115_code 169 = .ok (.aload_n 0, 1) := zsh_g zdk_563 (r := 42) (k := 0) rfl rfl rfl
theorem zd_563_170 : decode prog_14_method_115_code 170 = .ok (.getfield 1219, 3) := zsh_g zdk_563 (r := 42) (k := 1) rfl rfl rfl
theorem zd_563_173 : decode prog_14_method_115_code 173 = .ok (.iload_n 1, 1) := zsh_g zdk_563 (r := 43) (k := 0) rfl rfl rfl
theorem zd_563_174 : decode prog_14_method_115_code 174 = .ok (.isub, 1) := zsh_g zdk_563 (r := 43) (k := 1) rfl rfl rfl
theorem zd_563_175 : decode prog_14_method_115_code 175 = .ok (.istore 6, 2) := zsh_g zdk_563 (r := 43) (k := 2) rfl rfl rfl
theorem zd_563_177 : decode prog_14_method_115_code 177 = .ok (.iload 6, 2) := zsh_g zdk_563 (r := 44) (k := 0) rfl rfl rfl
theorem zd_563_179 : decode prog_14_method_115_code 179 = .ok (.ifCond .le 54, 3) := zsh_g zdk_563 (r := 44) (k := 1) rfl rfl rfl
theorem zd_563_182 : decode prog_14_method_115_code 182 = .ok (.iload 5, 2) := zsh_g zdk_563 (r := 45) (k := 0) rfl rfl rfl
theorem zd_563_184 : decode prog_14_method_115_code 184 = .ok (.ifCond .eq 49, 3) := zsh_g zdk_563 (r := 46) (k := 0) rfl rfl rfl
theorem zd_563_187 : decode prog_14_method_115_code 187 = .ok (.aload_n 0, 1) := zsh_g zdk_563 (r := 46) (k := 1) rfl rfl rfl
theorem zd_563_188 : decode prog_14_method_115_code 188 = .ok (.aload_n 0, 1) := zsh_g zdk_563 (r := 47) (k := 0) rfl rfl rfl
theorem zd_563_189 : decode prog_14_method_115_code 189 = .ok (.getfield 1228, 3) := zsh_g zdk_563 (r := 47) (k := 1) rfl rfl rfl
theorem zd_563_192 : decode prog_14_method_115_code 192 = .ok (.ifCond .eq 31, 3) := zsh_g zdk_563 (r := 48) (k := 0) rfl rfl rfl
theorem zd_563_195 : decode prog_14_method_115_code 195 = .ok (.iload 4, 2) := zsh_g zdk_563 (r := 48) (k := 1) rfl rfl rfl
theorem zd_563_197 : decode prog_14_method_115_code 197 = .ok (.bipush 32, 2) := zsh_g zdk_563 (r := 49) (k := 0) rfl rfl rfl
theorem zd_563_199 : decode prog_14_method_115_code 199 = .ok (.if_icmp .ge 24, 3) := zsh_g zdk_563 (r := 49) (k := 1) rfl rfl rfl
theorem zd_563_202 : decode prog_14_method_115_code 202 = .ok (.iload 6, 2) := zsh_g zdk_563 (r := 50) (k := 0) rfl rfl rfl
theorem zd_563_204 : decode prog_14_method_115_code 204 = .ok (.iconst 1, 1) := zsh_g zdk_563 (r := 51) (k := 0) rfl rfl rfl
theorem zd_563_205 : decode prog_14_method_115_code 205 = .ok (.if_icmp .eq 14, 3) := zsh_g zdk_563 (r := 51) (k := 1) rfl rfl rfl
theorem zd_563_208 : decode prog_14_method_115_code 208 = .ok (.aload_n 0, 1) := zsh_g zdk_563 (r := 52) (k := 0) rfl rfl rfl
theorem zd_563_209 : decode prog_14_method_115_code 209 = .ok (.getfield 298, 3) := zsh_g zdk_563 (r := 52) (k := 1) rfl rfl rfl
theorem zd_563_212 : decode prog_14_method_115_code 212 = .ok (.iload_n 1, 1) := zsh_g zdk_563 (r := 53) (k := 0) rfl rfl rfl
theorem zd_563_213 : decode prog_14_method_115_code 213 = .ok (.iaload, 1) := zsh_g zdk_563 (r := 53) (k := 1) rfl rfl rfl
theorem zd_563_214 : decode prog_14_method_115_code 214 = .ok (.bipush 48, 2) := zsh_g zdk_563 (r := 53) (k := 2) rfl rfl rfl
theorem zd_563_216 : decode prog_14_method_115_code 216 = .ok (.if_icmp .eq 7, 3) := zsh_g zdk_563 (r := 54) (k := 0) rfl rfl rfl
theorem zd_563_219 : decode prog_14_method_115_code 219 = .ok (.iconst 1, 1) := zsh_g zdk_563 (r := 54) (k := 1) rfl rfl rfl
theorem zd_563_220 : decode prog_14_method_115_code 220 = .ok (.goto 4, 3) := zsh_g zdk_563 (r := 55) (k := 0) rfl rfl rfl
theorem zd_563_223 : decode prog_14_method_115_code 223 = .ok (.iconst 0, 1) := zsh_g zdk_563 (r := 55) (k := 1) rfl rfl rfl
theorem zd_563_224 : decode prog_14_method_115_code 224 = .ok (.putfield 1228, 3) := zsh_g zdk_563 (r := 56) (k := 0) rfl rfl rfl
theorem zd_563_227 : decode prog_14_method_115_code 227 = .ok (.iload 4, 2) := zsh_g zdk_563 (r := 56) (k := 1) rfl rfl rfl
theorem zd_563_229 : decode prog_14_method_115_code 229 = .ok (.bipush 31, 2) := zsh_g zdk_563 (r := 57) (k := 0) rfl rfl rfl
theorem zd_563_231 : decode prog_14_method_115_code 231 = .ok (.iand, 1) := zsh_g zdk_563 (r := 57) (k := 1) rfl rfl rfl
theorem zd_563_233 : decode prog_14_method_115_code 233 = .ok (.iload 6, 2) := zsh_g zdk_563 (r := 58) (k := 0) rfl rfl rfl
theorem zd_563_235 : decode prog_14_method_115_code 235 = .ok (.ifCond .eq 10, 3) := zsh_g zdk_563 (r := 58) (k := 1) rfl rfl rfl
theorem zd_563_238 : decode prog_14_method_115_code 238 = .ok (.iload 6, 2) := zsh_g zdk_563 (r := 59) (k := 0) rfl rfl rfl
theorem zd_563_240 : decode prog_14_method_115_code 240 = .ok (.bipush 8, 2) := zsh_g zdk_563 (r := 60) (k := 0) rfl rfl rfl
theorem zd_563_242 : decode prog_14_method_115_code 242 = .ok (.if_icmp .le 7, 3) := zsh_g zdk_563 (r := 60) (k := 1) rfl rfl rfl
theorem zd_563_245 : decode prog_14_method_115_code 245 = .ok (.iconst (-1), 1) := zsh_g zdk_563 (r := 61) (k := 0) rfl rfl rfl
theorem zd_563_246 : decode prog_14_method_115_code 246 = .ok (.goto 12, 3) := zsh_g zdk_563 (r := 61) (k := 1) rfl rfl rfl
theorem zd_563_249 : decode prog_14_method_115_code 249 = .ok (.aload_n 0, 1) := zsh_g zdk_563 (r := 62) (k := 0) rfl rfl rfl
theorem zd_563_250 : decode prog_14_method_115_code 250 = .ok (.lload_n 2, 1) := zsh_g zdk_563 (r := 62) (k := 1) rfl rfl rfl
theorem zd_563_251 : decode prog_14_method_115_code 251 = .ok (.lconst 0, 1) := zsh_g zdk_563 (r := 62) (k := 2) rfl rfl rfl
theorem zd_563_252 : decode prog_14_method_115_code 252 = .ok (.invokevirtual 536, 3) := zsh_g zdk_563 (r := 63) (k := 0) rfl rfl rfl
theorem zd_563_255 : decode prog_14_method_115_code 255 = .ok (.bipush 93, 2) := zsh_g zdk_563 (r := 63) (k := 1) rfl rfl rfl
theorem zd_563_257 : decode prog_14_method_115_code 257 = .ok (.isub, 1) := zsh_g zdk_563 (r := 64) (k := 0) rfl rfl rfl
theorem zd_563_258 : decode prog_14_method_115_code 258 = .ok (.istore 7, 2) := zsh_g zdk_563 (r := 64) (k := 1) rfl rfl rfl
theorem zd_563_260 : decode prog_14_method_115_code 260 = .ok (.aload_n 0, 1) := zsh_g zdk_563 (r := 65) (k := 0) rfl rfl rfl
theorem zd_563_261 : decode prog_14_method_115_code 261 = .ok (.aload_n 0, 1) := zsh_g zdk_563 (r := 65) (k := 1) rfl rfl rfl
theorem zd_563_262 : decode prog_14_method_115_code 262 = .ok (.getfield 1228, 3) := zsh_g zdk_563 (r := 65) (k := 2) rfl rfl rfl
theorem zd_563_265 : decode prog_14_method_115_code 265 = .ok (.ifCond .eq 18, 3) := zsh_g zdk_563 (r := 66) (k := 0) rfl rfl rfl
theorem zd_563_268 : decode prog_14_method_115_code 268 = .ok (.iload 7, 2) := zsh_g zdk_563 (r := 67) (k := 0) rfl rfl rfl
theorem zd_563_270 : decode prog_14_method_115_code 270 = .ok (.iconst 0, 1) := zsh_g zdk_563 (r := 67) (k := 1) rfl rfl rfl
theorem zd_563_271 : decode prog_14_method_115_code 271 = .ok (.bipush 31, 2) := zsh_g zdk_563 (r := 67) (k := 2) rfl rfl rfl
theorem zd_563_273 : decode prog_14_method_115_code 273 = .ok (.invokestatic 504, 3) := zsh_g zdk_563 (r := 68) (k := 0) rfl rfl rfl
theorem zd_563_276 : decode prog_14_method_115_code 276 = .ok (.ifCond .eq 7, 3) := zsh_g zdk_563 (r := 69) (k := 0) rfl rfl rfl
theorem zd_563_279 : decode prog_14_method_115_code 279 = .ok (.iconst 1, 1) := zsh_g zdk_563 (r := 69) (k := 1) rfl rfl rfl
theorem zd_563_280 : decode prog_14_method_115_code 280 = .ok (.goto 4, 3) := zsh_g zdk_563 (r := 70) (k := 0) rfl rfl rfl
theorem zd_563_283 : decode prog_14_method_115_code 283 = .ok (.iconst 0, 1) := zsh_g zdk_563 (r := 70) (k := 1) rfl rfl rfl
theorem zd_563_284 : decode prog_14_method_115_code 284 = .ok (.putfield 1228, 3) := zsh_g zdk_563 (r := 71) (k := 0) rfl rfl rfl
theorem zd_563_287 : decode prog_14_method_115_code 287 = .ok (.iload 7, 2) := zsh_g zdk_563 (r := 71) (k := 1) rfl rfl rfl
theorem zd_563_289 : decode prog_14_method_115_code 289 = .ok (.bipush 31, 2) := zsh_g zdk_563 (r := 72) (k := 0) rfl rfl rfl
theorem zd_563_291 : decode prog_14_method_115_code 291 = .ok (.iand, 1) := zsh_g zdk_563 (r := 72) (k := 1) rfl rfl rfl
def zdl_564 : List (List (Nat × Instr × Nat)) := [[(0, (.aload_n 0), 1), (1, (.invokevirtual 1225), 3)], [(0, (.aload_n 0), 1), (1, (.aload_n 0), 1), (2, (.getfield 1228), 3)], [(1, (.ifCond .eq 15), 3)], [(0, (.aload_n 0), 1), (1, (.invokevirtual 1222), 3)], [(0, (.iload_n 1), 1), (1, (.if_icmp .ne 7), 3)], [(0, (.iconst 1), 1), (1, (.goto 4), 3)], [(0, (.iconst 0), 1), (1, (.putfield 1228), 3)], [(0, (.aload_n 0), 1), (1, .dup, 1), (2, (.getfield 1219), 3)], [(1, (.iconst 1), 1), (2, .iadd, 1), (3, (.putfield 1219), 3)]]
theorem zdk_564 : zsh_all 8 zdl_564 prog_14_method_111_code.data.toList = true := by decide +kernel
theorem zd_564_0 : decode prog_14_method_111_code 0 = .ok (.aload_n 0, 1) := zsh_g zdk_564 (r := 0) (k := 0) rfl rfl rfl
theorem zd_564_1 : decode prog_14_method_111_code 1 = .ok (.invokevirtual 1225, 3) := zsh_g zdk_564 (r := 0) (k := 1) rfl rfl rfl
theorem zd_564_4 : decode prog_14_method_111_code 4 = .ok (.aload_n 0, 1) := zsh_g zdk_564 (r := 1) (k := 0) rfl rfl rfl
theorem zd_564_5 : decode prog_14_method_111_code 5 = .ok (.aload_n 0, 1) := zsh_g zdk_564 (r := 1) (k := 1) rfl rfl rfl
theorem zd_564_6 : decode prog_14_method_111_code 6 = .ok (.getfield 1228, 3) := zsh_g zdk_564 (r := 1) (k := 2) rfl rfl rfl
theorem zd_564_9 : decode prog_14_method_111_code 9 = .ok (.ifCond .eq 15, 3) := zsh_g zdk_564 (r := 2) (k := 0) rfl rfl rfl
theorem zd_564_12 : decode prog_14_method_111_code 12 = .ok (.aload_n 0, 1) := zsh_g zdk_564 (r := 3) (k := 0) rfl rfl rfl
theorem zd_564_13 : decode prog_14_method_111_code 13 = .ok (.invokevirtual 1222, 3) := zsh_g zdk_564 (r := 3) (k := 1) rfl rfl rfl
theorem zd_564_16 : decode prog_14_method_111_code 16 = .ok (.iload_n 1, 1) := zsh_g zdk_564 (r := 4) (k := 0) rfl rfl rfl
theorem zd_564_17 : decode prog_14_method_111_code 17 = .ok (.if_icmp .ne 7, 3) := zsh_g zdk_564 (r := 4) (k := 1) rfl rfl rfl
theorem zd_564_20 : decode prog_14_method_111_code 20 = .ok (.iconst 1, 1) := zsh_g zdk_564 (r := 5) (k := 0) rfl rfl rfl
theorem zd_564_21 : decode prog_14_method_111_code 21 = .ok (.goto 4, 3) := zsh_g zdk_564 (r := 5) (k := 1) rfl rfl rfl
theorem zd_564_24 : decode prog_14_method_111_code 24 = .ok (.iconst 0, 1) := zsh_g zdk_564 (r := 6) (k := 0) rfl rfl rfl
theorem zd_564_25 : decode prog_14_method_111_code 25 = .ok (.putfield 1228, 3) := zsh_g zdk_564 (r := 6) (k := 1) rfl rfl rfl
theorem zd_564_28 : decode prog_14_method_111_code 28 = .ok (.aload_n 0, 1) := zsh_g zdk_564 (r := 7) (k := 0) rfl rfl rfl
theorem zd_564_29 : decode prog_14_method_111_code 29 = .ok (.dup, 1) := zsh_g zdk_564 (r := 7) (k := 1) rfl rfl rfl
theorem zd_564_30 : decode prog_14_method_111_code 30 = .ok (.getfield 1219, 3) := zsh_g zdk_564 (r := 7) (k := 2) rfl rfl rfl
theorem zd_564_33 : decode prog_14_method_111_code 33 = .ok (.iconst 1, 1) := zsh_g zdk_564 (r := 8) (k := 0) rfl rfl rfl
theorem zd_564_34 : decode prog_14_method_111_code 34 = .ok (.iadd, 1) := zsh_g zdk_564 (r := 8) (k := 1) rfl rfl rfl
theorem zd_564_35 : decode prog_14_method_111_code 35 = .ok (.putfield 1219, 3) := zsh_g zdk_564 (r := 8) (k := 2) rfl rfl rfl
def zdl_565 : List (List (Nat × Instr × Nat)) := [[(0, (.aload_n 0), 1), (1, (.invokevirtual 1263), 3)], [(0, (.aload_n 0), 1), (1, (.aload_n 0), 1), (2, (.getfield 1228), 3)], [(1, (.ifCond .eq 36), 3)], [(0, (.iload_n 1), 1), (1, (.ifCond .eq 28), 3)], [(0, (.iload_n 1), 1), (1, (.iconst 1), 1), (2, (.if_icmp .ne 7), 3)], [(1, (.iconst 1), 1), (2, (.goto 4), 3)], [(1, (.iconst 0), 1), (2, (.aload_n 0), 1), (3, (.getfield 1234), 3)], [(2, (.ifCond .ne 7), 3)], [(1, (.iconst 1), 1), (2, (.goto 4), 3)], [(1, (.iconst 0), 1), (2, (.if_icmp .ne 7), 3)], [(1, (.iconst 1), 1), (2, (.goto 4), 3)], [(1, (.iconst 0), 1), (2, (.putfield 1228), 3)], [(1, (.aload_n 0), 1), (2, (.iconst 0), 1), (3, (.invokevirtual 1266), 3)]]
theorem zdk_565 : zsh_all 8 zdl_565 prog_14_method_121_code.data.toList = true := by decide +kernel
theorem zd_565_0 : decode prog_14_method_121_code 0 = .ok (.aload_n 0, 1) := zsh_g zdk_565 (r := 0) (k := 0) rfl rfl rfl
theorem zd_565_1 : decode prog_14_method_121_code 1 = .ok (.invokevirtual 1263, 3) := zsh_g zdk_565 (r := 0) (k := 1) rfl rfl rfl
theorem zd_565_4 : decode prog_14_method_121_code 4 = .ok (.aload_n 0, 1) := zsh_g zdk_565 (r := 1) (k := 0) rfl rfl rfl
theorem zd_565_5 : decode prog_14_method_121_code 5 = .ok (.aload_n 0, 1) := zsh_g zdk_565 (r := 1) (k := 1) rfl rfl rfl
theorem zd_565_6 : decode prog_14_method_121_code 6 = .ok (.getfield 1228, 3) := zsh_g zdk_565 (r := 1) (k := 2) rfl rfl rfl
theorem zd_565_9 : decode prog_14_method_121_code 9 = .ok (.ifCond .eq 36, 3) := zsh_g zdk_565 (r := 2) (k := 0) rfl rfl rfl
theorem zd_565_12 : decode prog_14_method_121_code 12 = .ok (.iload_n 1, 1) := zsh_g zdk_565 (r := 3) (k := 0) rfl rfl rfl
theorem zd_565_13 : decode prog_14_method_121_code 13 = .ok (.ifCond .eq 28, 3) := zsh_g zdk_565 (r := 3) (k := 1) rfl rfl rfl
theorem zd_565_16 : decode prog_14_method_121_code 16 = .ok (.iload_n 1, 1) := zsh_g zdk_565 (r := 4) (k := 0) rfl rfl rfl
theorem zd_565_17 : decode prog_14_method_121_code 17 = .ok (.iconst 1, 1) := zsh_g zdk_565 (r := 4) (k := 1) rfl rfl rfl
theorem zd_565_18 : decode prog_14_method_121_code 18 = .ok (.if_icmp .ne 7, 3) := zsh_g zdk_565 (r := 4) (k := 2) rfl rfl rfl
theorem zd_565_21 : decode prog_14_method_121_code 21 = .ok (.iconst 1, 1) := zsh_g zdk_565 (r := 5) (k := 0) rfl rfl rfl
theorem zd_565_22 : decode prog_14_method_121_code 22 = .ok (.goto 4, 3) := zsh_g zdk_565 (r := 5) (k := 1) rfl rfl rfl
theorem zd_565_25 : decode prog_14_method_121_code 25 = .ok (.iconst 0, 1) := zsh_g zdk_565 (r := 6) (k := 0) rfl rfl rfl
theorem zd_565_26 : decode prog_14_method_121_code 26 = .ok (.aload_n 0, 1) := zsh_g zdk_565 (r := 6) (k := 1) rfl rfl rfl
theorem zd_565_27 : decode prog_14_method_121_code 27 = .ok (.getfield 1234, 3) := zsh_g zdk_565 (r := 6) (k := 2) rfl rfl rfl
theorem zd_565_30 : decode prog_14_method_121_code 30 = .ok (.ifCond .ne 7, 3) := zsh_g zdk_565 (r := 7) (k := 0) rfl rfl rfl
theorem zd_565_33 : decode prog_14_method_121_code 33 = .ok (.iconst 1, 1) := zsh_g zdk_565 (r := 8) (k := 0) rfl rfl rfl
theorem zd_565_34 : decode prog_14_method_121_code 34 = .ok (.goto 4, 3) := zsh_g zdk_565 (r := 8) (k := 1) rfl rfl rfl
theorem zd_565_37 : decode prog_14_method_121_code 37 = .ok (.iconst 0, 1) := zsh_g zdk_565 (r := 9) (k := 0) rfl rfl rfl
theorem zd_565_38 : decode prog_14_method_121_code 38 = .ok (.if_icmp .ne 7, 3) := zsh_g zdk_565 (r := 9) (k := 1) rfl rfl rfl
theorem zd_565_41 : decode prog_14_method_121_code 41 = .ok (.iconst 1, 1) := zsh_g zdk_565 (r := 10) (k := 0) rfl rfl rfl
theorem zd_565_42 : decode prog_14_method_121_code 42 = .ok (.goto 4, 3) := zsh_g zdk_565 (r := 10) (k := 1) rfl rfl rfl
theorem zd_565_45 : decode prog_14_method_121_code 45 = .ok (.iconst 0, 1) := zsh_g zdk_565 (r := 11) (k := 0) rfl rfl rfl
theorem zd_565_46 : decode prog_14_method_121_code 46 = .ok (.putfield 1228, 3) := zsh_g zdk_565 (r := 11) (k := 1) rfl rfl rfl
theorem zd_565_49 : decode prog_14_method_121_code 49 = .ok (.aload_n 0, 1) := zsh_g zdk_565 (r := 12) (k := 0) rfl rfl rfl
theorem zd_565_50 : decode prog_14_method_121_code 50 = .ok (.iconst 0, 1) := zsh_g zdk_565 (r := 12) (k := 1) rfl rfl rfl
theorem zd_565_51 : decode prog_14_method_121_code 51 = .ok (.invokevirtual 1266, 3) := zsh_g zdk_565 (r := 12) (k := 2) rfl rfl rfl
def zdl_566 : List (List (Nat × Instr × Nat)) := [[(0, (.aload_n 0), 1), (1, (.invokevirtual 1225), 3)], [(0, (.aload_n 0), 1), (1, (.invokevirtual 1222), 3)], [(0, (.bipush 37), 2), (2, (.if_icmp .eq 5), 3)], [(1, (.iconst 0), 1), (3, (.aload_n 0), 1)], [(0, (.getfield 1219), 3), (3, (.iconst 2), 1)], [(0, .iadd, 1), (1, (.aload_n 0), 1), (2, (.getfield 1204), 3)], [(1, (.if_icmp .ge 39), 3)], [(0, (.aload_n 0), 1), (1, (.getfield 298), 3)], [(0, (.aload_n 0), 1), (1, (.getfield 1219), 3)], [(0, (.iconst 1), 1), (1, .iadd, 1), (2, .iaload, 1), (3, (.bipush 104), 2)], [(1, (.if_icmp .ne 23), 3)], [(0, (.aload_n 0), 1), (1, (.getfield 298), 3)], [(0, (.aload_n 0), 1), (1, (.getfield 1219), 3)], [(0, (.iconst 2), 1), (1, .iadd, 1), (2, .iaload, 1), (3, (.bipush 105), 2)], [(1, (.if_icmp .ne 7), 3)], [(0, (.iconst 1), 1), (1, (.goto 4), 3)], [(0, (.iconst 0), 1), (1, (.istore_n 2), 1), (2, (.aload_n 0), 1), (3, (.getfield 1219), 3)], [(2, (.iconst 2), 1), (3, .iadd, 1)], [(0, (.aload_n 0), 1), (1, (.getfield 1204), 3)], [(0, (.if_icmp .ge 39), 3), (3, (.aload_n 0), 1)], [(0, (.getfield 298), 3), (3, (.aload_n 0), 1)], [(0, (.getfield 1219), 3), (3, (.iconst 1), 1)], [(0, .iadd, 1), (1, .iaload, 1), (2, (.bipush 108), 2)], [(0, (.if_icmp .ne 23), 3), (3, (.aload_n 0), 1)], [(0, (.getfield 298), 3), (3, (.aload_n 0), 1)], [(0, (.getfield 1219), 3), (3, (.iconst 2), 1)], [(0, .iadd, 1), (1, .iaload, 1), (2, (.bipush 111), 2)], [(0, (.if_icmp .ne 7), 3), (3, (.iconst 1), 1)], [(0, (.goto 4), 3), (3, (.iconst 0), 1)], [(0, (.istore_n 3), 1), (1, (.aload_n 0), 1), (2, (.aload_n 0), 1), (3, (.getfield 1219), 3)], [(2, (.iconst 3), 1), (3, .iadd, 1)], [(0, (.putfield 1219), 3), (3, (.aload_n 0), 1)], [(0, (.aload_n 0), 1), (1, (.getfield 1228), 3)], [(0, (.ifCond .eq 33), 3), (3, (.iload_n 1), 1)], [(0, (.iconst 1), 1), (1, (.if_icmp .ne 10), 3)], [(0, (.iload_n 2), 1), (1, (.ifCond .eq 24), 3)], [(0, (.goto 7), 3), (3, (.iload_n 3), 1)], [(0, (.ifCond .eq 17), 3), (3, (.aload_n 0), 1)], [(0, (.invokevirtual 1222), 3), (3, (.invokestatic 1201), 3)], [(2, (.ifCond .ne 7), 3)], [(1, (.iconst 1), 1), (2, (.goto 4), 3)], [(1, (.iconst 0), 1), (2, (.putfield 1228), 3)], [(1, (.aload_n 0), 1), (2, (.bipush 40), 2)], [(0, (.invokevirtual 1269), 3), (3, (.aload_n 0), 1)], [(0, (.invokevirtual 1263), 3), (3, (.aload_n 0), 1)], [(0, (.bipush 41), 2), (2, (.invokevirtual 1269), 3)], [(1, (.aload_n 0), 1), (2, (.iload_n 1), 1), (3, (.invokevirtual 1266), 3)], [(2, (.iconst 1), 1)]]
theorem zdk_566 : zsh_all 8 zdl_566 prog_14_method_122_code.data.toList = true := by decide +kernel
theorem zd_566_0 : decode prog_14_method_122_code 0 = .ok (.aload_n 0, 1) := zsh_g zdk_566 (r := 0) (k := 0) rfl rfl rfl
theorem zd_566_1 : decode prog_14_method_122_code 1 = .ok (.invokevirtual 1225, 3) := zsh_g zdk_566 (r := 0) (k := 1) rfl rfl rfl
theorem zd_566_4 : decode prog_14_method_122_code 4 = .ok (.aload_n 0, 1) := zsh_g zdk_566 (r := 1) (k := 0) rfl rfl rfl
theorem zd_566_5 : decode prog_14_method_122_code 5 = .ok (.invokevirtual 1222, 3) := zsh_g zdk_566 (r := 1) (k := 1) rfl rfl rfl
theorem zd_566_8 : decode prog_14_method_122_code 8 = .ok (.bipush 37, 2) := zsh_g zdk_566 (r := 2) (k := 0) rfl rfl rfl
theorem zd_566_10 : decode prog_14_method_122_code 10 = .ok (.if_icmp .eq 5, 3) := zsh_g zdk_566 (r := 2) (k := 1) rfl rfl rfl
theorem zd_566_13 : decode prog_14_method_122_code 13 = .ok (.iconst 0, 1) := zsh_g zdk_566 (r := 3) (k := 0) rfl rfl rfl
theorem zd_566_15 : decode prog_14_method_122_code 15 = .ok (.aload_n 0, 1) := zsh_g zdk_566 (r := 3) (k := 1) rfl rfl rfl
theorem zd_566_16 : decode prog_14_method_122_code 16 = .ok (.getfield 1219, 3) := zsh_g zdk_566 (r := 4) (k := 0) rfl rfl rfl
theorem zd_566_19 : decode prog_14_method_122_code 19 = .ok (.iconst 2, 1) := zsh_g zdk_566 (r := 4) (k := 1) rfl rfl rfl
theorem zd_566_20 : decode prog_14_method_122_code 20 = .ok (.iadd, 1) := zsh_g zdk_566 (r := 5) (k := 0) rfl rfl rfl
theorem zd_566_21 : decode prog_14_method_122_code 21 = .ok (.aload_n 0, 1) := zsh_g zdk_566 (r := 5) (k := 1) rfl rfl rfl
theorem zd_566_22 : decode prog_14_method_122_code 22 = .ok (.getfield 1204, 3) := zsh_g zdk_566 (r := 5) (k := 2) rfl rfl rfl
theorem zd_566_25 : decode prog_14_method_122_code 25 = .ok (.if_icmp .ge 39, 3) := zsh_g zdk_566 (r := 6) (k := 0) rfl rfl rfl
theorem zd_566_28 : decode prog_14_method_122_code 28 = .ok (.aload_n 0, 1) := zsh_g zdk_566 (r := 7) (k := 0) rfl rfl rfl
theorem zd_566_29 : decode prog_14_method_122_code 29 = .ok (.getfield 298, 3) := zsh_g zdk_566 (r := 7) (k := 1) rfl rfl rfl
theorem zd_566_32 : decode prog_14_method_122_code 32 = .ok (.aload_n 0, 1) := zsh_g zdk_566 (r := 8) (k := 0) rfl rfl rfl
theorem zd_566_33 : decode prog_14_method_122_code 33 = .ok (.getfield 1219, 3) := zsh_g zdk_566 (r := 8) (k := 1) rfl rfl rfl
theorem zd_566_36 : decode prog_14_method_122_code 36 = .ok (.iconst 1, 1) := zsh_g zdk_566 (r := 9) (k := 0) rfl rfl rfl
theorem zd_566_37 : decode prog_14_method_122_code 37 = .ok (.iadd, 1) := zsh_g zdk_566 (r := 9) (k := 1) rfl rfl rfl
theorem zd_566_38 : decode prog_14_method_122_code 38 = .ok (.iaload, 1) := zsh_g zdk_566 (r := 9) (k := 2) rfl rfl rfl
theorem zd_566_39 : decode prog_14_method_122_code 39 = .ok (.bipush 104, 2) := zsh_g zdk_566 (r := 9) (k := 3) rfl rfl rfl
theorem zd_566_41 : decode prog_14_method_122_code 41 = .ok (.if_icmp .ne 23, 3) := zsh_g zdk_566 (r := 10) (k := 0) rfl rfl rfl
theorem zd_566_44 : decode prog_14_method_122_code 44 = .ok (.aload_n 0, 1) := zsh_g zdk_566 (r := 11) (k := 0) rfl rfl rfl
theorem zd_566_45 : decode prog_14_method_122_code 45 = .ok (.getfield 298, 3) := zsh_g zdk_566 (r := 11) (k := 1) rfl rfl rfl
theorem zd_566_48 : decode prog_14_method_122_code 48 = .ok (.aload_n 0, 1) := zsh_g zdk_566 (r := 12) (k := 0) rfl rfl rfl
theorem zd_566_49 : decode prog_14_method_122_code 49 = .ok (.getfield 1219, 3) := zsh_g zdk_566 (r := 12) (k := 1) rfl rfl rfl
theorem zd_566_52 : decode prog_14_method_122_code 52 = .ok (.iconst 2, 1) := zsh_g zdk_566 (r := 13) (k := 0) rfl rfl rfl
theorem zd_566_53 : decode prog_14_method_122_code 53 = .ok (.iadd, 1) := zsh_g zdk_566 (r := 13) (k := 1) rfl rfl rfl
theorem zd_566_54 : decode prog_14_method_122_code 54 = .ok (.iaload, 1) := zsh_g zdk_566 (r := 13) (k := 2) rfl rfl rfl
theorem zd_566_55 : decode prog_14_method_122_code 55 = .ok (.bipush 105, 2) := zsh_g zdk_566 (r := 13) (k := 3) rfl rfl rfl
theorem zd_566_57 : decode prog_14_method_122_code 57 = .ok (.if_icmp .ne 7, 3) := zsh_g zdk_566 (r := 14) (k := 0) rfl rfl rfl
theorem zd_566_60 : decode prog_14_method_122_code 60 = .ok (.iconst 1, 1) := zsh_g zdk_566 (r := 15) (k := 0) rfl rfl rfl
theorem zd_566_61 : decode prog_14_method_122_code 61 = .ok (.goto 4, 3) := zsh_g zdk_566 (r := 15) (k := 1) rfl rfl rfl
theorem zd_566_64 : decode prog_14_method_122_code 64 = .ok (.iconst 0, 1) := zsh_g zdk_566 (r := 16) (k := 0) rfl rfl rfl
theorem zd_566_65 : decode prog_14_method_122_code 65 = .ok (.istore_n 2, 1) := zsh_g zdk_566 (r := 16) (k := 1) rfl rfl rfl
theorem zd_566_66 : decode prog_14_method_122_code 66 = .ok (.aload_n 0, 1) := zsh_g zdk_566 (r := 16) (k := 2) rfl rfl rfl
theorem zd_566_67 : decode prog_14_method_122_code 67 = .ok (.getfield 1219, 3) := zsh_g zdk_566 (r := 16) (k := 3) rfl rfl rfl
theorem zd_566_70 : decode prog_14_method_122_code 70 = .ok (.iconst 2, 1) := zsh_g zdk_566 (r := 17) (k := 0) rfl rfl rfl
theorem zd_566_71 : decode prog_14_method_122_code 71 = .ok (.iadd, 1) := zsh_g zdk_566 (r := 17) (k := 1) rfl rfl rfl
theorem zd_566_72 : decode prog_14_method_122_code 72 = .ok (.aload_n 0, 1) := zsh_g zdk_566 (r := 18) (k := 0) rfl rfl rfl
theorem zd_566_73 : decode prog_14_method_122_code 73 = .ok (.getfield 1204, 3) := zsh_g zdk_566 (r := 18) (k := 1) rfl rfl rfl
theorem zd_566_76 : decode prog_14_method_122_code 76 = .ok (.if_icmp .ge 39, 3) := zsh_g zdk_566 (r := 19) (k := 0) rfl rfl rfl
theorem zd_566_79 : decode prog_14_method_122_code 79 = .ok (.aload_n 0, 1) := zsh_g zdk_566 (r := 19) (k := 1) rfl rfl rfl
theorem zd_566_80 : decode prog_14_method_122_code 80 = .ok (.getfield 298, 3) := zsh_g zdk_566 (r := 20) (k := 0) rfl rfl rfl
theorem zd_566_83 : decode prog_14_method_122_code 83 = .ok (.aload_n 0, 1) := zsh_g zdk_566 (r := 20) (k := 1) rfl rfl rfl
theorem zd_566_84 : decode prog_14_method_122_code 84 = .ok (.getfield 1219, 3) := zsh_g zdk_566 (r := 21) (k := 0) rfl rfl rfl
theorem zd_566_87 : decode prog_14_method_122_code 87 = .ok (.iconst 1, 1) := zsh_g zdk_566 (r := 21) (k := 1) rfl rfl rfl
theorem zd_566_88 : decode prog_14_method_122_code 88 = .ok (.iadd, 1) := zsh_g zdk_566 (r := 22) (k := 0) rfl rfl rfl
theorem zd_566_89 : decode prog_14_method_122_code 89 = .ok (.iaload, 1) := zsh_g zdk_566 (r := 22) (k := 1) rfl rfl rfl
theorem zd_566_90 : decode prog_14_method_122_code 90 = .ok (.bipush 108, 2) := zsh_g zdk_566 (r := 22) (k := 2) rfl rfl rfl
theorem zd_566_92 : decode prog_14_method_122_code 92 = .ok (.if_icmp .ne 23, 3) := zsh_g zdk_566 (r := 23) (k := 0) rfl rfl rfl
theorem zd_566_95 : decode prog_14_method_122_code 95 = .ok (.aload_n 0, 1) := zsh_g zdk_566 (r := 23) (k := 1) rfl rfl rfl
theorem zd_566_96 : decode prog_14_method_122_code 96 = .ok (.getfield 298, 3) := zsh_g zdk_566 (r := 24) (k := 0) rfl rfl rfl
theorem zd_566_99 : decode prog_14_method_122_code 99 = .ok (.aload_n 0, 1) := zsh_g zdk_566 (r := 24) (k := 1) rfl rfl rfl
theorem zd_566_100 : decode prog_14_method_122_code 100 = .ok (.getfield 1219, 3) := zsh_g zdk_566 (r := 25) (k := 0) rfl rfl rfl
theorem zd_566_103 : decode prog_14_method_122_code 103 = .ok (.iconst 2, 1) := zsh_g zdk_566 (r := 25) (k := 1) rfl rfl rfl
theorem zd_566_104 : decode prog_14_method_122_code 104 = .ok (.iadd, 1) := zsh_g zdk_566 (r := 26) (k := 0) rfl rfl rfl
theorem zd_566_105 : decode prog_14_method_122_code 105 = .ok (.iaload, 1) := zsh_g zdk_566 (r := 26) (k := 1) rfl rfl rfl
theorem zd_566_106 : decode prog_14_method_122_code 106 = .ok (.bipush 111, 2) := zsh_g zdk_566 (r := 26) (k := 2) rfl rfl rfl
theorem zd_566_108 : decode prog_14_method_122_code 108 = .ok (.if_icmp .ne 7, 3) := zsh_g zdk_566 (r := 27) (k := 0) rfl rfl rfl
theorem zd_566_111 : decode prog_14_method_122_code 111 = .ok (.iconst 1, 1) := zsh_g zdk_566 (r := 27) (k := 1) rfl rfl rfl
theorem zd_566_112 : decode prog_14_method_122_code 112 = .ok (.goto 4, 3) := zsh_g zdk_566 (r := 28) (k := 0) rfl rfl rfl
theorem zd_566_115 : decode prog_14_method_122_code 115 = .ok (.iconst 0, 1) := zsh_g zdk_566 (r := 28) (k := 1) rfl rfl rfl
theorem zd_566_116 : decode prog_14_method_122_code 116 = .ok (.istore_n 3, 1) := zsh_g zdk_566 (r := 29) (k := 0) rfl rfl rfl
theorem zd_566_117 : decode prog_14_method_122_code 117 = .ok (.aload_n 0, 1) := zsh_g zdk_566 (r := 29) (k := 1) rfl rfl rfl
theorem zd_566_118 : decode prog_14_method_122_code 118 = .ok (.aload_n 0, 1) := zsh_g zdk_566 (r := 29) (k := 2) rfl rfl rfl
theorem zd_566_119 : decode prog_14_method_122_code 119 = .ok (.getfield 1219, 3) := zsh_g zdk_566 (r := 29) (k := 3) rfl rfl rfl
theorem zd_566_122 : decode prog_14_method_122_code 122 = .ok (.iconst 3, 1) := zsh_g zdk_566 (r := 30) (k := 0) rfl rfl rfl
theorem zd_566_123 : decode prog_14_method_122_code 123 = .ok (.iadd, 1) := zsh_g zdk_566 (r := 30) (k := 1) rfl rfl rfl
theorem zd_566_124 : decode prog_14_method_122_code 124 = .ok (.putfield 1219, 3) := zsh_g zdk_566 (r := 31) (k := 0) rfl rfl rfl
theorem zd_566_127 : decode prog_14_method_122_code 127 = .ok (.aload_n 0, 1) := zsh_g zdk_566 (r := 31) (k := 1) rfl rfl rfl
theorem zd_566_128 : decode prog_14_method_122_code 128 = .ok (.aload_n 0, 1) := zsh_g zdk_566 (r := 32) (k := 0) rfl rfl rfl
theorem zd_566_129 : decode prog_14_method_122_code 129 = .ok (.getfield 1228, 3) := zsh_g zdk_566 (r := 32) (k := 1) rfl rfl rfl
theorem zd_566_132 : decode prog_14_method_122_code 132 = .ok (.ifCond .eq 33, 3) := zsh_g zdk_566 (r := 33) (k := 0) rfl rfl rfl
theorem zd_566_135 : decode prog_14_method_122_code 135 = .ok (.iload_n 1, 1) := zsh_g zdk_566 (r := 33) (k := 1) rfl rfl rfl
theorem zd_566_136 : decode prog_14_method_122_code 136 = .ok (.iconst 1, 1) := zsh_g zdk_566 (r := 34) (k := 0) rfl rfl rfl
theorem zd_566_137 : decode prog_14_method_122_code 137 = .ok (.if_icmp .ne 10, 3) := zsh_g zdk_566 (r := 34) (k := 1) rfl rfl rfl
theorem zd_566_140 : decode prog_14_method_122_code 140 = .ok (.iload_n 2, 1) := zsh_g zdk_566 (r := 35) (k := 0) rfl rfl rfl
theorem zd_566_141 : decode prog_14_method_122_code 141 = .ok (.ifCond .eq 24, 3) := zsh_g zdk_566 (r := 35) (k := 1) rfl rfl rfl
theorem zd_566_144 : decode prog_14_method_122_code 144 = .ok (.goto 7, 3) := zsh_g zdk_566 (r := 36) (k := 0) rfl rfl rfl
theorem zd_566_147 : decode prog_14_method_122_code 147 = .ok (.iload_n 3, 1) := zsh_g zdk_566 (r := 36) (k := 1) rfl rfl rfl
theorem zd_566_148 : decode prog_14_method_122_code 148 = .ok (.ifCond .eq 17, 3) := zsh_g zdk_566 (r := 37) (k := 0) rfl rfl rfl
theorem zd_566_151 : decode prog_14_method_122_code 151 = .ok (.aload_n 0, 1) := zsh_g zdk_566 (r := 37) (k := 1) rfl rfl rfl
theorem zd_566_152 : decode prog_14_method_122_code 152 = .ok (.invokevirtual 1222, 3) := zsh_g zdk_566 (r := 38) (k := 0) rfl rfl rfl
theorem zd_566_155 : decode prog_14_method_122_code 155 = .ok (.invokestatic 1201, 3) := zsh_g zdk_566 (r := 38) (k := 1) rfl rfl rfl
theorem zd_566_158 : decode prog_14_method_122_code 158 = .ok (.ifCond .ne 7, 3) := zsh_g zdk_566 (r := 39) (k := 0) rfl rfl rfl
theorem zd_566_161 : decode prog_14_method_122_code 161 = .ok (.iconst 1, 1) := zsh_g zdk_566 (r := 40) (k := 0) rfl rfl rfl
theorem zd_566_162 : decode prog_14_method_122_code 162 = .ok (.goto 4, 3) := zsh_g zdk_566 (r := 40) (k := 1) rfl rfl rfl
theorem zd_566_165 : decode prog_14_method_122_code 165 = .ok (.iconst 0, 1) := zsh_g zdk_566 (r := 41) (k := 0) rfl rfl rfl
theorem zd_566_166 : decode prog_14_method_122_code 166 = .ok (.putfield 1228, 3) := zsh_g zdk_566 (r := 41) (k := 1) rfl rfl rfl
theorem zd_566_169 : decode prog_14_method_122_code 169 = .ok (.aload_n 0, 1) := zsh_g zdk_566 (r := 42) (k := 0) rfl rfl rfl
theorem zd_566_170 : decode prog_14_method_122_code 170 = .ok (.bipush 40, 2) := zsh_g zdk_566 (r := 42) (k := 1) rfl rfl rfl
theorem zd_566_172 : decode prog_14_method_122_code 172 = .ok (.invokevirtual 1269, 3) := zsh_g zdk_566 (r := 43) (k := 0) rfl rfl rfl
theorem zd_566_175 : decode prog_14_method_122_code 175 = .ok (.aload_n 0, 1) := zsh_g zdk_566 (r := 43) (k := 1) rfl rfl rfl
theorem zd_566_176 : decode prog_14_method_122_code 176 = .ok (.invokevirtual 1263, 3) := zsh_g zdk_566 (r := 44) (k := 0) rfl rfl rfl
theorem zd_566_179 : decode prog_14_method_122_code 179 = .ok (.aload_n 0, 1) := zsh_g zdk_566 (r := 44) (k := 1) rfl rfl rfl
theorem zd_566_180 : decode prog_14_method_122_code 180 = .ok (.bipush 41, 2) := zsh_g zdk_566 (r := 45) (k := 0) rfl rfl rfl
theorem zd_566_182 : decode prog_14_method_122_code 182 = .ok (.invokevirtual 1269, 3) := zsh_g zdk_566 (r := 45) (k := 1) rfl rfl rfl
theorem zd_566_185 : decode prog_14_method_122_code 185 = .ok (.aload_n 0, 1) := zsh_g zdk_566 (r := 46) (k := 0) rfl rfl rfl
theorem zd_566_186 : decode prog_14_method_122_code 186 = .ok (.iload_n 1, 1) := zsh_g zdk_566 (r := 46) (k := 1) rfl rfl rfl
theorem zd_566_187 : decode prog_14_method_122_code 187 = .ok (.invokevirtual 1266, 3) := zsh_g zdk_566 (r := 46) (k := 2) rfl rfl rfl
theorem zd_566_190 : decode prog_14_method_122_code 190 = .ok (.iconst 1, 1) := zsh_g zdk_566 (r := 47) (k := 0) rfl rfl rfl
def zdl_567 : List (List (Nat × Instr × Nat)) := [[(0, (.aload_n 0), 1), (1, (.aload_n 0), 1), (2, (.invokevirtual 1303), 3)], [(1, (.putfield 1312), 3)], [(0, (.aload_n 0), 1), (1, (.bipush 44), 2), (3, (.invokevirtual 1269), 3)], [(2, (.aload_n 0), 1), (3, (.iconst 1), 1)], [(0, (.putfield 1327), 3), (3, (.aload_n 0), 1)], [(0, (.iconst 2), 1), (1, (.invokevirtual 1318), 3)], [(0, (.ifCond .ne 55), 3), (3, (.aload_n 0), 1)], [(0, (.iconst 0), 1), (1, (.invokevirtual 1315), 3)], [(0, (.aload_n 0), 1), (1, (.aload_n 0), 1), (2, (.bipush 40), 2)], [(0, (.invokevirtual 1330), 3), (3, (.putfield 1327), 3)], [(2, (.aload_n 0), 1), (3, (.aload_n 0), 1)], [(0, (.getfield 1228), 3), (3, (.ifCond .eq 28), 3)], [(2, (.aload_n 0), 1), (3, (.getfield 1327), 3)], [(2, (.aload_n 0), 1), (3, (.getfield 434), 3)], [(2, (.iconst 0), 1), (3, .iaload, 1)], [(0, (.ifCond .ne 7), 3), (3, (.iconst 1), 1)], [(0, (.goto 4), 3), (3, (.iconst 0), 1)], [(0, (.if_icmp .ne 7), 3), (3, (.iconst 1), 1)], [(0, (.goto 4), 3), (3, (.iconst 0), 1)], [(0, (.putfield 1228), 3), (3, (.aload_n 0), 1)], [(0, (.getfield 1327), 3), (3, (.ifCond .eq 23), 3)], [(2, (.aload_n 0), 1), (3, (.bipush 40), 2)], [(1, (.invokevirtual 1269), 3)], [(0, (.aload_n 0), 1), (1, (.aload_n 0), 1), (2, (.invokevirtual 1303), 3)], [(1, (.putfield 1309), 3)], [(0, (.aload_n 0), 1), (1, (.bipush 41), 2), (3, (.invokevirtual 1269), 3)]]
theorem zdk_567 : zsh_all 8 zdl_567 prog_14_method_136_code.data.toList = true := by decide +kernel
theorem zd_567_0 : decode prog_14_method_136_code 0 = .ok (.aload_n 0, 1) := zsh_g zdk_567 (r := 0) (k := 0) rfl rfl rfl
theorem zd_567_1 : decode prog_14_method_136_code 1 = .ok (.aload_n 0, 1) := zsh_g zdk_567 (r := 0) (k := 1) rfl rfl rfl
theorem zd_567_2 : decode prog_14_method_136_code 2 = .ok (.invokevirtual 1303, 3) := zsh_g zdk_567 (r := 0) (k := 2) rfl rfl rfl
theorem zd_567_5 : decode prog_14_method_136_code 5 = .ok (.putfield 1312, 3) := zsh_g zdk_567 (r := 1) (k := 0) rfl rfl rfl
theorem zd_567_8 : decode prog_14_method_136_code 8 = .ok (.aload_n 0, 1) := zsh_g zdk_567 (r := 2) (k := 0) rfl rfl rfl
theorem zd_567_9 : decode prog_14_method_136_code 9 = .ok (.bipush 44, 2) := zsh_g zdk_567 (r := 2) (k := 1) rfl rfl rfl
theorem zd_567_11 : decode prog_14_method_136_code 11 = .ok (.invokevirtual 1269, 3) := zsh_g zdk_567 (r := 2) (k := 2) rfl rfl rfl
theorem zd_567_14 : decode prog_14_method_136_code 14 = .ok (.aload_n 0, 1) := zsh_g zdk_567 (r := 3) (k := 0) rfl rfl rfl
theorem zd_567_15 : decode prog_14_method_136_code 15 = .ok (.iconst 1, 1) := zsh_g zdk_567 (r := 3) (k := 1) rfl rfl rfl
theorem zd_567_16 : decode prog_14_method_136_code 16 = .ok (.putfield 1327, 3) := zsh_g zdk_567 (r := 4) (k := 0) rfl rfl rfl
theorem zd_567_19 : decode prog_14_method_136_code 19 = .ok (.aload_n 0, 1) := zsh_g zdk_567 (r := 4) (k := 1) rfl rfl rfl
theorem zd_567_20 : decode prog_14_method_136_code 20 = .ok (.iconst 2, 1) := zsh_g zdk_567 (r := 5) (k := 0) rfl rfl rfl
theorem zd_567_21 : decode prog_14_method_136_code 21 = .ok (.invokevirtual 1318, 3) := zsh_g zdk_567 (r := 5) (k := 1) rfl rfl rfl
theorem zd_567_24 : decode prog_14_method_136_code 24 = .ok (.ifCond .ne 55, 3) := zsh_g zdk_567 (r := 6) (k := 0) rfl rfl rfl
theorem zd_567_27 : decode prog_14_method_136_code 27 = .ok (.aload_n 0, 1) := zsh_g zdk_567 (r := 6) (k := 1) rfl rfl rfl
theorem zd_567_28 : decode prog_14_method_136_code 28 = .ok (.iconst 0, 1) := zsh_g zdk_567 (r := 7) (k := 0) rfl rfl rfl
theorem zd_567_29 : decode prog_14_method_136_code 29 = .ok (.invokevirtual 1315, 3) := zsh_g zdk_567 (r := 7) (k := 1) rfl rfl rfl
theorem zd_567_32 : decode prog_14_method_136_code 32 = .ok (.aload_n 0, 1) := zsh_g zdk_567 (r := 8) (k := 0) rfl rfl rfl
theorem zd_567_33 : decode prog_14_method_136_code 33 = .ok (.aload_n 0, 1) := zsh_g zdk_567 (r := 8) (k := 1) rfl rfl rfl
theorem zd_567_34 : decode prog_14_method_136_code 34 = .ok (.bipush 40, 2) := zsh_g zdk_567 (r := 8) (k := 2) rfl rfl rfl
theorem zd_567_36 : decode prog_14_method_136_code 36 = .ok (.invokevirtual 1330, 3) := zsh_g zdk_567 (r := 9) (k := 0) rfl rfl rfl
theorem zd_567_39 : decode prog_14_method_136_code 39 = .ok (.putfield 1327, 3) := zsh_g zdk_567 (r := 9) (k := 1) rfl rfl rfl
theorem zd_567_42 : decode prog_14_method_136_code 42 = .ok (.aload_n 0, 1) := zsh_g zdk_567 (r := 10) (k := 0) rfl rfl rfl
theorem zd_567_43 : decode prog_14_method_136_code 43 = .ok (.aload_n 0, 1) := zsh_g zdk_567 (r := 10) (k := 1) rfl rfl rfl
theorem zd_567_44 : decode prog_14_method_136_code 44 = .ok (.getfield 1228, 3) := zsh_g zdk_567 (r := 11) (k := 0) rfl rfl rfl
theorem zd_567_47 : decode prog_14_method_136_code 47 = .ok (.ifCond .eq 28, 3) := zsh_g zdk_567 (r := 11) (k := 1) rfl rfl rfl
theorem zd_567_50 : decode prog_14_method_136_code 50 = .ok (.aload_n 0, 1) := zsh_g zdk_567 (r := 12) (k := 0) rfl rfl rfl
theorem zd_567_51 : decode prog_14_method_136_code 51 = .ok (.getfield 1327, 3) := zsh_g zdk_567 (r := 12) (k := 1) rfl rfl rfl
theorem zd_567_54 : decode prog_14_method_136_code 54 = .ok (.aload_n 0, 1) := zsh_g zdk_567 (r := 13) (k := 0) rfl rfl rfl
theorem zd_567_55 : decode prog_14_method_136_code 55 = .ok (.getfield 434, 3) := zsh_g zdk_567 (r := 13) (k := 1) rfl rfl rfl
theorem zd_567_58 : decode prog_14_method_136_code 58 = .ok (.iconst 0, 1) := zsh_g zdk_567 (r := 14) (k := 0) rfl rfl rfl
theorem zd_567_59 : decode prog_14_method_136_code 59 = .ok (.iaload, 1) := zsh_g zdk_567 (r := 14) (k := 1) rfl rfl rfl
theorem zd_567_60 : decode prog_14_method_136_code 60 = .ok (.ifCond .ne 7, 3) := zsh_g zdk_567 (r := 15) (k := 0) rfl rfl rfl
theorem zd_567_63 : decode prog_14_method_136_code 63 = .ok (.iconst 1, 1) := zsh_g zdk_567 (r := 15) (k := 1) rfl rfl rfl
theorem zd_567_64 : decode prog_14_method_136_code 64 = .ok (.goto 4, 3) := zsh_g zdk_567 (r := 16) (k := 0) rfl rfl rfl
theorem zd_567_67 : decode prog_14_method_136_code 67 = .ok (.iconst 0, 1) := zsh_g zdk_567 (r := 16) (k := 1) rfl rfl rfl
theorem zd_567_68 : decode prog_14_method_136_code 68 = .ok (.if_icmp .ne 7, 3) := zsh_g zdk_567 (r := 17) (k := 0) rfl rfl rfl
theorem zd_567_71 : decode prog_14_method_136_code 71 = .ok (.iconst 1, 1) := zsh_g zdk_567 (r := 17) (k := 1) rfl rfl rfl
theorem zd_567_72 : decode prog_14_method_136_code 72 = .ok (.goto 4, 3) := zsh_g zdk_567 (r := 18) (k := 0) rfl rfl rfl
theorem zd_567_75 : decode prog_14_method_136_code 75 = .ok (.iconst 0, 1) := zsh_g zdk_567 (r := 18) (k := 1) rfl rfl rfl
theorem zd_567_76 : decode prog_14_method_136_code 76 = .ok (.putfield 1228, 3) := zsh_g zdk_567 (r := 19) (k := 0) rfl rfl rfl
theorem zd_567_79 : decode prog_14_method_136_code 79 = .ok (.aload_n 0, 1) := zsh_g zdk_567 (r := 19) (k := 1) rfl rfl rfl
theorem zd_567_80 : decode prog_14_method_136_code 80 = .ok (.getfield 1327, 3) := zsh_g zdk_567 (r := 20) (k := 0) rfl rfl rfl
theorem zd_567_83 : decode prog_14_method_136_code 83 = .ok (.ifCond .eq 23, 3) := zsh_g zdk_567 (r := 20) (k := 1) rfl rfl rfl
theorem zd_567_86 : decode prog_14_method_136_code 86 = .ok (.aload_n 0, 1) := zsh_g zdk_567 (r := 21) (k := 0) rfl rfl rfl
theorem zd_567_87 : decode prog_14_method_136_code 87 = .ok (.bipush 40, 2) := zsh_g zdk_567 (r := 21) (k := 1) rfl rfl rfl
theorem zd_567_89 : decode prog_14_method_136_code 89 = .ok (.invokevirtual 1269, 3) := zsh_g zdk_567 (r := 22) (k := 0) rfl rfl rfl
theorem zd_567_92 : decode prog_14_method_136_code 92 = .ok (.aload_n 0, 1) := zsh_g zdk_567 (r := 23) (k := 0) rfl rfl rfl
theorem zd_567_93 : decode prog_14_method_136_code 93 = .ok (.aload_n 0, 1) := zsh_g zdk_567 (r := 23) (k := 1) rfl rfl rfl
theorem zd_567_94 : decode prog_14_method_136_code 94 = .ok (.invokevirtual 1303, 3) := zsh_g zdk_567 (r := 23) (k := 2) rfl rfl rfl
theorem zd_567_97 : decode prog_14_method_136_code 97 = .ok (.putfield 1309, 3) := zsh_g zdk_567 (r := 24) (k := 0) rfl rfl rfl
theorem zd_567_100 : decode prog_14_method_136_code 100 = .ok (.aload_n 0, 1) := zsh_g zdk_567 (r := 25) (k := 0) rfl rfl rfl
theorem zd_567_101 : decode prog_14_method_136_code 101 = .ok (.bipush 41, 2) := zsh_g zdk_567 (r := 25) (k := 1) rfl rfl rfl
theorem zd_567_103 : decode prog_14_method_136_code 103 = .ok (.invokevirtual 1269, 3) := zsh_g zdk_567 (r := 25) (k := 2) rfl rfl rfl
def zdl_568 : List (List (Nat × Instr × Nat)) := [[(0, (.iload_n 1), 1)], [], [], [], [], [], [], [], [], [], [], [], [], [], [], [], [], [], [], [], [], [], [], [], [], [], [], [(0, (.aload_n 0), 1), (1, (.aload_n 0), 1), (2, (.invokevirtual 1303), 3)], [(1, (.putfield 1309), 3)], [(0, (.aload_n 0), 1), (1, (.bipush 44), 2), (3, (.invokevirtual 1269), 3)], [(2, (.aload_n 0), 1), (3, (.aload_n 0), 1)], [(0, (.invokevirtual 1303), 3), (3, (.putfield 1312), 3)], [(2, (.aload_n 0), 1), (3, (.bipush 44), 2)], [(1, (.invokevirtual 1269), 3)], [(0, (.aload_n 0), 1), (1, (.iconst 2), 1), (2, (.invokevirtual 1315), 3)], [(1, (.goto 90), 3)], [(0, (.aload_n 0), 1), (1, (.iconst 2), 1), (2, (.invokevirtual 1315), 3)], [(1, (.goto 82), 3)], [(0, (.goto 79), 3), (3, (.aload_n 0), 1)], [(0, (.aload_n 0), 1), (1, (.invokevirtual 1303), 3)], [(0, (.putfield 1306), 3), (3, (.aload_n 0), 1)], [(0, (.bipush 44), 2), (2, (.invokevirtual 1269), 3)], [(1, (.aload_n 0), 1), (2, (.aload_n 0), 1), (3, (.invokevirtual 1303), 3)], [(2, (.putfield 1309), 3)], [(1, (.goto 54), 3)], [(0, (.aload_n 0), 1), (1, (.aload_n 0), 1), (2, (.invokevirtual 1303), 3)], [(1, (.putfield 1312), 3)], [(0, (.aload_n 0), 1), (1, (.bipush 44), 2), (3, (.invokevirtual 1269), 3)], [(2, (.aload_n 0), 1), (3, (.iload_n 1), 1)], [(0, (.bipush 55), 2), (2, (.if_icmp .ne 7), 3)], [(1, (.iconst 1), 1), (2, (.goto 4), 3)], [(1, (.iconst 2), 1), (2, (.invokevirtual 1315), 3)], [(1, (.goto 22), 3)], [(0, (.aload_n 0), 1), (1, (.aload_n 0), 1), (2, (.invokevirtual 1303), 3)], [(1, (.putfield 1309), 3)], [(0, (.aload_n 0), 1), (1, (.bipush 44), 2), (3, (.invokevirtual 1269), 3)], [(2, (.aload_n 0), 1), (3, (.iconst 2), 1)], [(0, (.invokevirtual 1315), 3)]]
theorem zdk_568 : zsh_all 8 zdl_568 prog_14_method_137_code.data.toList = true := by decide +kernel
theorem zd_568_0 : decode prog_14_method_137_code 0 = .ok (.iload_n 1, 1) := zsh_g zdk_568 (r := 0) (k := 0) rfl rfl rfl
theorem zd_568_108 : decode prog_14_method_137_code 108 = .ok (.aload_n 0, 1) := zsh_g zdk_568 (r := 27) (k := 0) rfl rfl rfl
theorem zd_568_109 : decode prog_14_method_137_code 109 = .ok (.aload_n 0, 1) := zsh_g zdk_568 (r := 27) (k := 1) rfl rfl rfl
theorem zd_568_110 : decode prog_14_method_137_code 110 = .ok (.invokevirtual 1303, 3) := zsh_g zdk_568 (r := 27) (k := 2) rfl rfl rfl
theorem zd_568_113 : decode prog_14_method_137_code 113 = .ok (.putfield 1309, 3) := zsh_g zdk_568 (r := 28) (k := 0) rfl rfl rfl
theorem zd_568_116 : decode prog_14_method_137_code 116 = .ok (.aload_n 0, 1) := zsh_g zdk_568 (r := 29) (k := 0) rfl rfl rfl
theorem zd_568_117 : decode prog_14_method_137_code 117 = .ok (.bipush 44, 2) := zsh_g zdk_568 (r := 29) (k := 1) rfl rfl rfl
theorem zd_568_119 : decode prog_14_method_137_code 119 = .ok (.invokevirtual 1269, 3) := zsh_g zdk_568 (r := 29) (k := 2) rfl rfl rfl
theorem zd_568_122 : decode prog_14_method_137_code 122 = .ok (.aload_n 0, 1) := zsh_g zdk_568 (r := 30) (k := 0) rfl rfl rfl
theorem zd_568_123 : decode prog_14_method_137_code 123 = .ok (.aload_n 0, 1) := zsh_g zdk_568 (r := 30) (k := 1) rfl rfl rfl
theorem zd_568_124 : decode prog_14_method_137_code 124 = .ok (.invokevirtual 1303, 3) := zsh_g zdk_568 (r := 31) (k := 0) rfl rfl rfl
theorem zd_568_127 : decode prog_14_method_137_code 127 = .ok (.putfield 1312, 3) := zsh_g zdk_568 (r := 31) (k := 1) rfl rfl rfl
theorem zd_568_130 : decode prog_14_method_137_code 130 = .ok (.aload_n 0, 1) := zsh_g zdk_568 (r := 32) (k := 0) rfl rfl rfl
theorem zd_568_131 : decode prog_14_method_137_code 131 = .ok (.bipush 44, 2) := zsh_g zdk_568 (r := 32) (k := 1) rfl rfl rfl
theorem zd_568_133 : decode prog_14_method_137_code 133 = .ok (.invokevirtual 1269, 3) := zsh_g zdk_568 (r := 33) (k := 0) rfl rfl rfl
theorem zd_568_136 : decode prog_14_method_137_code 136 = .ok (.aload_n 0, 1) := zsh_g zdk_568 (r := 34) (k := 0) rfl rfl rfl
theorem zd_568_137 : decode prog_14_method_137_code 137 = .ok (.iconst 2, 1) := zsh_g zdk_568 (r := 34) (k := 1) rfl rfl rfl
theorem zd_568_138 : decode prog_14_method_137_code 138 = .ok (.invokevirtual 1315, 3) := zsh_g zdk_568 (r := 34) (k := 2) rfl rfl rfl
theorem zd_568_141 : decode prog_14_method_137_code 141 = .ok (.goto 90, 3) := zsh_g zdk_568 (r := 35) (k := 0) rfl rfl rfl
theorem zd_568_144 : decode prog_14_method_137_code 144 = .ok (.aload_n 0, 1) := zsh_g zdk_568 (r := 36) (k := 0) rfl rfl rfl
theorem zd_568_145 : decode prog_14_method_137_code 145 = .ok (.iconst 2, 1) := zsh_g zdk_568 (r := 36) (k := 1) rfl rfl rfl
theorem zd_568_146 : decode prog_14_method_137_code 146 = .ok (.invokevirtual 1315, 3) := zsh_g zdk_568 (r := 36) (k := 2) rfl rfl rfl
theorem zd_568_149 : decode prog_14_method_137_code 149 = .ok (.goto 82, 3) := zsh_g zdk_568 (r := 37) (k := 0) rfl rfl rfl
theorem zd_568_152 : decode prog_14_method_137_code 152 = .ok (.goto 79, 3) := zsh_g zdk_568 (r := 38) (k := 0) rfl rfl rfl
theorem zd_568_155 : decode prog_14_method_137_code 155 = .ok (.aload_n 0, 1) := zsh_g zdk_568 (r := 38) (k := 1) rfl rfl rfl
theorem zd_568_156 : decode prog_14_method_137_code 156 = .ok (.aload_n 0, 1) := zsh_g zdk_568 (r := 39) (k := 0) rfl rfl rfl
theorem zd_568_157 : decode prog_14_method_137_code 157 = .ok (.invokevirtual 1303, 3) := zsh_g zdk_568 (r := 39) (k := 1) rfl rfl rfl
theorem zd_568_160 : decode prog_14_method_137_code 160 = .ok (.putfield 1306, 3) := zsh_g zdk_568 (r := 40) (k := 0) rfl rfl rfl
theorem zd_568_163 : decode prog_14_method_137_code 163 = .ok (.aload_n 0, 1) := zsh_g zdk_568 (r := 40) (k := 1) rfl rfl rfl
theorem zd_568_164 : decode prog_14_method_137_code 164 = .ok (.bipush 44, 2) := zsh_g zdk_568 (r := 41) (k := 0) rfl rfl rfl
theorem zd_568_166 : decode prog_14_method_137_code 166 = .ok (.invokevirtual 1269, 3) := zsh_g zdk_568 (r := 41) (k := 1) rfl rfl rfl
theorem zd_568_169 : decode prog_14_method_137_code 169 = .ok (.aload_n 0, 1) := zsh_g zdk_568 (r := 42) (k := 0) rfl rfl rfl
theorem zd_568_170 : decode prog_14_method_137_code 170 = .ok (.aload_n 0, 1) := zsh_g zdk_568 (r := 42) (k := 1) rfl rfl rfl
theorem zd_568_171 : decode prog_14_method_137_code 171 = .ok (.invokevirtual 1303, 3) := zsh_g zdk_568 (r := 42) (k := 2) rfl rfl rfl
theorem zd_568_174 : decode prog_14_method_137_code 174 = .ok (.putfield 1309, 3) := zsh_g zdk_568 (r := 43) (k := 0) rfl rfl rfl
theorem zd_568_177 : decode prog_14_method_137_code 177 = .ok (.goto 54, 3) := zsh_g zdk_568 (r := 44) (k := 0) rfl rfl rfl
theorem zd_568_180 : decode prog_14_method_137_code 180 = .ok (.aload_n 0, 1) := zsh_g zdk_568 (r := 45) (k := 0) rfl rfl rfl
theorem zd_568_181 : decode prog_14_method_137_code 181 = .ok (.aload_n 0, 1) := zsh_g zdk_568 (r := 45) (k := 1) rfl rfl rfl
theorem zd_568_182 : decode prog_14_method_137_code 182 = .ok (.invokevirtual 1303, 3) := zsh_g zdk_568 (r := 45) (k := 2) rfl rfl rfl
theorem zd_568_185 : decode prog_14_method_137_code 185 = .ok (.putfield 1312, 3) := zsh_g zdk_568 (r := 46) (k := 0) rfl rfl rfl
theorem zd_568_188 : decode prog_14_method_137_code 188 = .ok (.aload_n 0, 1) := zsh_g zdk_568 (r := 47) (k := 0) rfl rfl rfl
theorem zd_568_189 : decode prog_14_method_137_code 189 = .ok (.bipush 44, 2) := zsh_g zdk_568 (r := 47) (k := 1) rfl rfl rfl
theorem zd_568_191 : decode prog_14_method_137_code 191 = .ok (.invokevirtual 1269, 3) := zsh_g zdk_568 (r := 47) (k := 2) rfl rfl rfl
theorem zd_568_194 : decode prog_14_method_137_code 194 = .ok (.aload_n 0, 1) := zsh_g zdk_568 (r := 48) (k := 0) rfl rfl rfl
theorem zd_568_195 : decode prog_14_method_137_code 195 = .ok (.iload_n 1, 1) := zsh_g zdk_568 (r := 48) (k := 1) rfl rfl rfl
theorem zd_568_196 : decode prog_14_method_137_code 196 = .ok (.bipush 55, 2) := zsh_g zdk_568 (r := 49) (k := 0) rfl rfl rfl
theorem zd_568_198 : decode prog_14_method_137_code 198 = .ok (.if_icmp .ne 7, 3) := zsh_g zdk_568 (r := 49) (k := 1) rfl rfl rfl
theorem zd_568_201 : decode prog_14_method_137_code 201 = .ok (.iconst 1, 1) := zsh_g zdk_568 (r := 50) (k := 0) rfl rfl rfl
theorem zd_568_202 : decode prog_14_method_137_code 202 = .ok (.goto 4, 3) := zsh_g zdk_568 (r := 50) (k := 1) rfl rfl rfl
theorem zd_568_205 : decode prog_14_method_137_code 205 = .ok (.iconst 2, 1) := zsh_g zdk_568 (r := 51) (k := 0) rfl rfl rfl
theorem zd_568_206 : decode prog_14_method_137_code 206 = .ok (.invokevirtual 1315, 3) := zsh_g zdk_568 (r := 51) (k := 1) rfl rfl rfl
theorem zd_568_209 : decode prog_14_method_137_code 209 = .ok (.goto 22, 3) := zsh_g zdk_568 (r := 52) (k := 0) rfl rfl rfl
theorem zd_568_212 : decode prog_14_method_137_code 212 = .ok (.aload_n 0, 1) := zsh_g zdk_568 (r := 53) (k := 0) rfl rfl rfl
theorem zd_568_213 : decode prog_14_method_137_code 213 = .ok (.aload_n 0, 1) := zsh_g zdk_568 (r := 53) (k := 1) rfl rfl rfl
theorem zd_568_214 : decode prog_14_method_137_code 214 = .ok (.invokevirtual 1303, 3) := zsh_g zdk_568 (r := 53) (k := 2) rfl rfl rfl
theorem zd_568_217 : decode prog_14_method_137_code 217 = .ok (.putfield 1309, 3) := zsh_g zdk_568 (r := 54) (k := 0) rfl rfl rfl
theorem zd_568_220 : decode prog_14_method_137_code 220 = .ok (.aload_n 0, 1) := zsh_g zdk_568 (r := 55) (k := 0) rfl rfl rfl
theorem zd_568_221 : decode prog_14_method_137_code 221 = .ok (.bipush 44, 2) := zsh_g zdk_568 (r := 55) (k := 1) rfl rfl rfl
theorem zd_568_223 : decode prog_14_method_137_code 223 = .ok (.invokevirtual 1269, 3) := zsh_g zdk_568 (r := 55) (k := 2) rfl rfl rfl
theorem zd_568_226 : decode prog_14_method_137_code 226 = .ok (.aload_n 0, 1) := zsh_g zdk_568 (r := 56) (k := 0) rfl rfl rfl
theorem zd_568_227 : decode prog_14_method_137_code 227 = .ok (.iconst 2, 1) := zsh_g zdk_568 (r := 56) (k := 1) rfl rfl rfl
theorem zd_568_228 : decode prog_14_method_137_code 228 = .ok (.invokevirtual 1315, 3) := zsh_g zdk_568 (r := 57) (k := 0) rfl rfl rfl
theorem zd_568_1 : decode prog_14_method_137_code 1 = .ok (.tableswitch 211 41 63 #[107, 107, 211, 211, 211, 211, 211, 211, 143, 143, 151, 154, 154, 154, 179, 179, 143, 211, 211, 107, 107, 107, 107], 107) := by decide +kernel
def zdl_569 : List (List (Nat × Instr × Nat)) := [[(0, (.iload_n 0), 1), (1, (.bipush 21), 2), (3, .ishl, 1)], [(0, (.iload_n 1), 1), (1, (.bipush 16), 2), (3, .ishl, 1)], [(0, .ior, 1), (1, (.iload_n 2), 1), (2, (.bipush 11), 2)], [(0, .ishl, 1), (1, .ior, 1), (2, (.iload_n 3), 1), (3, (.bipush 6), 2)], [(1, .ishl, 1), (2, .ior, 1), (3, (.iload 4), 2)], [(1, .ior, 1)]]
theorem zdk_569 : zsh_all 8 zdl_569 prog_14_method_133_code.data.toList = true := by decide +kernel
theorem zd_569_0 : decode prog_14_method_133_code 0 = .ok (.iload_n 0, 1) := zsh_g zdk_569 (r := 0) (k := 0) rfl rfl rfl
theorem zd_569_1 : decode prog_14_method_133_code 1 = .ok (.bipush 21, 2) := zsh_g zdk_569 (r := 0) (k := 1) rfl rfl rfl
theorem zd_569_3 : decode prog_14_method_133_code 3 = .ok (.ishl, 1) := zsh_g zdk_569 (r := 0) (k := 2) rfl rfl rfl
theorem zd_569_4 : decode prog_14_method_133_code 4 = .ok (.iload_n 1, 1) := zsh_g zdk_569 (r := 1) (k := 0) rfl rfl rfl
theorem zd_569_5 : decode prog_14_method_133_code 5 = .ok (.bipush 16, 2) := zsh_g zdk_569 (r := 1) (k := 1) rfl rfl rfl
theorem zd_569_7 : decode prog_14_method_133_code 7 = .ok (.ishl, 1) := zsh_g zdk_569 (r := 1) (k := 2) rfl rfl rfl
theorem zd_569_8 : decode prog_14_method_133_code 8 = .ok (.ior, 1) := zsh_g zdk_569 (r := 2) (k := 0) rfl rfl rfl
theorem zd_569_9 : decode prog_14_method_133_code 9 = .ok (.iload_n 2, 1) := zsh_g zdk_569 (r := 2) (k := 1) rfl rfl rfl
theorem zd_569_10 : decode prog_14_method_133_code 10 = .ok (.bipush 11, 2) := zsh_g zdk_569 (r := 2) (k := 2) rfl rfl rfl
theorem zd_569_12 : decode prog_14_method_133_code 12 = .ok (.ishl, 1) := zsh_g zdk_569 (r := 3) (k := 0) rfl rfl rfl
theorem zd_569_13 : decode prog_14_method_133_code 13 = .ok (.ior, 1) := zsh_g zdk_569 (r := 3) (k := 1) rfl rfl rfl
theorem zd_569_14 : decode prog_14_method_133_code 14 = .ok (.iload_n 3, 1) := zsh_g zdk_569 (r := 3) (k := 2) rfl rfl rfl
theorem zd_569_15 : decode prog_14_method_133_code 15 = .ok (.bipush 6, 2) := zsh_g zdk_569 (r := 3) (k := 3) rfl rfl rfl
theorem zd_569_17 : decode prog_14_method_133_code 17 = .ok (.ishl, 1) := zsh_g zdk_569 (r := 4) (k := 0) rfl rfl rfl
theorem zd_569_18 : decode prog_14_method_133_code 18 = .ok (.ior, 1) := zsh_g zdk_569 (r := 4) (k := 1) rfl rfl rfl
theorem zd_569_19 : decode prog_14_method_133_code 19 = .ok (.iload 4, 2) := zsh_g zdk_569 (r := 4) (k := 2) rfl rfl rfl
theorem zd_569_21 : decode prog_14_method_133_code 21 = .ok (.ior, 1) := zsh_g zdk_569 (r := 5) (k := 0) rfl rfl rfl
def zdl_570 : List (List (Nat × Instr × Nat)) := [[(0, (.iload_n 0), 1), (1, (.ifCond .ne 7), 3)], [(0, (.iconst 0), 1), (1, (.goto 6), 3)], [(0, (.iconst 1), 1), (1, (.iload_n 0), 1), (2, .ishl, 1)]]
theorem zdk_570 : zsh_all 8 zdl_570 prog_14_method_128_code.data.toList = true := by decide +kernel
theorem zd_570_0 : decode prog_14_method_128_code 0 = .ok (.iload_n 0, 1) := zsh_g zdk_570 (r := 0) (k := 0) rfl rfl rfl
theorem zd_570_1 : decode prog_14_method_128_code 1 = .ok (.ifCond .ne 7, 3) := zsh_g zdk_570 (r := 0) (k := 1) rfl rfl rfl
theorem zd_570_4 : decode prog_14_method_128_code 4 = .ok (.iconst 0, 1) := zsh_g zdk_570 (r := 1) (k := 0) rfl rfl rfl
theorem zd_570_5 : decode prog_14_method_128_code 5 = .ok (.goto 6, 3) := zsh_g zdk_570 (r := 1) (k := 1) rfl rfl rfl
theorem zd_570_8 : decode prog_14_method_128_code 8 = .ok (.iconst 1, 1) := zsh_g zdk_570 (r := 2) (k := 0) rfl rfl rfl
theorem zd_570_9 : decode prog_14_method_128_code 9 = .ok (.iload_n 0, 1) := zsh_g zdk_570 (r := 2) (k := 1) rfl rfl rfl
theorem zd_570_10 : decode prog_14_method_128_code 10 = .ok (.ishl, 1) := zsh_g zdk_570 (r := 2) (k := 2) rfl rfl rfl
def zdl_571 : List (List (Nat × Instr × Nat)) := [[(0, (.aload_n 0), 1), (1, (.invokevirtual 1290), 3)], [(0, (.istore 6), 2), (2, (.aload_n 0), 1), (3, (.getfield 1287), 3)], [(2, (.ifCond .eq 33), 3)], [(1, (.aload_n 0), 1), (2, (.getfield 386), 3)], [(1, (.aload_n 0), 1), (2, (.getfield 1272), 3)], [(1, .baload, 1), (2, (.ifCond .eq 21), 3)], [(1, (.aload_n 0), 1), (2, (.getfield 383), 3)], [(1, (.aload_n 0), 1), (2, (.getfield 1272), 3)], [(1, .iaload, 1), (2, (.iload 6), 2)], [(0, (.if_icmp .eq 7), 3), (3, (.iconst 1), 1)], [(0, (.goto 4), 3), (3, (.iconst 0), 1)], [(0, (.istore 7), 2), (2, (.iload 7), 2)], [(0, (.ifCond .eq 24), 3), (3, (.aload_n 0), 1)], [(0, (.getfield 395), 3), (3, (.aload_n 0), 1)], [(0, (.getfield 1272), 3), (3, .iaload, 1)], [(0, (.invokestatic 1293), 3), (3, (.iload_n 2), 1)], [(0, .iand, 1), (1, (.ifCond .ne 7), 3)], [(0, (.iconst 1), 1), (1, (.goto 4), 3)], [(0, (.iconst 0), 1), (1, (.istore 7), 2), (3, (.iload 7), 2)], [(1, (.ifCond .eq 43), 3)], [(0, (.iload_n 3), 1), (1, (.ifCond .eq 35), 3)], [(0, (.aload_n 0), 1), (1, (.getfield 395), 3)], [(0, (.aload_n 0), 1), (1, (.getfield 1272), 3)], [(0, .iaload, 1), (1, (.bipush 31), 2), (3, (.if_icmp .eq 25), 3)], [(2, (.aload_n 0), 1), (3, (.getfield 392), 3)], [(2, (.aload_n 0), 1), (3, (.getfield 1272), 3)], [(2, .iaload, 1), (3, (.bipush 31), 2)], [(1, (.invokestatic 1293), 3)], [(0, .iand, 1), (1, (.ifCond .ne 7), 3)], [(0, (.iconst 1), 1), (1, (.goto 4), 3)], [(0, (.iconst 0), 1), (1, (.istore 7), 2), (3, (.aload_n 0), 1)], [(0, (.getfield 386), 3), (3, (.aload_n 0), 1)], [(0, (.getfield 1272), 3), (3, (.iconst 0), 1)], [(0, .bastore, 1), (1, (.iload 7), 2), (3, (.ifCond .eq 132), 3)], [(2, (.iconst 0), 1), (3, (.istore 8), 2)], [(1, (.iload 8), 2), (3, (.aload_n 0), 1)], [(0, (.getfield 1281), 3), (3, (.if_icmp .ge 46), 3)], [(2, (.aload_n 0), 1), (3, (.getfield 407), 3)], [(2, (.iload 8), 2)], [(0, .iaload, 1), (1, (.aload_n 0), 1), (2, (.getfield 1272), 3)], [(1, (.if_icmp .ne 26), 3)], [(0, (.aload_n 0), 1), (1, (.getfield 410), 3)], [(0, (.iload 8), 2), (2, .iaload, 1), (3, (.iload 6), 2)], [(1, (.iconst 4), 1), (2, .isub, 1), (3, (.if_icmp .ne 12), 3)], [(2, (.aload_n 0), 1), (3, (.getfield 410), 3)], [(2, (.iload 8), 2)], [(0, (.iload 6), 2), (2, .iastore, 1), (3, (.iinc 8 1), 3)], [(2, (.goto (-49)), 3)], [(1, (.iconst 0), 1), (2, (.istore 8), 2)], [(0, (.iload 8), 2), (2, (.iconst 4), 1), (3, (.if_icmp .ge 37), 3)], [(2, (.aload_n 0), 1), (3, (.getfield 377), 3)], [(2, (.aload_n 0), 1), (3, (.getfield 389), 3)], [(2, (.aload_n 0), 1), (3, (.getfield 1272), 3)], [(2, .iaload, 1), (3, (.iload 8), 2)], [(1, .iadd, 1), (2, (.iload_n 1), 1), (3, (.bipush 8), 2)], [(1, (.iload 8), 2), (3, .imul, 1)], [(0, .ishr, 1), (1, (.sipush 255), 3)], [(0, .iand, 1), (1, .iastore, 1), (2, (.iinc 8 1), 3)], [(1, (.goto (-37)), 3)], [(0, (.iload 4), 2), (2, (.ifCond .lt 15), 3)], [(1, (.aload_n 0), 1), (2, (.iload 4), 2)], [(0, (.iload 5), 2), (2, (.iload 6), 2)], [(0, (.iconst 4), 1), (1, .isub, 1), (2, (.invokevirtual 1296), 3)], [(1, (.aload_n 0), 1), (2, (.aload_n 0), 1), (3, (.getfield 398), 3)], [(2, (.aload_n 0), 1), (3, (.getfield 1272), 3)], [(2, .iaload, 1), (3, (.invokevirtual 1284), 3)], [(3, (.iload 4), 2)], [(1, (.ifCond .lt 13), 3)], [(0, (.aload_n 0), 1), (1, (.iload 4), 2), (3, (.iload 5), 2)], [(1, (.iload 6), 2), (3, (.invokevirtual 1296), 3)], [(2, (.aload_n 0), 1), (3, (.iload_n 1), 1)], [(0, (.invokevirtual 1284), 3), (3, (.aload_n 0), 1)], [(0, (.getfield 1287), 3), (3, (.ifCond .eq 8), 3)], [(2, (.aload_n 0), 1), (3, (.iconst 0), 1)], [(0, (.invokevirtual 1284), 3)]]
theorem zdk_571 : zsh_all 8 zdl_571 prog_14_method_129_code.data.toList = true := by decide +kernel
theorem zd_571_0 : decode prog_14_method_129_code 0 = .ok (.aload_n 0, 1) := zsh_g zdk_571 (r := 0) (k := 0) rfl rfl rfl
theorem zd_571_1 : decode prog_14_method_129_code 1 = .ok (.invokevirtual 1290, 3) := zsh_g zdk_571 (r := 0) (k := 1) rfl rfl rfl
theorem zd_571_4 : decode prog_14_method_129_code 4 = .ok (.istore 6, 2) := zsh_g zdk_571 (r := 1) (k := 0) rfl rfl rfl
theorem zd_571_6 : decode prog_14_method_129_code 6 = .ok (.aload_n 0, 1) := zsh_g zdk_571 (r := 1) (k := 1) rfl rfl rfl
theorem zd_571_7 : decode prog_14_method_129_code 7 = .ok (.getfield 1287, 3) := zsh_g zdk_571 (r := 1) (k := 2) rfl rfl rfl
theorem zd_571_10 : decode prog_14_method_129_code 10 = .ok (.ifCond .eq 33, 3) := zsh_g zdk_571 (r := 2) (k := 0) rfl rfl rfl
theorem zd_571_13 : decode prog_14_method_129_code 13 = .ok (.aload_n 0, 1) := zsh_g zdk_571 (r := 3) (k := 0) rfl rfl rfl
theorem zd_571_14 : decode prog_14_method_129_code 14 = .ok (.getfield 386, 3) := zsh_g zdk_571 (r := 3) (k := 1) rfl rfl rfl
theorem zd_571_17 : decode prog_14_method_129_code 17 = .ok (.aload_n 0, 1) := zsh_g zdk_571 (r := 4) (k := 0) rfl rfl rfl
theorem zd_571_18 : decode prog_14_method_129_code 18 = .ok (.getfield 1272, 3) := zsh_g zdk_571 (r := 4) (k := 1) rfl rfl rfl
theorem zd_571_21 : decode prog_14_method_129_code 21 = .ok (.baload, 1) := zsh_g zdk_571 (r := 5) (k := 0) rfl rfl rfl
theorem zd_571_22 : decode prog_14_method_129_code 22 = .ok (.ifCond .eq 21, 3) := zsh_g zdk_571 (r := 5) (k := 1) rfl rfl rfl
theorem zd_571_25 : decode prog_14_method_129_code 25 = .ok (.aload_n 0, 1) := zsh_g zdk_571 (r := 6) (k := 0) rfl rfl rfl
theorem zd_571_26 : decode prog_14_method_129_code 26 = .ok (.getfield 383, 3) := zsh_g zdk_571 (r := 6) (k := 1) rfl rfl rfl
theorem zd_571_29 : decode prog_14_method_129_code 29 = .ok (.aload_n 0, 1) := zsh_g zdk_571 (r := 7) (k := 0) rfl rfl rfl
theorem zd_571_30 : decode prog_14_method_129_code 30 = .ok (.getfield 1272, 3) := zsh_g zdk_571 (r := 7) (k := 1) rfl rfl rfl
theorem zd_571_33 : decode prog_14_method_129_code 33 = .ok (.iaload, 1) := zsh_g zdk_571 (r := 8) (k := 0) rfl rfl rfl
theorem zd_571_34 : decode prog_14_method_129_code 34 = .ok (.iload 6, 2) := zsh_g zdk_571 (r := 8) (k := 1) rfl rfl rfl
theorem zd_571_36 : decode prog_14_method_129_code 36 = .ok (.if_icmp .eq 7, 3) := zsh_g zdk_571 (r := 9) (k := 0) rfl rfl rfl
theorem zd_571_39 : decode prog_14_method_129_code 39 = .ok (.iconst 1, 1) := zsh_g zdk_571 (r := 9) (k := 1) rfl rfl rfl
theorem zd_571_40 : decode prog_14_method_129_code 40 = .ok (.goto 4, 3) := zsh_g zdk_571 (r := 10) (k := 0) rfl rfl rfl
theorem zd_571_43 : decode prog_14_method_129_code 43 = .ok (.iconst 0, 1) := zsh_g zdk_571 (r := 10) (k := 1) rfl rfl rfl
theorem zd_571_44 : decode prog_14_method_129_code 44 = .ok (.istore 7, 2) := zsh_g zdk_571 (r := 11) (k := 0) rfl rfl rfl
theorem zd_571_46 : decode prog_14_method_129_code 46 = .ok (.iload 7, 2) := zsh_g zdk_571 (r := 11) (k := 1) rfl rfl rfl
theorem zd_571_48 : decode prog_14_method_129_code 48 = .ok (.ifCond .eq 24, 3) := zsh_g zdk_571 (r := 12) (k := 0) rfl rfl rfl
theorem zd_571_51 : decode prog_14_method_129_code 51 = .ok (.aload_n 0, 1) := zsh_g zdk_571 (r := 12) (k := 1) rfl rfl rfl
theorem zd_571_52 : decode prog_14_method_129_code 52 = .ok (.getfield 395, 3) := zsh_g zdk_571 (r := 13) (k := 0) rfl rfl rfl
theorem zd_571_55 : decode prog_14_method_129_code 55 = .ok (.aload_n 0, 1) := zsh_g zdk_571 (r := 13) (k := 1) rfl rfl rfl
theorem zd_571_56 : decode prog_14_method_129_code 56 = .ok (.getfield 1272, 3) := zsh_g zdk_571 (r := 14) (k := 0) rfl rfl rfl
theorem zd_571_59 : decode prog_14_method_129_code 59 = .ok (.iaload, 1) := zsh_g zdk_571 (r := 14) (k := 1) rfl rfl rfl
theorem zd_571_60 : decode prog_14_method_129_code 60 = .ok (.invokestatic 1293, 3) := zsh_g zdk_571 (r := 15) (k := 0) rfl rfl rfl
theorem zd_571_63 : decode prog_14_method_129_code 63 = .ok (.iload_n 2, 1) := zsh_g zdk_571 (r := 15) (k := 1) rfl rfl rfl
theorem zd_571_64 : decode prog_14_method_129_code 64 = .ok (.iand, 1) := zsh_g zdk_571 (r := 16) (k := 0) rfl rfl rfl
theorem zd_571_65 : decode prog_14_method_129_code 65 = .ok (.ifCond .ne 7, 3) := zsh_g zdk_571 (r := 16) (k := 1) rfl rfl rfl
theorem zd_571_68 : decode prog_14_method_129_code 68 = .ok (.iconst 1, 1) := zsh_g zdk_571 (r := 17) (k := 0) rfl rfl rfl
theorem zd_571_69 : decode prog_14_method_129_code 69 = .ok (.goto 4, 3) := zsh_g zdk_571 (r := 17) (k := 1) rfl rfl rfl
theorem zd_571_72 : decode prog_14_method_129_code 72 = .ok (.iconst 0, 1) := zsh_g zdk_571 (r := 18) (k := 0) rfl rfl rfl
theorem zd_571_73 : decode prog_14_method_129_code 73 = .ok (.istore 7, 2) := zsh_g zdk_571 (r := 18) (k := 1) rfl rfl rfl
theorem zd_571_75 : decode prog_14_method_129_code 75 = .ok (.iload 7, 2) := zsh_g zdk_571 (r := 18) (k := 2) rfl rfl rfl
theorem zd_571_77 : decode prog_14_method_129_code 77 = .ok (.ifCond .eq 43, 3) := zsh_g zdk_571 (r := 19) (k := 0) rfl rfl rfl
theorem zd_571_80 : decode prog_14_method_129_code 80 = .ok (.iload_n 3, 1) := zsh_g zdk_571 (r := 20) (k := 0) rfl rfl rfl
theorem zd_571_81 : decode prog_14_method_129_code 81 = .ok (.ifCond .eq 35, 3) := zsh_g zdk_571 (r := 20) (k := 1) rfl rfl rfl
theorem zd_571_84 : decode prog_14_method_129_code 84 = .ok (.aload_n 0, 1) := zsh_g zdk_571 (r := 21) (k := 0) rfl rfl rfl
theorem zd_571_85 : decode prog_14_method_129_code 85 = .ok (.getfield 395, 3) := zsh_g zdk_571 (r := 21) (k := 1) rfl rfl rfl
theorem zd_571_88 : decode prog_14_method_129_code 88 = .ok (.aload_n 0, 1) := zsh_g zdk_571 (r := 22) (k := 0) rfl rfl rfl
theorem zd_571_89 : decode prog_14_method_129_code 89 = .ok (.getfield 1272, 3) := zsh_g zdk_571 (r := 22) (k := 1) rfl rfl rfl
theorem zd_571_92 : decode prog_14_method_129_code 92 = .ok (.iaload, 1) := zsh_g zdk_571 (r := 23) (k := 0) rfl rfl rfl
theorem zd_571_93 : decode prog_14_method_129_code 93 = .ok (.bipush 31, 2) := zsh_g zdk_571 (r := 23) (k := 1) rfl rfl rfl
theorem zd_571_95 : decode prog_14_method_129_code 95 = .ok (.if_icmp .eq 25, 3) := zsh_g zdk_571 (r := 23) (k := 2) rfl rfl rfl
theorem zd_571_98 : decode prog_14_method_129_code 98 = .ok (.aload_n 0, 1) := zsh_g zdk_571 (r := 24) (k := 0) rfl rfl rfl
theorem zd_571_99 : decode prog_14_method_129_code 99 = .ok (.getfield 392, 3) := zsh_g zdk_571 (r := 24) (k := 1) rfl rfl rfl
theorem zd_571_102 : decode prog_14_method_129_code 102 = .ok (.aload_n 0, 1) := zsh_g zdk_571 (r := 25) (k := 0) rfl rfl rfl
theorem zd_571_103 : decode prog_14_method_129_code 103 = .ok (.getfield 1272, 3) := zsh_g zdk_571 (r := 25) (k := 1) rfl rfl rfl
theorem zd_571_106 : decode prog_14_method_129_code 106 = .ok (.iaload, 1) := zsh_g zdk_571 (r := 26) (k := 0) rfl rfl rfl
theorem zd_571_107 : decode prog_14_method_129_code 107 = .ok (.bipush 31, 2) := zsh_g zdk_571 (r := 26) (k := 1) rfl rfl rfl
theorem zd_571_109 : decode prog_14_method_129_code 109 = .ok (.invokestatic 1293, 3) := zsh_g zdk_571 (r := 27) (k := 0) rfl rfl rfl
theorem zd_571_112 : decode prog_14_method_129_code 112 = .ok (.iand, 1) := zsh_g zdk_571 (r := 28) (k := 0) rfl rfl rfl
theorem zd_571_113 : decode prog_14_method_129_code 113 = .ok (.ifCond .ne 7, 3) := zsh_g zdk_571 (r := 28) (k := 1) rfl rfl rfl
theorem zd_571_116 : decode prog_14_method_129_code 116 = .ok (.iconst 1, 1) := zsh_g zdk_571 (r := 29) (k := 0) rfl rfl rfl
theorem zd_571_117 : decode prog_14_method_129_code 117 = .ok (.goto 4, 3) := zsh_g zdk_571 (r := 29) (k := 1) rfl rfl rfl
theorem zd_571_120 : decode prog_14_method_129_code 120 = .ok (.iconst 0, 1) := zsh_g zdk_571 (r := 30) (k := 0) rfl rfl rfl
theorem zd_571_121 : decode prog_14_method_129_code 121 = .ok (.istore 7, 2) := zsh_g zdk_571 (r := 30) (k := 1) rfl rfl rfl
theorem zd_571_123 : decode prog_14_method_129_code 123 = .ok (.aload_n 0, 1) := zsh_g zdk_571 (r := 30) (k := 2) rfl rfl rfl
theorem zd_571_124 : decode prog_14_method_129_code 124 = .ok (.getfield 386, 3) := zsh_g zdk_571 (r := 31) (k := 0) rfl rfl rfl
theorem zd_571_127 : decode prog_14_method_129_code 127 = .ok (.aload_n 0, 1) := zsh_g zdk_571 (r := 31) (k := 1) rfl rfl rfl
theorem zd_571_128 : decode prog_14_method_129_code 128 = .ok (.getfield 1272, 3) := zsh_g zdk_571 (r := 32) (k := 0) rfl rfl rfl
theorem zd_571_131 : decode prog_14_method_129_code 131 = .ok (.iconst 0, 1) := zsh_g zdk_571 (r := 32) (k := 1) rfl rfl rfl
theorem zd_571_132 : decode prog_14_method_129_code 132 = .ok (.bastore, 1) := zsh_g zdk_571 (r := 33) (k := 0) rfl rfl rfl
theorem zd_571_133 : decode prog_14_method_129_code 133 = .ok (.iload 7, 2) := zsh_g zdk_571 (r := 33) (k := 1) rfl rfl rfl
theorem zd_571_135 : decode prog_14_method_129_code 135 = .ok (.ifCond .eq 132, 3) := zsh_g zdk_571 (r := 33) (k := 2) rfl rfl rfl
theorem zd_571_138 : decode prog_14_method_129_code 138 = .ok (.iconst 0, 1) := zsh_g zdk_571 (r := 34) (k := 0) rfl rfl rfl
theorem zd_571_139 : decode prog_14_method_129_code 139 = .ok (.istore 8, 2) := zsh_g zdk_571 (r := 34) (k := 1) rfl rfl rfl
theorem zd_571_141 : decode prog_14_method_129_code 141 = .ok (.iload 8, 2) := zsh_g zdk_571 (r := 35) (k := 0) rfl rfl rfl
theorem zd_571_143 : decode prog_14_method_129_code 143 = .ok (.aload_n 0, 1) := zsh_g zdk_571 (r := 35) (k := 1) rfl rfl rfl
theorem zd_571_144 : decode prog_14_method_129_code 144 = .ok (.getfield 1281, 3) := zsh_g zdk_571 (r := 36) (k := 0) rfl rfl rfl
theorem zd_571_147 : decode prog_14_method_129_code 147 = .ok (.if_icmp .ge 46, 3) := zsh_g zdk_571 (r := 36) (k := 1) rfl rfl rfl
theorem zd_571_150 : decode prog_14_method_129_code 150 = .ok (.aload_n 0, 1) := zsh_g zdk_571 (r := 37) (k := 0) rfl rfl rfl
theorem zd_571_151 : decode prog_14_method_129_code 151 = .ok (.getfield 407, 3) := zsh_g zdk_571 (r := 37) (k := 1) rfl rfl rfl
theorem zd_571_154 : decode prog_14_method_129_code 154 = .ok (.iload 8, 2) := zsh_g zdk_571 (r := 38) (k := 0) rfl rfl rfl
theorem zd_571_156 : decode prog_14_method_129_code 156 = .ok (.iaload, 1) := zsh_g zdk_571 (r := 39) (k := 0) rfl rfl rfl
theorem zd_571_157 : decode prog_14_method_129_code 157 = .ok (.aload_n 0, 1) := zsh_g zdk_571 (r := 39) (k := 1) rfl rfl rfl
theorem zd_571_158 : decode prog_14_method_129_code 158 = .ok (.getfield 1272, 3) := zsh_g zdk_571 (r := 39) (k := 2) rfl rfl rfl
theorem zd_571_161 : decode prog_14_method_129_code 161 = .ok (.if_icmp .ne 26, 3) := zsh_g zdk_571 (r := 40) (k := 0) rfl rfl rfl
theorem zd_571_164 : decode prog_14_method_129_code 164 = .ok (.aload_n 0, 1) := zsh_g zdk_571 (r := 41) (k := 0) rfl rfl rfl
theorem zd_571_165 : decode prog_14_method_129_code 165 = .ok (.getfield 410, 3) := zsh_g zdk_571 (r := 41) (k := 1) rfl rfl rfl
theorem zd_571_168 : decode prog_14_method_129_code 168 = .ok (.iload 8, 2) := zsh_g zdk_571 (r := 42) (k := 0) rfl rfl rfl
theorem zd_571_170 : decode prog_14_method_129_code 170 = .ok (.iaload, 1) := zsh_g zdk_571 (r := 42) (k := 1) rfl rfl rfl
theorem zd_571_171 : decode prog_14_method_129_code 171 = .ok (.iload 6, 2) := zsh_g zdk_571 (r := 42) (k := 2) rfl rfl rfl
theorem zd_571_173 : decode prog_14_method_129_code 173 = .ok (.iconst 4, 1) := zsh_g zdk_571 (r := 43) (k := 0) rfl rfl rfl
theorem zd_571_174 : decode prog_14_method_129_code 174 = .ok (.isub, 1) := zsh_g zdk_571 (r := 43) (k := 1) rfl rfl rfl
theorem zd_571_175 : decode prog_14_method_129_code 175 = .ok (.if_icmp .ne 12, 3) := zsh_g zdk_571 (r := 43) (k := 2) rfl rfl rfl
theorem zd_571_178 : decode prog_14_method_129_code 178 = .ok (.aload_n 0, 1) := zsh_g zdk_571 (r := 44) (k := 0) rfl rfl rfl
theorem zd_571_179 : decode prog_14_method_129_code 179 = .ok (.getfield 410, 3) := zsh_g zdk_571 (r := 44) (k := 1) rfl rfl rfl
theorem zd_571_182 : decode prog_14_method_129_code 182 = .ok (.iload 8, 2) := zsh_g zdk_571 (r := 45) (k := 0) rfl rfl rfl
theorem zd_571_184 : decode prog_14_method_129_code 184 = .ok (.iload 6, 2) := zsh_g zdk_571 (r := 46) (k := 0) rfl rfl rfl
theorem zd_571_186 : decode prog_14_method_129_code 186 = .ok (.iastore, 1) := zsh_g zdk_571 (r := 46) (k := 1) rfl rfl rfl
theorem zd_571_187 : decode prog_14_method_129_code 187 = .ok (.iinc 8 1, 3) := zsh_g zdk_571 (r := 46) (k := 2) rfl rfl rfl
theorem zd_571_190 : decode prog_14_method_129_code 190 = .ok (.goto (-49), 3) := zsh_g zdk_571 (r := 47) (k := 0) rfl rfl rfl
theorem zd_571_193 : decode prog_14_method_129_code 193 = .ok (.iconst 0, 1) := zsh_g zdk_571 (r := 48) (k := 0) rfl rfl rfl
theorem zd_571_194 : decode prog_14_method_129_code 194 = .ok (.istore 8, 2) := zsh_g zdk_571 (r := 48) (k := 1) rfl rfl rfl
theorem zd_571_196 : decode prog_14_method_129_code 196 = .ok (.iload 8, 2) := zsh_g zdk_571 (r := 49) (k := 0) rfl rfl rfl
theorem zd_571_198 : decode prog_14_method_129_code 198 = .ok (.iconst 4, 1) := zsh_g zdk_571 (r := 49) (k := 1) rfl rfl rfl
theorem zd_571_199 : decode prog_14_method_129_code 199 = .ok (.if_icmp .ge 37, 3) := zsh_g zdk_571 (r := 49) (k := 2) rfl rfl rfl
theorem zd_571_202 : decode prog_14_method_129_code 202 = .ok (.aload_n 0, 1) := zsh_g zdk_571 (r := 50) (k := 0) rfl rfl rfl
theorem zd_571_203 : decode prog_14_method_129_code 203 = .ok (.getfield 377, 3) := zsh_g zdk_571 (r := 50) (k := 1) rfl rfl rfl
theorem zd_571_206 : decode prog_14_method_129_code 206 = .ok (.aload_n 0, 1) := zsh_g zdk_571 (r := 51) (k := 0) rfl rfl rfl
theorem zd_571_207 : decode prog_14_method_129_code 207 = .ok (.getfield 389, 3) := zsh_g zdk_571 (r := 51) (k := 1) rfl rfl rfl
theorem zd_571_210 : decode prog_14_method_129_code 210 = .ok (.aload_n 0, 1) := zsh_g zdk_571 (r := 52) (k := 0) rfl rfl rfl
theorem zd_571_211 : decode prog_14_method_129_code 211 = .ok (.getfield 1272, 3) := zsh_g zdk_571 (r := 52) (k := 1) rfl rfl rfl
theorem zd_571_214 : decode prog_14_method_129_code 214 = .ok (.iaload, 1) := zsh_g zdk_571 (r := 53) (k := 0) rfl rfl rfl
theorem zd_571_215 : decode prog_14_method_129_code 215 = .ok (.iload 8, 2) := zsh_g zdk_571 (r := 53) (k := 1) rfl rfl rfl
theorem zd_571_217 : decode prog_14_method_129_code 217 = .ok (.iadd, 1) := zsh_g zdk_571 (r := 54) (k := 0) rfl rfl rfl
theorem zd_571_218 : decode prog_14_method_129_code 218 = .ok (.iload_n 1, 1) := zsh_g zdk_571 (r := 54) (k := 1) rfl rfl rfl
theorem zd_571_219 : decode prog_14_method_129_code 219 = .ok (.bipush 8, 2) := zsh_g zdk_571 (r := 54) (k := 2) rfl rfl rfl
theorem zd_571_221 : decode prog_14_method_129_code 221 = .ok (.iload 8, 2) := zsh_g zdk_571 (r := 55) (k := 0) rfl rfl rfl
theorem zd_571_223 : decode prog_14_method_129_code 223 = .ok (.imul, 1) := zsh_g zdk_571 (r := 55) (k := 1) rfl rfl rfl
theorem zd_571_224 : decode prog_14_method_129_code 224 = .ok (.ishr, 1) := zsh_g zdk_571 (r := 56) (k := 0) rfl rfl rfl
theorem zd_571_225 : decode prog_14_method_129_code 225 = .ok (.sipush 255, 3) := zsh_g zdk_571 (r := 56) (k := 1) rfl rfl rfl
theorem zd_571_228 : decode prog_14_method_129_code 228 = .ok (.iand, 1) := zsh_g zdk_571 (r := 57) (k := 0) rfl rfl rfl
theorem zd_571_229 : decode prog_14_method_129_code 229 = .ok (.iastore, 1) := zsh_g zdk_571 (r := 57) (k := 1) rfl rfl rfl
theorem zd_571_230 : decode prog_14_method_129_code 230 = .ok (.iinc 8 1, 3) := zsh_g zdk_571 (r := 57) (k := 2) rfl rfl rfl
theorem zd_571_233 : decode prog_14_method_129_code 233 = .ok (.goto (-37), 3) := zsh_g zdk_571 (r := 58) (k := 0) rfl rfl rfl
theorem zd_571_236 : decode prog_14_method_129_code 236 = .ok (.iload 4, 2) := zsh_g zdk_571 (r := 59) (k := 0) rfl rfl rfl
theorem zd_571_238 : decode prog_14_method_129_code 238 = .ok (.ifCond .lt 15, 3) := zsh_g zdk_571 (r := 59) (k := 1) rfl rfl rfl
theorem zd_571_241 : decode prog_14_method_129_code 241 = .ok (.aload_n 0, 1) := zsh_g zdk_571 (r := 60) (k := 0) rfl rfl rfl
theorem zd_571_242 : decode prog_14_method_129_code 242 = .ok (.iload 4, 2) := zsh_g zdk_571 (r := 60) (k := 1) rfl rfl rfl
theorem zd_571_244 : decode prog_14_method_129_code 244 = .ok (.iload 5, 2) := zsh_g zdk_571 (r := 61) (k := 0) rfl rfl rfl
theorem zd_571_246 : decode prog_14_method_129_code 246 = .ok (.iload 6, 2) := zsh_g zdk_571 (r := 61) (k := 1) rfl rfl rfl
theorem zd_571_248 : decode prog_14_method_129_code 248 = .ok (.iconst 4, 1) := zsh_g zdk_571 (r := 62) (k := 0) rfl rfl rfl
theorem zd_571_249 : decode prog_14_method_129_code 249 = .ok (.isub, 1) := zsh_g zdk_571 (r := 62) (k := 1) rfl rfl rfl
theorem zd_571_250 : decode prog_14_method_129_code 250 = .ok (.invokevirtual 1296, 3) := zsh_g zdk_571 (r := 62) (k := 2) rfl rfl rfl
theorem zd_571_253 : decode prog_14_method_129_code 253 = .ok (.aload_n 0, 1) := zsh_g zdk_571 (r := 63) (k := 0) rfl rfl rfl
theorem zd_571_254 : decode prog_14_method_129_code 254 = .ok (.aload_n 0, 1) := zsh_g zdk_571 (r := 63) (k := 1) rfl rfl rfl
theorem zd_571_255 : decode prog_14_method_129_code 255 = .ok (.getfield 398, 3) := zsh_g zdk_571 (r := 63) (k := 2) rfl rfl rfl
theorem zd_571_258 : decode prog_14_method_129_code 258 = .ok (.aload_n 0, 1) := zsh_g zdk_571 (r := 64) (k := 0) rfl rfl rfl
theorem zd_571_259 : decode prog_14_method_129_code 259 = .ok (.getfield 1272, 3) := zsh_g zdk_571 (r := 64) (k := 1) rfl rfl rfl
theorem zd_571_262 : decode prog_14_method_129_code 262 = .ok (.iaload, 1) := zsh_g zdk_571 (r := 65) (k := 0) rfl rfl rfl
theorem zd_571_263 : decode prog_14_method_129_code 263 = .ok (.invokevirtual 1284, 3) := zsh_g zdk_571 (r := 65) (k := 1) rfl rfl rfl
theorem zd_571_267 : decode prog_14_method_129_code 267 = .ok (.iload 4, 2) := zsh_g zdk_571 (r := 66) (k := 0) rfl rfl rfl
theorem zd_571_269 : decode prog_14_method_129_code 269 = .ok (.ifCond .lt 13, 3) := zsh_g zdk_571 (r := 67) (k := 0) rfl rfl rfl
theorem zd_571_272 : decode prog_14_method_129_code 272 = .ok (.aload_n 0, 1) := zsh_g zdk_571 (r := 68) (k := 0) rfl rfl rfl
theorem zd_571_273 : decode prog_14_method_129_code 273 = .ok (.iload 4, 2) := zsh_g zdk_571 (r := 68) (k := 1) rfl rfl rfl
theorem zd_571_275 : decode prog_14_method_129_code 275 = .ok (.iload 5, 2) := zsh_g zdk_571 (r := 68) (k := 2) rfl rfl rfl
theorem zd_571_277 : decode prog_14_method_129_code 277 = .ok (.iload 6, 2) := zsh_g zdk_571 (r := 69) (k := 0) rfl rfl rfl
theorem zd_571_279 : decode prog_14_method_129_code 279 = .ok (.invokevirtual 1296, 3) := zsh_g zdk_571 (r := 69) (k := 1) rfl rfl rfl
theorem zd_571_282 : decode prog_14_method_129_code 282 = .ok (.aload_n 0, 1) := zsh_g zdk_571 (r := 70) (k := 0) rfl rfl rfl
theorem zd_571_283 : decode prog_14_method_129_code 283 = .ok (.iload_n 1, 1) := zsh_g zdk_571 (r := 70) (k := 1) rfl rfl rfl
theorem zd_571_284 : decode prog_14_method_129_code 284 = .ok (.invokevirtual 1284, 3) := zsh_g zdk_571 (r := 71) (k := 0) rfl rfl rfl
theorem zd_571_287 : decode prog_14_method_129_code 287 = .ok (.aload_n 0, 1) := zsh_g zdk_571 (r := 71) (k := 1) rfl rfl rfl
theorem zd_571_288 : decode prog_14_method_129_code 288 = .ok (.getfield 1287, 3) := zsh_g zdk_571 (r := 72) (k := 0) rfl rfl rfl
theorem zd_571_291 : decode prog_14_method_129_code 291 = .ok (.ifCond .eq 8, 3) := zsh_g zdk_571 (r := 72) (k := 1) rfl rfl rfl
theorem zd_571_294 : decode prog_14_method_129_code 294 = .ok (.aload_n 0, 1) := zsh_g zdk_571 (r := 73) (k := 0) rfl rfl rfl
theorem zd_571_295 : decode prog_14_method_129_code 295 = .ok (.iconst 0, 1) := zsh_g zdk_571 (r := 73) (k := 1) rfl rfl rfl
theorem zd_571_296 : decode prog_14_method_129_code 296 = .ok (.invokevirtual 1284, 3) := zsh_g zdk_571 (r := 74) (k := 0) rfl rfl rfl
def zdl_572 : List (List (Nat × Instr × Nat)) := [[(0, (.aload_n 0), 1), (1, (.getfield 1275), 3)], [(0, (.istore 5), 2), (2, (.aload_n 0), 1), (3, (.iload_n 1), 1)], [(0, (.invokevirtual 1284), 3), (3, (.aload_n 0), 1)], [(0, (.getfield 386), 3), (3, (.aload_n 0), 1)], [(0, (.getfield 1272), 3), (3, (.aload_n 0), 1)], [(0, (.getfield 1287), 3), (3, (.ifCond .eq 12), 3)], [(2, (.iload 4), 2)], [(0, (.ifCond .eq 7), 3), (3, (.iconst 1), 1)], [(0, (.goto 4), 3), (3, (.iconst 0), 1)], [(0, .bastore, 1), (1, (.aload_n 0), 1), (2, (.getfield 389), 3)], [(1, (.aload_n 0), 1), (2, (.getfield 1272), 3)], [(1, (.iload 5), 2), (3, .iastore, 1)], [(0, (.aload_n 0), 1), (1, (.getfield 392), 3)], [(0, (.aload_n 0), 1), (1, (.getfield 1272), 3)], [(0, (.iload_n 2), 1), (1, .iastore, 1), (2, (.aload_n 0), 1), (3, (.getfield 395), 3)], [(2, (.aload_n 0), 1), (3, (.getfield 1272), 3)], [(2, (.iload_n 3), 1), (3, .iastore, 1)], [(0, (.aload_n 0), 1), (1, (.getfield 398), 3)], [(0, (.aload_n 0), 1), (1, (.getfield 1272), 3)], [(0, (.iload_n 1), 1), (1, .iastore, 1)]]
theorem zdk_572 : zsh_all 8 zdl_572 prog_14_method_127_code.data.toList = true := by decide +kernel
theorem zd_572_0 : decode prog_14_method_127_code 0 = .ok (.aload_n 0, 1) := zsh_g zdk_572 (r := 0) (k := 0) rfl rfl rfl
theorem zd_572_1 : decode prog_14_method_127_code 1 = .ok (.getfield 1275, 3) := zsh_g zdk_572 (r := 0) (k := 1) rfl rfl rfl
theorem zd_572_4 : decode prog_14_method_127_code 4 = .ok (.istore 5, 2) := zsh_g zdk_572 (r := 1) (k := 0) rfl rfl rfl
theorem zd_572_6 : decode prog_14_method_127_code 6 = .ok (.aload_n 0, 1) := zsh_g zdk_572 (r := 1) (k := 1) rfl rfl rfl
theorem zd_572_7 : decode prog_14_method_127_code 7 = .ok (.iload_n 1, 1) := zsh_g zdk_572 (r := 1) (k := 2) rfl rfl rfl
theorem zd_572_8 : decode prog_14_method_127_code 8 = .ok (.invokevirtual 1284, 3) := zsh_g zdk_572 (r := 2) (k := 0) rfl rfl rfl
theorem zd_572_11 : decode prog_14_method_127_code 11 = .ok (.aload_n 0, 1) := zsh_g zdk_572 (r := 2) (k := 1) rfl rfl rfl
theorem zd_572_12 : decode prog_14_method_127_code 12 = .ok (.getfield 386, 3) := zsh_g zdk_572 (r := 3) (k := 0) rfl rfl rfl
theorem zd_572_15 : decode prog_14_method_127_code 15 = .ok (.aload_n 0, 1) := zsh_g zdk_572 (r := 3) (k := 1) rfl rfl rfl
theorem zd_572_16 : decode prog_14_method_127_code 16 = .ok (.getfield 1272, 3) := zsh_g zdk_572 (r := 4) (k := 0) rfl rfl rfl
theorem zd_572_19 : decode prog_14_method_127_code 19 = .ok (.aload_n 0, 1) := zsh_g zdk_572 (r := 4) (k := 1) rfl rfl rfl
theorem zd_572_20 : decode prog_14_method_127_code 20 = .ok (.getfield 1287, 3) := zsh_g zdk_572 (r := 5) (k := 0) rfl rfl rfl
theorem zd_572_23 : decode prog_14_method_127_code 23 = .ok (.ifCond .eq 12, 3) := zsh_g zdk_572 (r := 5) (k := 1) rfl rfl rfl
theorem zd_572_26 : decode prog_14_method_127_code 26 = .ok (.iload 4, 2) := zsh_g zdk_572 (r := 6) (k := 0) rfl rfl rfl
theorem zd_572_28 : decode prog_14_method_127_code 28 = .ok (.ifCond .eq 7, 3) := zsh_g zdk_572 (r := 7) (k := 0) rfl rfl rfl
theorem zd_572_31 : decode prog_14_method_127_code 31 = .ok (.iconst 1, 1) := zsh_g zdk_572 (r := 7) (k := 1) rfl rfl rfl
theorem zd_572_32 : decode prog_14_method_127_code 32 = .ok (.goto 4, 3) := zsh_g zdk_572 (r := 8) (k := 0) rfl rfl rfl
theorem zd_572_35 : decode prog_14_method_127_code 35 = .ok (.iconst 0, 1) := zsh_g zdk_572 (r := 8) (k := 1) rfl rfl rfl
theorem zd_572_36 : decode prog_14_method_127_code 36 = .ok (.bastore, 1) := zsh_g zdk_572 (r := 9) (k := 0) rfl rfl rfl
theorem zd_572_37 : decode prog_14_method_127_code 37 = .ok (.aload_n 0, 1) := zsh_g zdk_572 (r := 9) (k := 1) rfl rfl rfl
theorem zd_572_38 : decode prog_14_method_127_code 38 = .ok (.getfield 389, 3) := zsh_g zdk_572 (r := 9) (k := 2) rfl rfl rfl
theorem zd_572_41 : decode prog_14_method_127_code 41 = .ok (.aload_n 0, 1) := zsh_g zdk_572 (r := 10) (k := 0) rfl rfl rfl
theorem zd_572_42 : decode prog_14_method_127_code 42 = .ok (.getfield 1272, 3) := zsh_g zdk_572 (r := 10) (k := 1) rfl rfl rfl
theorem zd_572_45 : decode prog_14_method_127_code 45 = .ok (.iload 5, 2) := zsh_g zdk_572 (r := 11) (k := 0) rfl rfl rfl
theorem zd_572_47 : decode prog_14_method_127_code 47 = .ok (.iastore, 1) := zsh_g zdk_572 (r := 11) (k := 1) rfl rfl rfl
theorem zd_572_48 : decode prog_14_method_127_code 48 = .ok (.aload_n 0, 1) := zsh_g zdk_572 (r := 12) (k := 0) rfl rfl rfl
theorem zd_572_49 : decode prog_14_method_127_code 49 = .ok (.getfield 392, 3) := zsh_g zdk_572 (r := 12) (k := 1) rfl rfl rfl
theorem zd_572_52 : decode prog_14_method_127_code 52 = .ok (.aload_n 0, 1) := zsh_g zdk_572 (r := 13) (k := 0) rfl rfl rfl
theorem zd_572_53 : decode prog_14_method_127_code 53 = .ok (.getfield 1272, 3) := zsh_g zdk_572 (r := 13) (k := 1) rfl rfl rfl
theorem zd_572_56 : decode prog_14_method_127_code 56 = .ok (.iload_n 2, 1) := zsh_g zdk_572 (r := 14) (k := 0) rfl rfl rfl
theorem zd_572_57 : decode prog_14_method_127_code 57 = .ok (.iastore, 1) := zsh_g zdk_572 (r := 14) (k := 1) rfl rfl rfl
theorem zd_572_58 : decode prog_14_method_127_code 58 = .ok (.aload_n 0, 1) := zsh_g zdk_572 (r := 14) (k := 2) rfl rfl rfl
theorem zd_572_59 : decode prog_14_method_127_code 59 = .ok (.getfield 395, 3) := zsh_g zdk_572 (r := 14) (k := 3) rfl rfl rfl
theorem zd_572_62 : decode prog_14_method_127_code 62 = .ok (.aload_n 0, 1) := zsh_g zdk_572 (r := 15) (k := 0) rfl rfl rfl
theorem zd_572_63 : decode prog_14_method_127_code 63 = .ok (.getfield 1272, 3) := zsh_g zdk_572 (r := 15) (k := 1) rfl rfl rfl
theorem zd_572_66 : decode prog_14_method_127_code 66 = .ok (.iload_n 3, 1) := zsh_g zdk_572 (r := 16) (k := 0) rfl rfl rfl
theorem zd_572_67 : decode prog_14_method_127_code 67 = .ok (.iastore, 1) := zsh_g zdk_572 (r := 16) (k := 1) rfl rfl rfl
theorem zd_572_68 : decode prog_14_method_127_code 68 = .ok (.aload_n 0, 1) := zsh_g zdk_572 (r := 17) (k := 0) rfl rfl rfl
theorem zd_572_69 : decode prog_14_method_127_code 69 = .ok (.getfield 398, 3) := zsh_g zdk_572 (r := 17) (k := 1) rfl rfl rfl
theorem zd_572_72 : decode prog_14_method_127_code 72 = .ok (.aload_n 0, 1) := zsh_g zdk_572 (r := 18) (k := 0) rfl rfl rfl
theorem zd_572_73 : decode prog_14_method_127_code 73 = .ok (.getfield 1272, 3) := zsh_g zdk_572 (r := 18) (k := 1) rfl rfl rfl
theorem zd_572_76 : decode prog_14_method_127_code 76 = .ok (.iload_n 1, 1) := zsh_g zdk_572 (r := 19) (k := 0) rfl rfl rfl
theorem zd_572_77 : decode prog_14_method_127_code 77 = .ok (.iastore, 1) := zsh_g zdk_572 (r := 19) (k := 1) rfl rfl rfl
def zdl_573 : List (List (Nat × Instr × Nat)) := [[(0, (.aload_n 0), 1), (1, (.getfield 434), 3)], [(0, (.iload_n 1), 1), (1, .iaload, 1), (2, (.ifCond .eq 10), 3)], [(1, (.aload_n 0), 1), (2, (.getfield 1183), 3)], [(1, (.ifCond .le 4), 3)], [(1, (.aload_n 0), 1), (2, (.getfield 1281), 3)], [(1, (.sipush 3000), 3)], [(0, (.if_icmp .ne 10), 3), (3, (.aload_n 0), 1)], [(0, (.bipush 6), 2), (2, (.invokevirtual 1216), 3)], [(2, (.aload_n 0), 1), (3, (.getfield 407), 3)], [(2, (.aload_n 0), 1), (3, (.getfield 1281), 3)], [(2, (.aload_n 0), 1), (3, (.getfield 1272), 3)], [(2, .iastore, 1), (3, (.aload_n 0), 1)], [(0, (.getfield 410), 3), (3, (.aload_n 0), 1)], [(0, (.getfield 1281), 3), (3, (.iload_n 3), 1)], [(0, .iastore, 1), (1, (.aload_n 0), 1), (2, (.getfield 413), 3)], [(1, (.aload_n 0), 1), (2, (.getfield 1281), 3)], [(1, (.iload_n 2), 1), (2, .iastore, 1), (3, (.aload_n 0), 1)], [(0, (.getfield 425), 3), (3, (.aload_n 0), 1)], [(0, (.getfield 1281), 3), (3, (.aload_n 0), 1)], [(0, (.getfield 431), 3), (3, (.iload_n 1), 1)], [(0, .iaload, 1), (1, .iastore, 1), (2, (.aload_n 0), 1), (3, (.getfield 428), 3)], [(2, (.aload_n 0), 1), (3, (.getfield 1281), 3)], [(2, (.aload_n 0), 1), (3, (.getfield 1177), 3)], [(2, .iastore, 1), (3, (.aload_n 0), 1)], [(0, (.getfield 416), 3), (3, (.aload_n 0), 1)], [(0, (.getfield 1281), 3), (3, (.aload_n 0), 1)], [(0, (.getfield 434), 3), (3, (.iload_n 1), 1)], [(0, .iaload, 1), (1, .iastore, 1), (2, (.aload_n 0), 1), (3, (.getfield 419), 3)], [(2, (.aload_n 0), 1), (3, (.getfield 1281), 3)], [(2, (.aload_n 0), 1), (3, (.getfield 437), 3)], [(2, (.iload_n 1), 1), (3, .iaload, 1)], [(0, .iastore, 1), (1, (.aload_n 0), 1), (2, (.getfield 422), 3)], [(1, (.aload_n 0), 1), (2, (.getfield 1281), 3)], [(1, (.iconst (-1)), 1), (2, .iastore, 1), (3, (.aload_n 0), 1)], [(0, (.getfield 434), 3), (3, (.iload_n 1), 1)], [(0, .iaload, 1), (1, (.iconst 2), 1), (2, (.if_icmp .ne 50), 3)], [(1, (.aload_n 0), 1), (2, (.getfield 422), 3)], [(1, (.aload_n 0), 1), (2, (.getfield 1281), 3)], [(1, (.aload_n 0), 1), (2, (.getfield 401), 3)], [(1, (.aload_n 0), 1), (2, (.getfield 437), 3)], [(1, (.iload_n 1), 1), (2, .iaload, 1), (3, .iaload, 1)], [(0, .iastore, 1), (1, (.aload_n 0), 1), (2, (.getfield 425), 3)], [(1, (.aload_n 0), 1), (2, (.getfield 1281), 3)], [(1, (.aload_n 0), 1), (2, (.getfield 431), 3)], [(1, (.iload_n 1), 1), (2, .iaload, 1), (3, (.aload_n 0), 1)], [(0, (.getfield 404), 3), (3, (.aload_n 0), 1)], [(0, (.getfield 437), 3), (3, (.iload_n 1), 1)], [(0, .iaload, 1), (1, .iaload, 1), (2, .iadd, 1), (3, .iastore, 1)], [(0, (.aload_n 0), 1), (1, .dup, 1), (2, (.getfield 1281), 3)], [(1, (.iconst 1), 1), (2, .iadd, 1), (3, (.putfield 1281), 3)]]
theorem zdk_573 : zsh_all 8 zdl_573 prog_14_method_126_code.data.toList = true := by decide +kernel
theorem zd_573_0 : decode prog_14_method_126_code 0 = .ok (.aload_n 0, 1) := zsh_g zdk_573 (r := 0) (k := 0) rfl rfl rfl
theorem zd_573_1 : decode prog_14_method_126_code 1 = .ok (.getfield 434, 3) := zsh_g zdk_573 (r := 0) (k := 1) rfl rfl rfl
theorem zd_573_4 : decode prog_14_method_126_code 4 = .ok (.iload_n 1, 1) := zsh_g zdk_573 (r := 1) (k := 0) rfl rfl rfl
theorem zd_573_5 : decode prog_14_method_126_code 5 = .ok (.iaload, 1) := zsh_g zdk_573 (r := 1) (k := 1) rfl rfl rfl
theorem zd_573_6 : decode prog_14_method_126_code 6 = .ok (.ifCond .eq 10, 3) := zsh_g zdk_573 (r := 1) (k := 2) rfl rfl rfl
theorem zd_573_9 : decode prog_14_method_126_code 9 = .ok (.aload_n 0, 1) := zsh_g zdk_573 (r := 2) (k := 0) rfl rfl rfl
theorem zd_573_10 : decode prog_14_method_126_code 10 = .ok (.getfield 1183, 3) := zsh_g zdk_573 (r := 2) (k := 1) rfl rfl rfl
theorem zd_573_13 : decode prog_14_method_126_code 13 = .ok (.ifCond .le 4, 3) := zsh_g zdk_573 (r := 3) (k := 0) rfl rfl rfl
theorem zd_573_17 : decode prog_14_method_126_code 17 = .ok (.aload_n 0, 1) := zsh_g zdk_573 (r := 4) (k := 0) rfl rfl rfl
theorem zd_573_18 : decode prog_14_method_126_code 18 = .ok (.getfield 1281, 3) := zsh_g zdk_573 (r := 4) (k := 1) rfl rfl rfl
theorem zd_573_21 : decode prog_14_method_126_code 21 = .ok (.sipush 3000, 3) := zsh_g zdk_573 (r := 5) (k := 0) rfl rfl rfl
theorem zd_573_24 : decode prog_14_method_126_code 24 = .ok (.if_icmp .ne 10, 3) := zsh_g zdk_573 (r := 6) (k := 0) rfl rfl rfl
theorem zd_573_27 : decode prog_14_method_126_code 27 = .ok (.aload_n 0, 1) := zsh_g zdk_573 (r := 6) (k := 1) rfl rfl rfl
theorem zd_573_28 : decode prog_14_method_126_code 28 = .ok (.bipush 6, 2) := zsh_g zdk_573 (r := 7) (k := 0) rfl rfl rfl
theorem zd_573_30 : decode prog_14_method_126_code 30 = .ok (.invokevirtual 1216, 3) := zsh_g zdk_573 (r := 7) (k := 1) rfl rfl rfl
theorem zd_573_34 : decode prog_14_method_126_code 34 = .ok (.aload_n 0, 1) := zsh_g zdk_573 (r := 8) (k := 0) rfl rfl rfl
theorem zd_573_35 : decode prog_14_method_126_code 35 = .ok (.getfield 407, 3) := zsh_g zdk_573 (r := 8) (k := 1) rfl rfl rfl
theorem zd_573_38 : decode prog_14_method_126_code 38 = .ok (.aload_n 0, 1) := zsh_g zdk_573 (r := 9) (k := 0) rfl rfl rfl
theorem zd_573_39 : decode prog_14_method_126_code 39 = .ok (.getfield 1281, 3) := zsh_g zdk_573 (r := 9) (k := 1) rfl rfl rfl
theorem zd_573_42 : decode prog_14_method_126_code 42 = .ok (.aload_n 0, 1) := zsh_g zdk_573 (r := 10) (k := 0) rfl rfl rfl
theorem zd_573_43 : decode prog_14_method_126_code 43 = .ok (.getfield 1272, 3) := zsh_g zdk_573 (r := 10) (k := 1) rfl rfl rfl
theorem zd_573_46 : decode prog_14_method_126_code 46 = .ok (.iastore, 1) := zsh_g zdk_573 (r := 11) (k := 0) rfl rfl rfl
theorem zd_573_47 : decode prog_14_method_126_code 47 = .ok (.aload_n 0, 1) := zsh_g zdk_573 (r := 11) (k := 1) rfl rfl rfl
theorem zd_573_48 : decode prog_14_method_126_code 48 = .ok (.getfield 410, 3) := zsh_g zdk_573 (r := 12) (k := 0) rfl rfl rfl
theorem zd_573_51 : decode prog_14_method_126_code 51 = .ok (.aload_n 0, 1) := zsh_g zdk_573 (r := 12) (k := 1) rfl rfl rfl
theorem zd_573_52 : decode prog_14_method_126_code 52 = .ok (.getfield 1281, 3) := zsh_g zdk_573 (r := 13) (k := 0) rfl rfl rfl
theorem zd_573_55 : decode prog_14_method_126_code 55 = .ok (.iload_n 3, 1) := zsh_g zdk_573 (r := 13) (k := 1) rfl rfl rfl
theorem zd_573_56 : decode prog_14_method_126_code 56 = .ok (.iastore, 1) := zsh_g zdk_573 (r := 14) (k := 0) rfl rfl rfl
theorem zd_573_57 : decode prog_14_method_126_code 57 = .ok (.aload_n 0, 1) := zsh_g zdk_573 (r := 14) (k := 1) rfl rfl rfl
theorem zd_573_58 : decode prog_14_method_126_code 58 = .ok (.getfield 413, 3) := zsh_g zdk_573 (r := 14) (k := 2) rfl rfl rfl
theorem zd_573_61 : decode prog_14_method_126_code 61 = .ok (.aload_n 0, 1) := zsh_g zdk_573 (r := 15) (k := 0) rfl rfl rfl
theorem zd_573_62 : decode prog_14_method_126_code 62 = .ok (.getfield 1281, 3) := zsh_g zdk_573 (r := 15) (k := 1) rfl rfl rfl
theorem zd_573_65 : decode prog_14_method_126_code 65 = .ok (.iload_n 2, 1) := zsh_g zdk_573 (r := 16) (k := 0) rfl rfl rfl
theorem zd_573_66 : decode prog_14_method_126_code 66 = .ok (.iastore, 1) := zsh_g zdk_573 (r := 16) (k := 1) rfl rfl rfl
theorem zd_573_67 : decode prog_14_method_126_code 67 = .ok (.aload_n 0, 1) := zsh_g zdk_573 (r := 16) (k := 2) rfl rfl rfl
theorem zd_573_68 : decode prog_14_method_126_code 68 = .ok (.getfield 425, 3) := zsh_g zdk_573 (r := 17) (k := 0) rfl rfl rfl
theorem zd_573_71 : decode prog_14_method_126_code 71 = .ok (.aload_n 0, 1) := zsh_g zdk_573 (r := 17) (k := 1) rfl rfl rfl
theorem zd_573_72 : decode prog_14_method_126_code 72 = .ok (.getfield 1281, 3) := zsh_g zdk_573 (r := 18) (k := 0) rfl rfl rfl
theorem zd_573_75 : decode prog_14_method_126_code 75 = .ok (.aload_n 0, 1) := zsh_g zdk_573 (r := 18) (k := 1) rfl rfl rfl
theorem zd_573_76 : decode prog_14_method_126_code 76 = .ok (.getfield 431, 3) := zsh_g zdk_573 (r := 19) (k := 0) rfl rfl rfl
theorem zd_573_79 : decode prog_14_method_126_code 79 = .ok (.iload_n 1, 1) := zsh_g zdk_573 (r := 19) (k := 1) rfl rfl rfl
theorem zd_573_80 : decode prog_14_method_126_code 80 = .ok (.iaload, 1) := zsh_g zdk_573 (r := 20) (k := 0) rfl rfl rfl
theorem zd_573_81 : decode prog_14_method_126_code 81 = .ok (.iastore, 1) := zsh_g zdk_573 (r := 20) (k := 1) rfl rfl rfl
theorem zd_573_82 : decode prog_14_method_126_code 82 = .ok (.aload_n 0, 1) := zsh_g zdk_573 (r := 20) (k := 2) rfl rfl rfl
theorem zd_573_83 : decode prog_14_method_126_code 83 = .ok (.getfield 428, 3) := zsh_g zdk_573 (r := 20) (k := 3) rfl rfl rfl
theorem zd_573_86 : decode prog_14_method_126_code 86 = .ok (.aload_n 0, 1) := zsh_g zdk_573 (r := 21) (k := 0) rfl rfl rfl
theorem zd_573_87 : decode prog_14_method_126_code 87 = .ok (.getfield 1281, 3) := zsh_g zdk_573 (r := 21) (k := 1) rfl rfl rfl
theorem zd_573_90 : decode prog_14_method_126_code 90 = .ok (.aload_n 0, 1) := zsh_g zdk_573 (r := 22) (k := 0) rfl rfl rfl
theorem zd_573_91 : decode prog_14_method_126_code 91 = .ok (.getfield 1177, 3) := zsh_g zdk_573 (r := 22) (k := 1) rfl rfl rfl
theorem zd_573_94 : decode prog_14_method_126_code 94 = .ok (.iastore, 1) := zsh_g zdk_573 (r := 23) (k := 0) rfl rfl rfl
theorem zd_573_95 : decode prog_14_method_126_code 95 = .ok (.aload_n 0, 1) := zsh_g zdk_573 (r := 23) (k := 1) rfl rfl rfl
theorem zd_573_96 : decode prog_14_method_126_code 96 = .ok (.getfield 416, 3) := zsh_g zdk_573 (r := 24) (k := 0) rfl rfl rfl
theorem zd_573_99 : decode prog_14_method_126_code 99 = .ok (.aload_n 0, 1) := zsh_g zdk_573 (r := 24) (k := 1) rfl rfl rfl
theorem zd_573_100 : decode prog_14_method_126_code 100 = .ok (.getfield 1281, 3) := zsh_g zdk_573 (r := 25) (k := 0) rfl rfl rfl
theorem zd_573_103 : decode prog_14_method_126_code 103 = .ok (.aload_n 0, 1) := zsh_g zdk_573 (r := 25) (k := 1) rfl rfl rfl
theorem zd_573_104 : decode prog_14_method_126_code 104 = .ok (.getfield 434, 3) := zsh_g zdk_573 (r := 26) (k := 0) rfl rfl rfl
theorem zd_573_107 : decode prog_14_method_126_code 107 = .ok (.iload_n 1, 1) := zsh_g zdk_573 (r := 26) (k := 1) rfl rfl rfl
theorem zd_573_108 : decode prog_14_method_126_code 108 = .ok (.iaload, 1) := zsh_g zdk_573 (r := 27) (k := 0) rfl rfl rfl
theorem zd_573_109 : decode prog_14_method_126_code 109 = .ok (.iastore, 1) := zsh_g zdk_573 (r := 27) (k := 1) rfl rfl rfl
theorem zd_573_110 : decode prog_14_method_126_code 110 = .ok (.aload_n 0, 1) := zsh_g zdk_573 (r := 27) (k := 2) rfl rfl rfl
theorem zd_573_111 : decode prog_14_method_126_code 111 = .ok (.getfield 419, 3) := zsh_g zdk_573 (r := 27) (k := 3) rfl rfl rfl
theorem zd_573_114 : decode prog_14_method_126_code 114 = .ok (.aload_n 0, 1) := zsh_g zdk_573 (r := 28) (k := 0) rfl rfl rfl
theorem zd_573_115 : decode prog_14_method_126_code 115 = .ok (.getfield 1281, 3) := zsh_g zdk_573 (r := 28) (k := 1) rfl rfl rfl
theorem zd_573_118 : decode prog_14_method_126_code 118 = .ok (.aload_n 0, 1) := zsh_g zdk_573 (r := 29) (k := 0) rfl rfl rfl
theorem zd_573_119 : decode prog_14_method_126_code 119 = .ok (.getfield 437, 3) := zsh_g zdk_573 (r := 29) (k := 1) rfl rfl rfl
theorem zd_573_122 : decode prog_14_method_126_code 122 = .ok (.iload_n 1, 1) := zsh_g zdk_573 (r := 30) (k := 0) rfl rfl rfl
theorem zd_573_123 : decode prog_14_method_126_code 123 = .ok (.iaload, 1) := zsh_g zdk_573 (r := 30) (k := 1) rfl rfl rfl
theorem zd_573_124 : decode prog_14_method_126_code 124 = .ok (.iastore, 1) := zsh_g zdk_573 (r := 31) (k := 0) rfl rfl rfl
theorem zd_573_125 : decode prog_14_method_126_code 125 = .ok (.aload_n 0, 1) := zsh_g zdk_573 (r := 31) (k := 1) rfl rfl rfl
theorem zd_573_126 : decode prog_14_method_126_code 126 = .ok (.getfield 422, 3) := zsh_g zdk_573 (r := 31) (k := 2) rfl rfl rfl
theorem zd_573_129 : decode prog_14_method_126_code 129 = .ok (.aload_n 0, 1) := zsh_g zdk_573 (r := 32) (k := 0) rfl rfl rfl
theorem zd_573_130 : decode prog_14_method_126_code 130 = .ok (.getfield 1281, 3) := zsh_g zdk_573 (r := 32) (k := 1) rfl rfl rfl
theorem zd_573_133 : decode prog_14_method_126_code 133 = .ok (.iconst (-1), 1) := zsh_g zdk_573 (r := 33) (k := 0) rfl rfl rfl
theorem zd_573_134 : decode prog_14_method_126_code 134 = .ok (.iastore, 1) := zsh_g zdk_573 (r := 33) (k := 1) rfl rfl rfl
theorem zd_573_135 : decode prog_14_method_126_code 135 = .ok (.aload_n 0, 1) := zsh_g zdk_573 (r := 33) (k := 2) rfl rfl rfl
theorem zd_573_136 : decode prog_14_method_126_code 136 = .ok (.getfield 434, 3) := zsh_g zdk_573 (r := 34) (k := 0) rfl rfl rfl
theorem zd_573_139 : decode prog_14_method_126_code 139 = .ok (.iload_n 1, 1) := zsh_g zdk_573 (r := 34) (k := 1) rfl rfl rfl
theorem zd_573_140 : decode prog_14_method_126_code 140 = .ok (.iaload, 1) := zsh_g zdk_573 (r := 35) (k := 0) rfl rfl rfl
theorem zd_573_141 : decode prog_14_method_126_code 141 = .ok (.iconst 2, 1) := zsh_g zdk_573 (r := 35) (k := 1) rfl rfl rfl
theorem zd_573_142 : decode prog_14_method_126_code 142 = .ok (.if_icmp .ne 50, 3) := zsh_g zdk_573 (r := 35) (k := 2) rfl rfl rfl
theorem zd_573_145 : decode prog_14_method_126_code 145 = .ok (.aload_n 0, 1) := zsh_g zdk_573 (r := 36) (k := 0) rfl rfl rfl
theorem zd_573_146 : decode prog_14_method_126_code 146 = .ok (.getfield 422, 3) := zsh_g zdk_573 (r := 36) (k := 1) rfl rfl rfl
theorem zd_573_149 : decode prog_14_method_126_code 149 = .ok (.aload_n 0, 1) := zsh_g zdk_573 (r := 37) (k := 0) rfl rfl rfl
theorem zd_573_150 : decode prog_14_method_126_code 150 = .ok (.getfield 1281, 3) := zsh_g zdk_573 (r := 37) (k := 1) rfl rfl rfl
theorem zd_573_153 : decode prog_14_method_126_code 153 = .ok (.aload_n 0, 1) := zsh_g zdk_573 (r := 38) (k := 0) rfl rfl rfl
theorem zd_573_154 : decode prog_14_method_126_code 154 = .ok (.getfield 401, 3) := zsh_g zdk_573 (r := 38) (k := 1) rfl rfl rfl
theorem zd_573_157 : decode prog_14_method_126_code 157 = .ok (.aload_n 0, 1) := zsh_g zdk_573 (r := 39) (k := 0) rfl rfl rfl
theorem zd_573_158 : decode prog_14_method_126_code 158 = .ok (.getfield 437, 3) := zsh_g zdk_573 (r := 39) (k := 1) rfl rfl rfl
theorem zd_573_161 : decode prog_14_method_126_code 161 = .ok (.iload_n 1, 1) := zsh_g zdk_573 (r := 40) (k := 0) rfl rfl rfl
theorem zd_573_162 : decode prog_14_method_126_code 162 = .ok (.iaload, 1) := zsh_g zdk_573 (r := 40) (k := 1) rfl rfl rfl
theorem zd_573_163 : decode prog_14_method_126_code 163 = .ok (.iaload, 1) := zsh_g zdk_573 (r := 40) (k := 2) rfl rfl rfl
theorem zd_573_164 : decode prog_14_method_126_code 164 = .ok (.iastore, 1) := zsh_g zdk_573 (r := 41) (k := 0) rfl rfl rfl
theorem zd_573_165 : decode prog_14_method_126_code 165 = .ok (.aload_n 0, 1) := zsh_g zdk_573 (r := 41) (k := 1) rfl rfl rfl
theorem zd_573_166 : decode prog_14_method_126_code 166 = .ok (.getfield 425, 3) := zsh_g zdk_573 (r := 41) (k := 2) rfl rfl rfl
theorem zd_573_169 : decode prog_14_method_126_code 169 = .ok (.aload_n 0, 1) := zsh_g zdk_573 (r := 42) (k := 0) rfl rfl rfl
theorem zd_573_170 : decode prog_14_method_126_code 170 = .ok (.getfield 1281, 3) := zsh_g zdk_573 (r := 42) (k := 1) rfl rfl rfl
theorem zd_573_173 : decode prog_14_method_126_code 173 = .ok (.aload_n 0, 1) := zsh_g zdk_573 (r := 43) (k := 0) rfl rfl rfl
theorem zd_573_174 : decode prog_14_method_126_code 174 = .ok (.getfield 431, 3) := zsh_g zdk_573 (r := 43) (k := 1) rfl rfl rfl
theorem zd_573_177 : decode prog_14_method_126_code 177 = .ok (.iload_n 1, 1) := zsh_g zdk_573 (r := 44) (k := 0) rfl rfl rfl
theorem zd_573_178 : decode prog_14_method_126_code 178 = .ok (.iaload, 1) := zsh_g zdk_573 (r := 44) (k := 1) rfl rfl rfl
theorem zd_573_179 : decode prog_14_method_126_code 179 = .ok (.aload_n 0, 1) := zsh_g zdk_573 (r := 44) (k := 2) rfl rfl rfl
theorem zd_573_180 : decode prog_14_method_126_code 180 = .ok (.getfield 404, 3) := zsh_g zdk_573 (r := 45) (k := 0) rfl rfl rfl
theorem zd_573_183 : decode prog_14_method_126_code 183 = .ok (.aload_n 0, 1) := zsh_g zdk_573 (r := 45) (k := 1) rfl rfl rfl
theorem zd_573_184 : decode prog_14_method_126_code 184 = .ok (.getfield 437, 3) := zsh_g zdk_573 (r := 46) (k := 0) rfl rfl rfl
theorem zd_573_187 : decode prog_14_method_126_code 187 = .ok (.iload_n 1, 1) := zsh_g zdk_573 (r := 46) (k := 1) rfl rfl rfl
theorem zd_573_188 : decode prog_14_method_126_code 188 = .ok (.iaload, 1) := zsh_g zdk_573 (r := 47) (k := 0) rfl rfl rfl
theorem zd_573_189 : decode prog_14_method_126_code 189 = .ok (.iaload, 1) := zsh_g zdk_573 (r := 47) (k := 1) rfl rfl rfl
theorem zd_573_190 : decode prog_14_method_126_code 190 = .ok (.iadd, 1) := zsh_g zdk_573 (r := 47) (k := 2) rfl rfl rfl
theorem zd_573_191 : decode prog_14_method_126_code 191 = .ok (.iastore, 1) := zsh_g zdk_573 (r := 47) (k := 3) rfl rfl rfl
theorem zd_573_192 : decode prog_14_method_126_code 192 = .ok (.aload_n 0, 1) := zsh_g zdk_573 (r := 48) (k := 0) rfl rfl rfl
theorem zd_573_193 : decode prog_14_method_126_code 193 = .ok (.dup, 1) := zsh_g zdk_573 (r := 48) (k := 1) rfl rfl rfl
theorem zd_573_194 : decode prog_14_method_126_code 194 = .ok (.getfield 1281, 3) := zsh_g zdk_573 (r := 48) (k := 2) rfl rfl rfl
theorem zd_573_197 : decode prog_14_method_126_code 197 = .ok (.iconst 1, 1) := zsh_g zdk_573 (r := 49) (k := 0) rfl rfl rfl
theorem zd_573_198 : decode prog_14_method_126_code 198 = .ok (.iadd, 1) := zsh_g zdk_573 (r := 49) (k := 1) rfl rfl rfl
theorem zd_573_199 : decode prog_14_method_126_code 199 = .ok (.putfield 1281, 3) := zsh_g zdk_573 (r := 49) (k := 2) rfl rfl rfl
def zdl_574 : List (List (Nat × Instr × Nat)) := [[(0, (.iload_n 0), 1), (1, (.bipush 26), 2), (3, .ishl, 1)], [(0, (.iload_n 1), 1), (1, (.bipush 21), 2), (3, .ishl, 1)], [(0, .ior, 1), (1, (.iload_n 2), 1), (2, (.bipush 16), 2)], [(0, .ishl, 1), (1, .ior, 1), (2, (.iload_n 3), 1), (3, (.ldc_w 1302), 3)], [(2, .iand, 1), (3, .ior, 1)]]
theorem zdk_574 : zsh_all 8 zdl_574 prog_14_method_134_code.data.toList = true := by decide +kernel
theorem zd_574_0 : decode prog_14_method_134_code 0 = .ok (.iload_n 0, 1) := zsh_g zdk_574 (r := 0) (k := 0) rfl rfl rfl
theorem zd_574_1 : decode prog_14_method_134_code 1 = .ok (.bipush 26, 2) := zsh_g zdk_574 (r := 0) (k := 1) rfl rfl rfl
theorem zd_574_3 : decode prog_14_method_134_code 3 = .ok (.ishl, 1) := zsh_g zdk_574 (r := 0) (k := 2) rfl rfl rfl
theorem zd_574_4 : decode prog_14_method_134_code 4 = .ok (.iload_n 1, 1) := zsh_g zdk_574 (r := 1) (k := 0) rfl rfl rfl
theorem zd_574_5 : decode prog_14_method_134_code 5 = .ok (.bipush 21, 2) := zsh_g zdk_574 (r := 1) (k := 1) rfl rfl rfl
theorem zd_574_7 : decode prog_14_method_134_code 7 = .ok (.ishl, 1) := zsh_g zdk_574 (r := 1) (k := 2) rfl rfl rfl
theorem zd_574_8 : decode prog_14_method_134_code 8 = .ok (.ior, 1) := zsh_g zdk_574 (r := 2) (k := 0) rfl rfl rfl
theorem zd_574_9 : decode prog_14_method_134_code 9 = .ok (.iload_n 2, 1) := zsh_g zdk_574 (r := 2) (k := 1) rfl rfl rfl
theorem zd_574_10 : decode prog_14_method_134_code 10 = .ok (.bipush 16, 2) := zsh_g zdk_574 (r := 2) (k := 2) rfl rfl rfl
theorem zd_574_12 : decode prog_14_method_134_code 12 = .ok (.ishl, 1) := zsh_g zdk_574 (r := 3) (k := 0) rfl rfl rfl
theorem zd_574_13 : decode prog_14_method_134_code 13 = .ok (.ior, 1) := zsh_g zdk_574 (r := 3) (k := 1) rfl rfl rfl
theorem zd_574_14 : decode prog_14_method_134_code 14 = .ok (.iload_n 3, 1) := zsh_g zdk_574 (r := 3) (k := 2) rfl rfl rfl
theorem zd_574_15 : decode prog_14_method_134_code 15 = .ok (.ldc_w 1302, 3) := zsh_g zdk_574 (r := 3) (k := 3) rfl rfl rfl
theorem zd_574_18 : decode prog_14_method_134_code 18 = .ok (.iand, 1) := zsh_g zdk_574 (r := 4) (k := 0) rfl rfl rfl
theorem zd_574_19 : decode prog_14_method_134_code 19 = .ok (.ior, 1) := zsh_g zdk_574 (r := 4) (k := 1) rfl rfl rfl
def zdl_575 : List (List (Nat × Instr × Nat)) := [[(0, (.aload_n 0), 1), (1, (.getfield 434), 3)], [(0, (.iload_n 1), 1), (1, .iaload, 1), (2, (.ifCond .le 7), 3)], [(1, (.iconst 0), 1), (2, (.goto 39), 3)], [(1, (.aload_n 0), 1), (2, (.getfield 440), 3)], [(1, (.iload_n 1), 1), (2, .iaload, 1), (3, (.iconst 1), 1)], [(0, (.if_icmp .ne 19), 3), (3, (.aload_n 0), 1)], [(0, (.getfield 431), 3), (3, (.iload_n 1), 1)], [(0, .iaload, 1), (1, (.ldc_w 1365), 3)], [(0, .iadd, 1), (1, (.bipush 16), 2), (3, .iushr, 1)], [(0, (.goto 13), 3), (3, (.aload_n 0), 1)], [(0, (.getfield 431), 3), (3, (.iload_n 1), 1)], [(0, .iaload, 1), (1, (.ldc_w 1302), 3)], [(0, .iand, 1)]]
theorem zdk_575 : zsh_all 8 zdl_575 prog_14_method_142_code.data.toList = true := by decide +kernel
theorem zd_575_0 : decode prog_14_method_142_code 0 = .ok (.aload_n 0, 1) := zsh_g zdk_575 (r := 0) (k := 0) rfl rfl rfl
theorem zd_575_1 : decode prog_14_method_142_code 1 = .ok (.getfield 434, 3) := zsh_g zdk_575 (r := 0) (k := 1) rfl rfl rfl
theorem zd_575_4 : decode prog_14_method_142_code 4 = .ok (.iload_n 1, 1) := zsh_g zdk_575 (r := 1) (k := 0) rfl rfl rfl
theorem zd_575_5 : decode prog_14_method_142_code 5 = .ok (.iaload, 1) := zsh_g zdk_575 (r := 1) (k := 1) rfl rfl rfl
theorem zd_575_6 : decode prog_14_method_142_code 6 = .ok (.ifCond .le 7, 3) := zsh_g zdk_575 (r := 1) (k := 2) rfl rfl rfl
theorem zd_575_9 : decode prog_14_method_142_code 9 = .ok (.iconst 0, 1) := zsh_g zdk_575 (r := 2) (k := 0) rfl rfl rfl
theorem zd_575_10 : decode prog_14_method_142_code 10 = .ok (.goto 39, 3) := zsh_g zdk_575 (r := 2) (k := 1) rfl rfl rfl
theorem zd_575_13 : decode prog_14_method_142_code 13 = .ok (.aload_n 0, 1) := zsh_g zdk_575 (r := 3) (k := 0) rfl rfl rfl
theorem zd_575_14 : decode prog_14_method_142_code 14 = .ok (.getfield 440, 3) := zsh_g zdk_575 (r := 3) (k := 1) rfl rfl rfl
theorem zd_575_17 : decode prog_14_method_142_code 17 = .ok (.iload_n 1, 1) := zsh_g zdk_575 (r := 4) (k := 0) rfl rfl rfl
theorem zd_575_18 : decode prog_14_method_142_code 18 = .ok (.iaload, 1) := zsh_g zdk_575 (r := 4) (k := 1) rfl rfl rfl
theorem zd_575_19 : decode prog_14_method_142_code 19 = .ok (.iconst 1, 1) := zsh_g zdk_575 (r := 4) (k := 2) rfl rfl rfl
theorem zd_575_20 : decode prog_14_method_142_code 20 = .ok (.if_icmp .ne 19, 3) := zsh_g zdk_575 (r := 5) (k := 0) rfl rfl rfl
theorem zd_575_23 : decode prog_14_method_142_code 23 = .ok (.aload_n 0, 1) := zsh_g zdk_575 (r := 5) (k := 1) rfl rfl rfl
theorem zd_575_24 : decode prog_14_method_142_code 24 = .ok (.getfield 431, 3) := zsh_g zdk_575 (r := 6) (k := 0) rfl rfl rfl
theorem zd_575_27 : decode prog_14_method_142_code 27 = .ok (.iload_n 1, 1) := zsh_g zdk_575 (r := 6) (k := 1) rfl rfl rfl
theorem zd_575_28 : decode prog_14_method_142_code 28 = .ok (.iaload, 1) := zsh_g zdk_575 (r := 7) (k := 0) rfl rfl rfl
theorem zd_575_29 : decode prog_14_method_142_code 29 = .ok (.ldc_w 1365, 3) := zsh_g zdk_575 (r := 7) (k := 1) rfl rfl rfl
theorem zd_575_32 : decode prog_14_method_142_code 32 = .ok (.iadd, 1) := zsh_g zdk_575 (r := 8) (k := 0) rfl rfl rfl
theorem zd_575_33 : decode prog_14_method_142_code 33 = .ok (.bipush 16, 2) := zsh_g zdk_575 (r := 8) (k := 1) rfl rfl rfl
theorem zd_575_35 : decode prog_14_method_142_code 35 = .ok (.iushr, 1) := zsh_g zdk_575 (r := 8) (k := 2) rfl rfl rfl
theorem zd_575_36 : decode prog_14_method_142_code 36 = .ok (.goto 13, 3) := zsh_g zdk_575 (r := 9) (k := 0) rfl rfl rfl
theorem zd_575_39 : decode prog_14_method_142_code 39 = .ok (.aload_n 0, 1) := zsh_g zdk_575 (r := 9) (k := 1) rfl rfl rfl
theorem zd_575_40 : decode prog_14_method_142_code 40 = .ok (.getfield 431, 3) := zsh_g zdk_575 (r := 10) (k := 0) rfl rfl rfl
theorem zd_575_43 : decode prog_14_method_142_code 43 = .ok (.iload_n 1, 1) := zsh_g zdk_575 (r := 10) (k := 1) rfl rfl rfl
theorem zd_575_44 : decode prog_14_method_142_code 44 = .ok (.iaload, 1) := zsh_g zdk_575 (r := 11) (k := 0) rfl rfl rfl
theorem zd_575_45 : decode prog_14_method_142_code 45 = .ok (.ldc_w 1302, 3) := zsh_g zdk_575 (r := 11) (k := 1) rfl rfl rfl
theorem zd_575_48 : decode prog_14_method_142_code 48 = .ok (.iand, 1) := zsh_g zdk_575 (r := 12) (k := 0) rfl rfl rfl
def zdl_576 : List (List (Nat × Instr × Nat)) := [[(0, (.aload_n 0), 1), (1, (.getfield 431), 3)], [(0, (.iconst 0), 1), (1, .iaload, 1), (2, (.istore_n 1), 1), (3, (.iload_n 1), 1)], [(0, (.sipush (-32768)), 3), (3, (.sipush 32767), 3)], [(2, (.invokestatic 504), 3)], [(1, (.ifCond .eq 32), 3)], [(0, (.aload_n 0), 1), (1, (.aload_n 0), 1), (2, (.getfield 289), 3)], [(1, (.bipush 26), 2), (3, .iaload, 1)], [(0, (.iconst 0), 1), (1, (.aload_n 0), 1), (2, (.getfield 1312), 3)], [(1, (.iload_n 1), 1), (2, (.invokestatic 1366), 3)], [(1, (.iconst 0), 1), (2, (.aload_n 0), 1), (3, (.getfield 1312), 3)], [(2, (.iconst 1), 1), (3, (.invokevirtual 1362), 3)], [(2, (.goto 115), 3)], [(1, (.iload_n 1), 1), (2, (.iconst 0), 1), (3, (.ldc_w 1302), 3)], [(2, (.invokestatic 504), 3)], [(1, (.ifCond .eq 32), 3)], [(0, (.aload_n 0), 1), (1, (.aload_n 0), 1), (2, (.getfield 289), 3)], [(1, (.bipush 30), 2), (3, .iaload, 1)], [(0, (.iconst 0), 1), (1, (.aload_n 0), 1), (2, (.getfield 1312), 3)], [(1, (.iload_n 1), 1), (2, (.invokestatic 1366), 3)], [(1, (.iconst 0), 1), (2, (.aload_n 0), 1), (3, (.getfield 1312), 3)], [(2, (.iconst 1), 1), (3, (.invokevirtual 1362), 3)], [(2, (.goto 75), 3)], [(1, (.aload_n 0), 1), (2, (.aload_n 0), 1), (3, (.getfield 289), 3)], [(2, (.bipush 32), 2)], [(0, .iaload, 1), (1, (.iconst 0), 1), (2, (.aload_n 0), 1), (3, (.getfield 1312), 3)], [(2, (.iload_n 1), 1), (3, (.bipush 16), 2)], [(1, .ishr, 1), (2, (.invokestatic 1366), 3)], [(1, (.iconst 0), 1), (2, (.aload_n 0), 1), (3, (.getfield 1312), 3)], [(2, (.iconst 1), 1), (3, (.invokevirtual 1362), 3)], [(2, (.iload_n 1), 1), (3, (.ldc_w 1302), 3)], [(2, .iand, 1), (3, (.ifCond .eq 38), 3)], [(2, (.aload_n 0), 1), (3, (.aload_n 0), 1)], [(0, (.getfield 289), 3), (3, (.bipush 30), 2)], [(1, .iaload, 1), (2, (.aload_n 0), 1), (3, (.getfield 1312), 3)], [(2, (.aload_n 0), 1), (3, (.getfield 1312), 3)], [(2, (.iload_n 1), 1), (3, (.invokestatic 1366), 3)], [(2, (.aload_n 0), 1), (3, (.getfield 1312), 3)], [(2, (.invokestatic 1293), 3)], [(1, (.aload_n 0), 1), (2, (.getfield 1312), 3)], [(1, (.iconst 1), 1), (2, (.invokevirtual 1362), 3)]]
theorem zdk_576 : zsh_all 8 zdl_576 prog_14_method_144_code.data.toList = true := by decide +kernel
theorem zd_576_0 : decode prog_14_method_144_code 0 = .ok (.aload_n 0, 1) := zsh_g zdk_576 (r := 0) (k := 0) rfl rfl rfl
theorem zd_576_1 : decode prog_14_method_144_code 1 = .ok (.getfield 431, 3) := zsh_g zdk_576 (r := 0) (k := 1) rfl rfl rfl
theorem zd_576_4 : decode prog_14_method_144_code 4 = .ok (.iconst 0, 1) := zsh_g zdk_576 (r := 1) (k := 0) rfl rfl rfl
theorem zd_576_5 : decode prog_14_method_144_code 5 = .ok (.iaload, 1) := zsh_g zdk_576 (r := 1) (k := 1) rfl rfl rfl
theorem zd_576_6 : decode prog_14_method_144_code 6 = .ok (.istore_n 1, 1) := zsh_g zdk_576 (r := 1) (k := 2) rfl rfl rfl
theorem zd_576_7 : decode prog_14_method_144_code 7 = .ok (.iload_n 1, 1) := zsh_g zdk_576 (r := 1) (k := 3) rfl rfl rfl
theorem zd_576_8 : decode prog_14_method_144_code 8 = .ok (.sipush (-32768), 3) := zsh_g zdk_576 (r := 2) (k := 0) rfl rfl rfl
theorem zd_576_11 : decode prog_14_method_144_code 11 = .ok (.sipush 32767, 3) := zsh_g zdk_576 (r := 2) (k := 1) rfl rfl rfl
theorem zd_576_14 : decode prog_14_method_144_code 14 = .ok (.invokestatic 504, 3) := zsh_g zdk_576 (r := 3) (k := 0) rfl rfl rfl
theorem zd_576_17 : decode prog_14_method_144_code 17 = .ok (.ifCond .eq 32, 3) := zsh_g zdk_576 (r := 4) (k := 0) rfl rfl rfl
theorem zd_576_20 : decode prog_14_method_144_code 20 = .ok (.aload_n 0, 1) := zsh_g zdk_576 (r := 5) (k := 0) rfl rfl rfl
theorem zd_576_21 : decode prog_14_method_144_code 21 = .ok (.aload_n 0, 1) := zsh_g zdk_576 (r := 5) (k := 1) rfl rfl rfl
theorem zd_576_22 : decode prog_14_method_144_code 22 = .ok (.getfield 289, 3) := zsh_g zdk_576 (r := 5) (k := 2) rfl rfl rfl
theorem zd_576_25 : decode prog_14_method_144_code 25 = .ok (.bipush 26, 2) := zsh_g zdk_576 (r := 6) (k := 0) rfl rfl rfl
theorem zd_576_27 : decode prog_14_method_144_code 27 = .ok (.iaload, 1) := zsh_g zdk_576 (r := 6) (k := 1) rfl rfl rfl
theorem zd_576_28 : decode prog_14_method_144_code 28 = .ok (.iconst 0, 1) := zsh_g zdk_576 (r := 7) (k := 0) rfl rfl rfl
theorem zd_576_29 : decode prog_14_method_144_code 29 = .ok (.aload_n 0, 1) := zsh_g zdk_576 (r := 7) (k := 1) rfl rfl rfl
theorem zd_576_30 : decode prog_14_method_144_code 30 = .ok (.getfield 1312, 3) := zsh_g zdk_576 (r := 7) (k := 2) rfl rfl rfl
theorem zd_576_33 : decode prog_14_method_144_code 33 = .ok (.iload_n 1, 1) := zsh_g zdk_576 (r := 8) (k := 0) rfl rfl rfl
theorem zd_576_34 : decode prog_14_method_144_code 34 = .ok (.invokestatic 1366, 3) := zsh_g zdk_576 (r := 8) (k := 1) rfl rfl rfl
theorem zd_576_37 : decode prog_14_method_144_code 37 = .ok (.iconst 0, 1) := zsh_g zdk_576 (r := 9) (k := 0) rfl rfl rfl
theorem zd_576_38 : decode prog_14_method_144_code 38 = .ok (.aload_n 0, 1) := zsh_g zdk_576 (r := 9) (k := 1) rfl rfl rfl
theorem zd_576_39 : decode prog_14_method_144_code 39 = .ok (.getfield 1312, 3) := zsh_g zdk_576 (r := 9) (k := 2) rfl rfl rfl
theorem zd_576_42 : decode prog_14_method_144_code 42 = .ok (.iconst 1, 1) := zsh_g zdk_576 (r := 10) (k := 0) rfl rfl rfl
theorem zd_576_43 : decode prog_14_method_144_code 43 = .ok (.invokevirtual 1362, 3) := zsh_g zdk_576 (r := 10) (k := 1) rfl rfl rfl
theorem zd_576_46 : decode prog_14_method_144_code 46 = .ok (.goto 115, 3) := zsh_g zdk_576 (r := 11) (k := 0) rfl rfl rfl
theorem zd_576_49 : decode prog_14_method_144_code 49 = .ok (.iload_n 1, 1) := zsh_g zdk_576 (r := 12) (k := 0) rfl rfl rfl
theorem zd_576_50 : decode prog_14_method_144_code 50 = .ok (.iconst 0, 1) := zsh_g zdk_576 (r := 12) (k := 1) rfl rfl rfl
theorem zd_576_51 : decode prog_14_method_144_code 51 = .ok (.ldc_w 1302, 3) := zsh_g zdk_576 (r := 12) (k := 2) rfl rfl rfl
theorem zd_576_54 : decode prog_14_method_144_code 54 = .ok (.invokestatic 504, 3) := zsh_g zdk_576 (r := 13) (k := 0) rfl rfl rfl
theorem zd_576_57 : decode prog_14_method_144_code 57 = .ok (.ifCond .eq 32, 3) := zsh_g zdk_576 (r := 14) (k := 0) rfl rfl rfl
theorem zd_576_60 : decode prog_14_method_144_code 60 = .ok (.aload_n 0, 1) := zsh_g zdk_576 (r := 15) (k := 0) rfl rfl rfl
theorem zd_576_61 : decode prog_14_method_144_code 61 = .ok (.aload_n 0, 1) := zsh_g zdk_576 (r := 15) (k := 1) rfl rfl rfl
theorem zd_576_62 : decode prog_14_method_144_code 62 = .ok (.getfield 289, 3) := zsh_g zdk_576 (r := 15) (k := 2) rfl rfl rfl
theorem zd_576_65 : decode prog_14_method_144_code 65 = .ok (.bipush 30, 2) := zsh_g zdk_576 (r := 16) (k := 0) rfl rfl rfl
theorem zd_576_67 : decode prog_14_method_144_code 67 = .ok (.iaload, 1) := zsh_g zdk_576 (r := 16) (k := 1) rfl rfl rfl
theorem zd_576_68 : decode prog_14_method_144_code 68 = .ok (.iconst 0, 1) := zsh_g zdk_576 (r := 17) (k := 0) rfl rfl rfl
theorem zd_576_69 : decode prog_14_method_144_code 69 = .ok (.aload_n 0, 1) := zsh_g zdk_576 (r := 17) (k := 1) rfl rfl rfl
theorem zd_576_70 : decode prog_14_method_144_code 70 = .ok (.getfield 1312, 3) := zsh_g zdk_576 (r := 17) (k := 2) rfl rfl rfl
theorem zd_576_73 : decode prog_14_method_144_code 73 = .ok (.iload_n 1, 1) := zsh_g zdk_576 (r := 18) (k := 0) rfl rfl rfl
theorem zd_576_74 : decode prog_14_method_144_code 74 = .ok (.invokestatic 1366, 3) := zsh_g zdk_576 (r := 18) (k := 1) rfl rfl rfl
theorem zd_576_77 : decode prog_14_method_144_code 77 = .ok (.iconst 0, 1) := zsh_g zdk_576 (r := 19) (k := 0) rfl rfl rfl
theorem zd_576_78 : decode prog_14_method_144_code 78 = .ok (.aload_n 0, 1) := zsh_g zdk_576 (r := 19) (k := 1) rfl rfl rfl
theorem zd_576_79 : decode prog_14_method_144_code 79 = .ok (.getfield 1312, 3) := zsh_g zdk_576 (r := 19) (k := 2) rfl rfl rfl
theorem zd_576_82 : decode prog_14_method_144_code 82 = .ok (.iconst 1, 1) := zsh_g zdk_576 (r := 20) (k := 0) rfl rfl rfl
theorem zd_576_83 : decode prog_14_method_144_code 83 = .ok (.invokevirtual 1362, 3) := zsh_g zdk_576 (r := 20) (k := 1) rfl rfl rfl
theorem zd_576_86 : decode prog_14_method_144_code 86 = .ok (.goto 75, 3) := zsh_g zdk_576 (r := 21) (k := 0) rfl rfl rfl
theorem zd_576_89 : decode prog_14_method_144_code 89 = .ok (.aload_n 0, 1) := zsh_g zdk_576 (r := 22) (k := 0) rfl rfl rfl
theorem zd_576_90 : decode prog_14_method_144_code 90 = .ok (.aload_n 0, 1) := zsh_g zdk_576 (r := 22) (k := 1) rfl rfl rfl
theorem zd_576_91 : decode prog_14_method_144_code 91 = .ok (.getfield 289, 3) := zsh_g zdk_576 (r := 22) (k := 2) rfl rfl rfl
theorem zd_576_94 : decode prog_14_method_144_code 94 = .ok (.bipush 32, 2) := zsh_g zdk_576 (r := 23) (k := 0) rfl rfl rfl
theorem zd_576_96 : decode prog_14_method_144_code 96 = .ok (.iaload, 1) := zsh_g zdk_576 (r := 24) (k := 0) rfl rfl rfl
theorem zd_576_97 : decode prog_14_method_144_code 97 = .ok (.iconst 0, 1) := zsh_g zdk_576 (r := 24) (k := 1) rfl rfl rfl
theorem zd_576_98 : decode prog_14_method_144_code 98 = .ok (.aload_n 0, 1) := zsh_g zdk_576 (r := 24) (k := 2) rfl rfl rfl
theorem zd_576_99 : decode prog_14_method_144_code 99 = .ok (.getfield 1312, 3) := zsh_g zdk_576 (r := 24) (k := 3) rfl rfl rfl
theorem zd_576_102 : decode prog_14_method_144_code 102 = .ok (.iload_n 1, 1) := zsh_g zdk_576 (r := 25) (k := 0) rfl rfl rfl
theorem zd_576_103 : decode prog_14_method_144_code 103 = .ok (.bipush 16, 2) := zsh_g zdk_576 (r := 25) (k := 1) rfl rfl rfl
theorem zd_576_105 : decode prog_14_method_144_code 105 = .ok (.ishr, 1) := zsh_g zdk_576 (r := 26) (k := 0) rfl rfl rfl
theorem zd_576_106 : decode prog_14_method_144_code 106 = .ok (.invokestatic 1366, 3) := zsh_g zdk_576 (r := 26) (k := 1) rfl rfl rfl
theorem zd_576_109 : decode prog_14_method_144_code 109 = .ok (.iconst 0, 1) := zsh_g zdk_576 (r := 27) (k := 0) rfl rfl rfl
theorem zd_576_110 : decode prog_14_method_144_code 110 = .ok (.aload_n 0, 1) := zsh_g zdk_576 (r := 27) (k := 1) rfl rfl rfl
theorem zd_576_111 : decode prog_14_method_144_code 111 = .ok (.getfield 1312, 3) := zsh_g zdk_576 (r := 27) (k := 2) rfl rfl rfl
theorem zd_576_114 : decode prog_14_method_144_code 114 = .ok (.iconst 1, 1) := zsh_g zdk_576 (r := 28) (k := 0) rfl rfl rfl
theorem zd_576_115 : decode prog_14_method_144_code 115 = .ok (.invokevirtual 1362, 3) := zsh_g zdk_576 (r := 28) (k := 1) rfl rfl rfl
theorem zd_576_118 : decode prog_14_method_144_code 118 = .ok (.iload_n 1, 1) := zsh_g zdk_576 (r := 29) (k := 0) rfl rfl rfl
theorem zd_576_119 : decode prog_14_method_144_code 119 = .ok (.ldc_w 1302, 3) := zsh_g zdk_576 (r := 29) (k := 1) rfl rfl rfl
theorem zd_576_122 : decode prog_14_method_144_code 122 = .ok (.iand, 1) := zsh_g zdk_576 (r := 30) (k := 0) rfl rfl rfl
theorem zd_576_123 : decode prog_14_method_144_code 123 = .ok (.ifCond .eq 38, 3) := zsh_g zdk_576 (r := 30) (k := 1) rfl rfl rfl
theorem zd_576_126 : decode prog_14_method_144_code 126 = .ok (.aload_n 0, 1) := zsh_g zdk_576 (r := 31) (k := 0) rfl rfl rfl
theorem zd_576_127 : decode prog_14_method_144_code 127 = .ok (.aload_n 0, 1) := zsh_g zdk_576 (r := 31) (k := 1) rfl rfl rfl
theorem zd_576_128 : decode prog_14_method_144_code 128 = .ok (.getfield 289, 3) := zsh_g zdk_576 (r := 32) (k := 0) rfl rfl rfl
theorem zd_576_131 : decode prog_14_method_144_code 131 = .ok (.bipush 30, 2) := zsh_g zdk_576 (r := 32) (k := 1) rfl rfl rfl
theorem zd_576_133 : decode prog_14_method_144_code 133 = .ok (.iaload, 1) := zsh_g zdk_576 (r := 33) (k := 0) rfl rfl rfl
theorem zd_576_134 : decode prog_14_method_144_code 134 = .ok (.aload_n 0, 1) := zsh_g zdk_576 (r := 33) (k := 1) rfl rfl rfl
theorem zd_576_135 : decode prog_14_method_144_code 135 = .ok (.getfield 1312, 3) := zsh_g zdk_576 (r := 33) (k := 2) rfl rfl rfl
theorem zd_576_138 : decode prog_14_method_144_code 138 = .ok (.aload_n 0, 1) := zsh_g zdk_576 (r := 34) (k := 0) rfl rfl rfl
theorem zd_576_139 : decode prog_14_method_144_code 139 = .ok (.getfield 1312, 3) := zsh_g zdk_576 (r := 34) (k := 1) rfl rfl rfl
theorem zd_576_142 : decode prog_14_method_144_code 142 = .ok (.iload_n 1, 1) := zsh_g zdk_576 (r := 35) (k := 0) rfl rfl rfl
theorem zd_576_143 : decode prog_14_method_144_code 143 = .ok (.invokestatic 1366, 3) := zsh_g zdk_576 (r := 35) (k := 1) rfl rfl rfl
theorem zd_576_146 : decode prog_14_method_144_code 146 = .ok (.aload_n 0, 1) := zsh_g zdk_576 (r := 36) (k := 0) rfl rfl rfl
theorem zd_576_147 : decode prog_14_method_144_code 147 = .ok (.getfield 1312, 3) := zsh_g zdk_576 (r := 36) (k := 1) rfl rfl rfl
theorem zd_576_150 : decode prog_14_method_144_code 150 = .ok (.invokestatic 1293, 3) := zsh_g zdk_576 (r := 37) (k := 0) rfl rfl rfl
theorem zd_576_153 : decode prog_14_method_144_code 153 = .ok (.aload_n 0, 1) := zsh_g zdk_576 (r := 38) (k := 0) rfl rfl rfl
theorem zd_576_154 : decode prog_14_method_144_code 154 = .ok (.getfield 1312, 3) := zsh_g zdk_576 (r := 38) (k := 1) rfl rfl rfl
theorem zd_576_157 : decode prog_14_method_144_code 157 = .ok (.iconst 1, 1) := zsh_g zdk_576 (r := 39) (k := 0) rfl rfl rfl
theorem zd_576_158 : decode prog_14_method_144_code 158 = .ok (.invokevirtual 1362, 3) := zsh_g zdk_576 (r := 39) (k := 1) rfl rfl rfl
def zdl_577 : List (List (Nat × Instr × Nat)) := [[(0, (.aload_n 0), 1), (1, (.iload_n 1), 1), (2, (.iload_n 2), 1), (3, (.iconst 1), 1)], [(0, (.iconst 0), 1), (1, (.aload_n 0), 1), (2, (.getfield 289), 3)], [(1, (.bipush 6), 2), (3, .iaload, 1)], [(0, (.invokestatic 1354), 3), (3, (.iload_n 1), 1)], [(0, (.invokestatic 1293), 3), (3, (.iload_n 2), 1)], [(0, (.invokestatic 1293), 3), (3, .ior, 1)], [(0, (.iconst 1), 1), (1, (.iconst 1), 1), (2, (.invokevirtual 1362), 3)]]
theorem zdk_577 : zsh_all 8 zdl_577 prog_14_method_145_code.data.toList = true := by decide +kernel
theorem zd_577_0 : decode prog_14_method_145_code 0 = .ok (.aload_n 0, 1) := zsh_g zdk_577 (r := 0) (k := 0) rfl rfl rfl
theorem zd_577_1 : decode prog_14_method_145_code 1 = .ok (.iload_n 1, 1) := zsh_g zdk_577 (r := 0) (k := 1) rfl rfl rfl
theorem zd_577_2 : decode prog_14_method_145_code 2 = .ok (.iload_n 2, 1) := zsh_g zdk_577 (r := 0) (k := 2) rfl rfl rfl
theorem zd_577_3 : decode prog_14_method_145_code 3 = .ok (.iconst 1, 1) := zsh_g zdk_577 (r := 0) (k := 3) rfl rfl rfl
theorem zd_577_4 : decode prog_14_method_145_code 4 = .ok (.iconst 0, 1) := zsh_g zdk_577 (r := 1) (k := 0) rfl rfl rfl
theorem zd_577_5 : decode prog_14_method_145_code 5 = .ok (.aload_n 0, 1) := zsh_g zdk_577 (r := 1) (k := 1) rfl rfl rfl
theorem zd_577_6 : decode prog_14_method_145_code 6 = .ok (.getfield 289, 3) := zsh_g zdk_577 (r := 1) (k := 2) rfl rfl rfl
theorem zd_577_9 : decode prog_14_method_145_code 9 = .ok (.bipush 6, 2) := zsh_g zdk_577 (r := 2) (k := 0) rfl rfl rfl
theorem zd_577_11 : decode prog_14_method_145_code 11 = .ok (.iaload, 1) := zsh_g zdk_577 (r := 2) (k := 1) rfl rfl rfl
theorem zd_577_12 : decode prog_14_method_145_code 12 = .ok (.invokestatic 1354, 3) := zsh_g zdk_577 (r := 3) (k := 0) rfl rfl rfl
theorem zd_577_15 : decode prog_14_method_145_code 15 = .ok (.iload_n 1, 1) := zsh_g zdk_577 (r := 3) (k := 1) rfl rfl rfl
theorem zd_577_16 : decode prog_14_method_145_code 16 = .ok (.invokestatic 1293, 3) := zsh_g zdk_577 (r := 4) (k := 0) rfl rfl rfl
theorem zd_577_19 : decode prog_14_method_145_code 19 = .ok (.iload_n 2, 1) := zsh_g zdk_577 (r := 4) (k := 1) rfl rfl rfl
theorem zd_577_20 : decode prog_14_method_145_code 20 = .ok (.invokestatic 1293, 3) := zsh_g zdk_577 (r := 5) (k := 0) rfl rfl rfl
theorem zd_577_23 : decode prog_14_method_145_code 23 = .ok (.ior, 1) := zsh_g zdk_577 (r := 5) (k := 1) rfl rfl rfl
theorem zd_577_24 : decode prog_14_method_145_code 24 = .ok (.iconst 1, 1) := zsh_g zdk_577 (r := 6) (k := 0) rfl rfl rfl
theorem zd_577_25 : decode prog_14_method_145_code 25 = .ok (.iconst 1, 1) := zsh_g zdk_577 (r := 6) (k := 1) rfl rfl rfl
theorem zd_577_26 : decode prog_14_method_145_code 26 = .ok (.invokevirtual 1362, 3) := zsh_g zdk_577 (r := 6) (k := 2) rfl rfl rfl
def zdl_578 : List (List (Nat × Instr × Nat)) := [[(0, (.aload_n 0), 1), (1, (.iload_n 1), 1), (2, (.invokevirtual 1257), 3)], [(1, (.istore_n 2), 1), (2, (.aload_n 0), 1), (3, (.iload_n 1), 1)], [(0, (.invokevirtual 1299), 3), (3, (.ifCond .lt 11), 3)], [(2, (.aload_n 0), 1), (3, (.iconst 2), 1)], [(0, (.invokevirtual 1216), 3), (3, (.goto 76), 3)], [(2, (.iload_n 2), 1), (3, (.ifCond .lt 18), 3)], [(2, (.aload_n 0), 1), (3, (.getfield 365), 3)], [(2, (.iload_n 2), 1), (3, (.aload_n 0), 1)], [(0, (.getfield 431), 3), (3, (.iconst 0), 1)], [(0, .iaload, 1), (1, .iastore, 1), (2, (.goto 57), 3)], [(1, (.aload_n 0), 1), (2, (.getfield 1231), 3)], [(1, (.sipush 200), 3)], [(0, (.if_icmp .ne 12), 3), (3, (.aload_n 0), 1)], [(0, (.bipush 6), 2), (2, (.invokevirtual 1216), 3)], [(1, (.goto 38), 3)], [(0, (.aload_n 0), 1), (1, (.getfield 362), 3)], [(0, (.aload_n 0), 1), (1, (.getfield 1231), 3)], [(0, (.iload_n 1), 1), (1, .iastore, 1), (2, (.aload_n 0), 1), (3, (.getfield 365), 3)], [(2, (.aload_n 0), 1), (3, (.getfield 1231), 3)], [(2, (.aload_n 0), 1), (3, (.getfield 431), 3)], [(2, (.iconst 0), 1), (3, .iaload, 1)], [(0, .iastore, 1), (1, (.aload_n 0), 1), (2, .dup, 1), (3, (.getfield 1231), 3)], [(2, (.iconst 1), 1), (3, .iadd, 1)], [(0, (.putfield 1231), 3)]]
theorem zdk_578 : zsh_all 8 zdl_578 prog_14_method_155_code.data.toList = true := by decide +kernel
theorem zd_578_0 : decode prog_14_method_155_code 0 = .ok (.aload_n 0, 1) := zsh_g zdk_578 (r := 0) (k := 0) rfl rfl rfl
theorem zd_578_1 : decode prog_14_method_155_code 1 = .ok (.iload_n 1, 1) := zsh_g zdk_578 (r := 0) (k := 1) rfl rfl rfl
theorem zd_578_2 : decode prog_14_method_155_code 2 = .ok (.invokevirtual 1257, 3) := zsh_g zdk_578 (r := 0) (k := 2) rfl rfl rfl
theorem zd_578_5 : decode prog_14_method_155_code 5 = .ok (.istore_n 2, 1) := zsh_g zdk_578 (r := 1) (k := 0) rfl rfl rfl
theorem zd_578_6 : decode prog_14_method_155_code 6 = .ok (.aload_n 0, 1) := zsh_g zdk_578 (r := 1) (k := 1) rfl rfl rfl
theorem zd_578_7 : decode prog_14_method_155_code 7 = .ok (.iload_n 1, 1) := zsh_g zdk_578 (r := 1) (k := 2) rfl rfl rfl
theorem zd_578_8 : decode prog_14_method_155_code 8 = .ok (.invokevirtual 1299, 3) := zsh_g zdk_578 (r := 2) (k := 0) rfl rfl rfl
theorem zd_578_11 : decode prog_14_method_155_code 11 = .ok (.ifCond .lt 11, 3) := zsh_g zdk_578 (r := 2) (k := 1) rfl rfl rfl
theorem zd_578_14 : decode prog_14_method_155_code 14 = .ok (.aload_n 0, 1) := zsh_g zdk_578 (r := 3) (k := 0) rfl rfl rfl
theorem zd_578_15 : decode prog_14_method_155_code 15 = .ok (.iconst 2, 1) := zsh_g zdk_578 (r := 3) (k := 1) rfl rfl rfl
theorem zd_578_16 : decode prog_14_method_155_code 16 = .ok (.invokevirtual 1216, 3) := zsh_g zdk_578 (r := 4) (k := 0) rfl rfl rfl
theorem zd_578_19 : decode prog_14_method_155_code 19 = .ok (.goto 76, 3) := zsh_g zdk_578 (r := 4) (k := 1) rfl rfl rfl
theorem zd_578_22 : decode prog_14_method_155_code 22 = .ok (.iload_n 2, 1) := zsh_g zdk_578 (r := 5) (k := 0) rfl rfl rfl
theorem zd_578_23 : decode prog_14_method_155_code 23 = .ok (.ifCond .lt 18, 3) := zsh_g zdk_578 (r := 5) (k := 1) rfl rfl rfl
theorem zd_578_26 : decode prog_14_method_155_code 26 = .ok (.aload_n 0, 1) := zsh_g zdk_578 (r := 6) (k := 0) rfl rfl rfl
theorem zd_578_27 : decode prog_14_method_155_code 27 = .ok (.getfield 365, 3) := zsh_g zdk_578 (r := 6) (k := 1) rfl rfl rfl
theorem zd_578_30 : decode prog_14_method_155_code 30 = .ok (.iload_n 2, 1) := zsh_g zdk_578 (r := 7) (k := 0) rfl rfl rfl
theorem zd_578_31 : decode prog_14_method_155_code 31 = .ok (.aload_n 0, 1) := zsh_g zdk_578 (r := 7) (k := 1) rfl rfl rfl
theorem zd_578_32 : decode prog_14_method_155_code 32 = .ok (.getfield 431, 3) := zsh_g zdk_578 (r := 8) (k := 0) rfl rfl rfl
theorem zd_578_35 : decode prog_14_method_155_code 35 = .ok (.iconst 0, 1) := zsh_g zdk_578 (r := 8) (k := 1) rfl rfl rfl
theorem zd_578_36 : decode prog_14_method_155_code 36 = .ok (.iaload, 1) := zsh_g zdk_578 (r := 9) (k := 0) rfl rfl rfl
theorem zd_578_37 : decode prog_14_method_155_code 37 = .ok (.iastore, 1) := zsh_g zdk_578 (r := 9) (k := 1) rfl rfl rfl
theorem zd_578_38 : decode prog_14_method_155_code 38 = .ok (.goto 57, 3) := zsh_g zdk_578 (r := 9) (k := 2) rfl rfl rfl
theorem zd_578_41 : decode prog_14_method_155_code 41 = .ok (.aload_n 0, 1) := zsh_g zdk_578 (r := 10) (k := 0) rfl rfl rfl
theorem zd_578_42 : decode prog_14_method_155_code 42 = .ok (.getfield 1231, 3) := zsh_g zdk_578 (r := 10) (k := 1) rfl rfl rfl
theorem zd_578_45 : decode prog_14_method_155_code 45 = .ok (.sipush 200, 3) := zsh_g zdk_578 (r := 11) (k := 0) rfl rfl rfl
theorem zd_578_48 : decode prog_14_method_155_code 48 = .ok (.if_icmp .ne 12, 3) := zsh_g zdk_578 (r := 12) (k := 0) rfl rfl rfl
theorem zd_578_51 : decode prog_14_method_155_code 51 = .ok (.aload_n 0, 1) := zsh_g zdk_578 (r := 12) (k := 1) rfl rfl rfl
theorem zd_578_52 : decode prog_14_method_155_code 52 = .ok (.bipush 6, 2) := zsh_g zdk_578 (r := 13) (k := 0) rfl rfl rfl
theorem zd_578_54 : decode prog_14_method_155_code 54 = .ok (.invokevirtual 1216, 3) := zsh_g zdk_578 (r := 13) (k := 1) rfl rfl rfl
theorem zd_578_57 : decode prog_14_method_155_code 57 = .ok (.goto 38, 3) := zsh_g zdk_578 (r := 14) (k := 0) rfl rfl rfl
theorem zd_578_60 : decode prog_14_method_155_code 60 = .ok (.aload_n 0, 1) := zsh_g zdk_578 (r := 15) (k := 0) rfl rfl rfl
theorem zd_578_61 : decode prog_14_method_155_code 61 = .ok (.getfield 362, 3) := zsh_g zdk_578 (r := 15) (k := 1) rfl rfl rfl
theorem zd_578_64 : decode prog_14_method_155_code 64 = .ok (.aload_n 0, 1) := zsh_g zdk_578 (r := 16) (k := 0) rfl rfl rfl
theorem zd_578_65 : decode prog_14_method_155_code 65 = .ok (.getfield 1231, 3) := zsh_g zdk_578 (r := 16) (k := 1) rfl rfl rfl
theorem zd_578_68 : decode prog_14_method_155_code 68 = .ok (.iload_n 1, 1) := zsh_g zdk_578 (r := 17) (k := 0) rfl rfl rfl
theorem zd_578_69 : decode prog_14_method_155_code 69 = .ok (.iastore, 1) := zsh_g zdk_578 (r := 17) (k := 1) rfl rfl rfl
theorem zd_578_70 : decode prog_14_method_155_code 70 = .ok (.aload_n 0, 1) := zsh_g zdk_578 (r := 17) (k := 2) rfl rfl rfl
theorem zd_578_71 : decode prog_14_method_155_code 71 = .ok (.getfield 365, 3) := zsh_g zdk_578 (r := 17) (k := 3) rfl rfl rfl
theorem zd_578_74 : decode prog_14_method_155_code 74 = .ok (.aload_n 0, 1) := zsh_g zdk_578 (r := 18) (k := 0) rfl rfl rfl
theorem zd_578_75 : decode prog_14_method_155_code 75 = .ok (.getfield 1231, 3) := zsh_g zdk_578 (r := 18) (k := 1) rfl rfl rfl
theorem zd_578_78 : decode prog_14_method_155_code 78 = .ok (.aload_n 0, 1) := zsh_g zdk_578 (r := 19) (k := 0) rfl rfl rfl
theorem zd_578_79 : decode prog_14_method_155_code 79 = .ok (.getfield 431, 3) := zsh_g zdk_578 (r := 19) (k := 1) rfl rfl rfl
theorem zd_578_82 : decode prog_14_method_155_code 82 = .ok (.iconst 0, 1) := zsh_g zdk_578 (r := 20) (k := 0) rfl rfl rfl
theorem zd_578_83 : decode prog_14_method_155_code 83 = .ok (.iaload, 1) := zsh_g zdk_578 (r := 20) (k := 1) rfl rfl rfl
theorem zd_578_84 : decode prog_14_method_155_code 84 = .ok (.iastore, 1) := zsh_g zdk_578 (r := 21) (k := 0) rfl rfl rfl
theorem zd_578_85 : decode prog_14_method_155_code 85 = .ok (.aload_n 0, 1) := zsh_g zdk_578 (r := 21) (k := 1) rfl rfl rfl
theorem zd_578_86 : decode prog_14_method_155_code 86 = .ok (.dup, 1) := zsh_g zdk_578 (r := 21) (k := 2) rfl rfl rfl
theorem zd_578_87 : decode prog_14_method_155_code 87 = .ok (.getfield 1231, 3) := zsh_g zdk_578 (r := 21) (k := 3) rfl rfl rfl
theorem zd_578_90 : decode prog_14_method_155_code 90 = .ok (.iconst 1, 1) := zsh_g zdk_578 (r := 22) (k := 0) rfl rfl rfl
theorem zd_578_91 : decode prog_14_method_155_code 91 = .ok (.iadd, 1) := zsh_g zdk_578 (r := 22) (k := 1) rfl rfl rfl
theorem zd_578_92 : decode prog_14_method_155_code 92 = .ok (.putfield 1231, 3) := zsh_g zdk_578 (r := 23) (k := 0) rfl rfl rfl
def zdl_579 : List (List (Nat × Instr × Nat)) := [[(0, (.aload_n 0), 1), (1, (.iload_n 1), 1), (2, (.invokevirtual 1395), 3)], [(1, (.ifCond .ne 39), 3)], [(0, (.aload_n 0), 1), (1, (.iload_n 1), 1), (2, (.invokevirtual 1398), 3)], [(1, (.ifCond .ge 31), 3)], [(0, (.aload_n 0), 1), (1, (.getfield 1401), 3)], [(0, (.sipush 600), 3), (3, (.if_icmp .ne 11), 3)], [(2, (.aload_n 0), 1), (3, (.bipush 6), 2)], [(1, (.invokevirtual 1216), 3)], [(0, (.iconst 0), 1), (2, (.aload_n 0), 1), (3, .dup, 1)], [(0, (.getfield 1401), 3), (3, (.iconst 1), 1)], [(0, .iadd, 1), (1, (.putfield 1401), 3)], [(0, (.iconst 1), 1)]]
theorem zdk_579 : zsh_all 8 zdl_579 prog_14_method_153_code.data.toList = true := by decide +kernel
theorem zd_579_0 : decode prog_14_method_153_code 0 = .ok (.aload_n 0, 1) := zsh_g zdk_579 (r := 0) (k := 0) rfl rfl rfl
theorem zd_579_1 : decode prog_14_method_153_code 1 = .ok (.iload_n 1, 1) := zsh_g zdk_579 (r := 0) (k := 1) rfl rfl rfl
theorem zd_579_2 : decode prog_14_method_153_code 2 = .ok (.invokevirtual 1395, 3) := zsh_g zdk_579 (r := 0) (k := 2) rfl rfl rfl
theorem zd_579_5 : decode prog_14_method_153_code 5 = .ok (.ifCond .ne 39, 3) := zsh_g zdk_579 (r := 1) (k := 0) rfl rfl rfl
theorem zd_579_8 : decode prog_14_method_153_code 8 = .ok (.aload_n 0, 1) := zsh_g zdk_579 (r := 2) (k := 0) rfl rfl rfl
theorem zd_579_9 : decode prog_14_method_153_code 9 = .ok (.iload_n 1, 1) := zsh_g zdk_579 (r := 2) (k := 1) rfl rfl rfl
theorem zd_579_10 : decode prog_14_method_153_code 10 = .ok (.invokevirtual 1398, 3) := zsh_g zdk_579 (r := 2) (k := 2) rfl rfl rfl
theorem zd_579_13 : decode prog_14_method_153_code 13 = .ok (.ifCond .ge 31, 3) := zsh_g zdk_579 (r := 3) (k := 0) rfl rfl rfl
theorem zd_579_16 : decode prog_14_method_153_code 16 = .ok (.aload_n 0, 1) := zsh_g zdk_579 (r := 4) (k := 0) rfl rfl rfl
theorem zd_579_17 : decode prog_14_method_153_code 17 = .ok (.getfield 1401, 3) := zsh_g zdk_579 (r := 4) (k := 1) rfl rfl rfl
theorem zd_579_20 : decode prog_14_method_153_code 20 = .ok (.sipush 600, 3) := zsh_g zdk_579 (r := 5) (k := 0) rfl rfl rfl
theorem zd_579_23 : decode prog_14_method_153_code 23 = .ok (.if_icmp .ne 11, 3) := zsh_g zdk_579 (r := 5) (k := 1) rfl rfl rfl
theorem zd_579_26 : decode prog_14_method_153_code 26 = .ok (.aload_n 0, 1) := zsh_g zdk_579 (r := 6) (k := 0) rfl rfl rfl
theorem zd_579_27 : decode prog_14_method_153_code 27 = .ok (.bipush 6, 2) := zsh_g zdk_579 (r := 6) (k := 1) rfl rfl rfl
theorem zd_579_29 : decode prog_14_method_153_code 29 = .ok (.invokevirtual 1216, 3) := zsh_g zdk_579 (r := 7) (k := 0) rfl rfl rfl
theorem zd_579_32 : decode prog_14_method_153_code 32 = .ok (.iconst 0, 1) := zsh_g zdk_579 (r := 8) (k := 0) rfl rfl rfl
theorem zd_579_34 : decode prog_14_method_153_code 34 = .ok (.aload_n 0, 1) := zsh_g zdk_579 (r := 8) (k := 1) rfl rfl rfl
theorem zd_579_35 : decode prog_14_method_153_code 35 = .ok (.dup, 1) := zsh_g zdk_579 (r := 8) (k := 2) rfl rfl rfl
theorem zd_579_36 : decode prog_14_method_153_code 36 = .ok (.getfield 1401, 3) := zsh_g zdk_579 (r := 9) (k := 0) rfl rfl rfl
theorem zd_579_39 : decode prog_14_method_153_code 39 = .ok (.iconst 1, 1) := zsh_g zdk_579 (r := 9) (k := 1) rfl rfl rfl
theorem zd_579_40 : decode prog_14_method_153_code 40 = .ok (.iadd, 1) := zsh_g zdk_579 (r := 10) (k := 0) rfl rfl rfl
theorem zd_579_41 : decode prog_14_method_153_code 41 = .ok (.putfield 1401, 3) := zsh_g zdk_579 (r := 10) (k := 1) rfl rfl rfl
theorem zd_579_44 : decode prog_14_method_153_code 44 = .ok (.iconst 1, 1) := zsh_g zdk_579 (r := 11) (k := 0) rfl rfl rfl
def zdl_580 : List (List (Nat × Instr × Nat)) := [[(0, (.aload_n 0), 1), (1, (.getfield 386), 3)], [(0, (.aload_n 0), 1), (1, (.getfield 1272), 3)], [(0, (.iconst 0), 1), (1, .bastore, 1)]]
theorem zdk_580 : zsh_all 8 zdl_580 prog_14_method_147_code.data.toList = true := by decide +kernel
theorem zd_580_0 : decode prog_14_method_147_code 0 = .ok (.aload_n 0, 1) := zsh_g zdk_580 (r := 0) (k := 0) rfl rfl rfl
theorem zd_580_1 : decode prog_14_method_147_code 1 = .ok (.getfield 386, 3) := zsh_g zdk_580 (r := 0) (k := 1) rfl rfl rfl
theorem zd_580_4 : decode prog_14_method_147_code 4 = .ok (.aload_n 0, 1) := zsh_g zdk_580 (r := 1) (k := 0) rfl rfl rfl
theorem zd_580_5 : decode prog_14_method_147_code 5 = .ok (.getfield 1272, 3) := zsh_g zdk_580 (r := 1) (k := 1) rfl rfl rfl
theorem zd_580_8 : decode prog_14_method_147_code 8 = .ok (.iconst 0, 1) := zsh_g zdk_580 (r := 2) (k := 0) rfl rfl rfl
theorem zd_580_9 : decode prog_14_method_147_code 9 = .ok (.bastore, 1) := zsh_g zdk_580 (r := 2) (k := 1) rfl rfl rfl
def zdl_581 : List (List (Nat × Instr × Nat)) := [[(0, (.aload_n 0), 1), (1, (.getfield 1275), 3)], [(0, (.sipush 16384), 3), (3, (.if_icmp .ne 10), 3)], [(2, (.aload_n 0), 1), (3, (.bipush 6), 2)], [(1, (.invokevirtual 1216), 3)], [(1, (.aload_n 0), 1), (2, (.getfield 377), 3)], [(1, (.aload_n 0), 1), (2, (.getfield 1275), 3)], [(1, (.iload_n 1), 1), (2, (.sipush 255), 3)], [(1, .iand, 1), (2, .iastore, 1), (3, (.aload_n 0), 1)], [(0, (.getfield 380), 3), (3, (.aload_n 0), 1)], [(0, (.getfield 1275), 3), (3, (.aload_n 0), 1)], [(0, (.getfield 1272), 3), (3, .iastore, 1)], [(0, (.aload_n 0), 1), (1, .dup, 1), (2, (.getfield 1275), 3)], [(1, (.iconst 1), 1), (2, .iadd, 1), (3, (.putfield 1275), 3)], [(2, (.aload_n 0), 1), (3, (.getfield 53), 3)], [(2, (.bipush 64), 2)], [(0, (.aload_n 0), 1), (1, (.getfield 1174), 3)], [(0, .imul, 1), (1, (.aload_n 0), 1), (2, (.getfield 1272), 3)], [(1, .iadd, 1), (2, .dup2, 1), (3, .iaload, 1)], [(0, (.iconst 1), 1), (1, .iadd, 1), (2, .iastore, 1)]]
theorem zdk_581 : zsh_all 8 zdl_581 prog_14_method_124_code.data.toList = true := by decide +kernel
theorem zd_581_0 : decode prog_14_method_124_code 0 = .ok (.aload_n 0, 1) := zsh_g zdk_581 (r := 0) (k := 0) rfl rfl rfl
theorem zd_581_1 : decode prog_14_method_124_code 1 = .ok (.getfield 1275, 3) := zsh_g zdk_581 (r := 0) (k := 1) rfl rfl rfl
theorem zd_581_4 : decode prog_14_method_124_code 4 = .ok (.sipush 16384, 3) := zsh_g zdk_581 (r := 1) (k := 0) rfl rfl rfl
theorem zd_581_7 : decode prog_14_method_124_code 7 = .ok (.if_icmp .ne 10, 3) := zsh_g zdk_581 (r := 1) (k := 1) rfl rfl rfl
theorem zd_581_10 : decode prog_14_method_124_code 10 = .ok (.aload_n 0, 1) := zsh_g zdk_581 (r := 2) (k := 0) rfl rfl rfl
theorem zd_581_11 : decode prog_14_method_124_code 11 = .ok (.bipush 6, 2) := zsh_g zdk_581 (r := 2) (k := 1) rfl rfl rfl
theorem zd_581_13 : decode prog_14_method_124_code 13 = .ok (.invokevirtual 1216, 3) := zsh_g zdk_581 (r := 3) (k := 0) rfl rfl rfl
theorem zd_581_17 : decode prog_14_method_124_code 17 = .ok (.aload_n 0, 1) := zsh_g zdk_581 (r := 4) (k := 0) rfl rfl rfl
theorem zd_581_18 : decode prog_14_method_124_code 18 = .ok (.getfield 377, 3) := zsh_g zdk_581 (r := 4) (k := 1) rfl rfl rfl
theorem zd_581_21 : decode prog_14_method_124_code 21 = .ok (.aload_n 0, 1) := zsh_g zdk_581 (r := 5) (k := 0) rfl rfl rfl
theorem zd_581_22 : decode prog_14_method_124_code 22 = .ok (.getfield 1275, 3) := zsh_g zdk_581 (r := 5) (k := 1) rfl rfl rfl
theorem zd_581_25 : decode prog_14_method_124_code 25 = .ok (.iload_n 1, 1) := zsh_g zdk_581 (r := 6) (k := 0) rfl rfl rfl
theorem zd_581_26 : decode prog_14_method_124_code 26 = .ok (.sipush 255, 3) := zsh_g zdk_581 (r := 6) (k := 1) rfl rfl rfl
theorem zd_581_29 : decode prog_14_method_124_code 29 = .ok (.iand, 1) := zsh_g zdk_581 (r := 7) (k := 0) rfl rfl rfl
theorem zd_581_30 : decode prog_14_method_124_code 30 = .ok (.iastore, 1) := zsh_g zdk_581 (r := 7) (k := 1) rfl rfl rfl
theorem zd_581_31 : decode prog_14_method_124_code 31 = .ok (.aload_n 0, 1) := zsh_g zdk_581 (r := 7) (k := 2) rfl rfl rfl
theorem zd_581_32 : decode prog_14_method_124_code 32 = .ok (.getfield 380, 3) := zsh_g zdk_581 (r := 8) (k := 0) rfl rfl rfl
theorem zd_581_35 : decode prog_14_method_124_code 35 = .ok (.aload_n 0, 1) := zsh_g zdk_581 (r := 8) (k := 1) rfl rfl rfl
theorem zd_581_36 : decode prog_14_method_124_code 36 = .ok (.getfield 1275, 3) := zsh_g zdk_581 (r := 9) (k := 0) rfl rfl rfl
theorem zd_581_39 : decode prog_14_method_124_code 39 = .ok (.aload_n 0, 1) := zsh_g zdk_581 (r := 9) (k := 1) rfl rfl rfl
theorem zd_581_40 : decode prog_14_method_124_code 40 = .ok (.getfield 1272, 3) := zsh_g zdk_581 (r := 10) (k := 0) rfl rfl rfl
theorem zd_581_43 : decode prog_14_method_124_code 43 = .ok (.iastore, 1) := zsh_g zdk_581 (r := 10) (k := 1) rfl rfl rfl
theorem zd_581_44 : decode prog_14_method_124_code 44 = .ok (.aload_n 0, 1) := zsh_g zdk_581 (r := 11) (k := 0) rfl rfl rfl
theorem zd_581_45 : decode prog_14_method_124_code 45 = .ok (.dup, 1) := zsh_g zdk_581 (r := 11) (k := 1) rfl rfl rfl
theorem zd_581_46 : decode prog_14_method_124_code 46 = .ok (.getfield 1275, 3) := zsh_g zdk_581 (r := 11) (k := 2) rfl rfl rfl
theorem zd_581_49 : decode prog_14_method_124_code 49 = .ok (.iconst 1, 1) := zsh_g zdk_581 (r := 12) (k := 0) rfl rfl rfl
theorem zd_581_50 : decode prog_14_method_124_code 50 = .ok (.iadd, 1) := zsh_g zdk_581 (r := 12) (k := 1) rfl rfl rfl
theorem zd_581_51 : decode prog_14_method_124_code 51 = .ok (.putfield 1275, 3) := zsh_g zdk_581 (r := 12) (k := 2) rfl rfl rfl
theorem zd_581_54 : decode prog_14_method_124_code 54 = .ok (.aload_n 0, 1) := zsh_g zdk_581 (r := 13) (k := 0) rfl rfl rfl
theorem zd_581_55 : decode prog_14_method_124_code 55 = .ok (.getfield 53, 3) := zsh_g zdk_581 (r := 13) (k := 1) rfl rfl rfl
theorem zd_581_58 : decode prog_14_method_124_code 58 = .ok (.bipush 64, 2) := zsh_g zdk_581 (r := 14) (k := 0) rfl rfl rfl
theorem zd_581_60 : decode prog_14_method_124_code 60 = .ok (.aload_n 0, 1) := zsh_g zdk_581 (r := 15) (k := 0) rfl rfl rfl
theorem zd_581_61 : decode prog_14_method_124_code 61 = .ok (.getfield 1174, 3) := zsh_g zdk_581 (r := 15) (k := 1) rfl rfl rfl
theorem zd_581_64 : decode prog_14_method_124_code 64 = .ok (.imul, 1) := zsh_g zdk_581 (r := 16) (k := 0) rfl rfl rfl
theorem zd_581_65 : decode prog_14_method_124_code 65 = .ok (.aload_n 0, 1) := zsh_g zdk_581 (r := 16) (k := 1) rfl rfl rfl
theorem zd_581_66 : decode prog_14_method_124_code 66 = .ok (.getfield 1272, 3) := zsh_g zdk_581 (r := 16) (k := 2) rfl rfl rfl
theorem zd_581_69 : decode prog_14_method_124_code 69 = .ok (.iadd, 1) := zsh_g zdk_581 (r := 17) (k := 0) rfl rfl rfl
theorem zd_581_70 : decode prog_14_method_124_code 70 = .ok (.dup2, 1) := zsh_g zdk_581 (r := 17) (k := 1) rfl rfl rfl
theorem zd_581_71 : decode prog_14_method_124_code 71 = .ok (.iaload, 1) := zsh_g zdk_581 (r := 17) (k := 2) rfl rfl rfl
theorem zd_581_72 : decode prog_14_method_124_code 72 = .ok (.iconst 1, 1) := zsh_g zdk_581 (r := 18) (k := 0) rfl rfl rfl
theorem zd_581_73 : decode prog_14_method_124_code 73 = .ok (.iadd, 1) := zsh_g zdk_581 (r := 18) (k := 1) rfl rfl rfl
theorem zd_581_74 : decode prog_14_method_124_code 74 = .ok (.iastore, 1) := zsh_g zdk_581 (r := 18) (k := 2) rfl rfl rfl
def zdl_582 : List (List (Nat × Instr × Nat)) := [[(0, (.aload_n 0), 1), (1, (.getfield 1219), 3)], [(0, (.istore_n 1), 1), (1, (.iload_n 1), 1), (2, (.aload_n 0), 1), (3, (.getfield 1204), 3)], [(2, (.if_icmp .ge 20), 3)], [(1, (.aload_n 0), 1), (2, (.getfield 298), 3)], [(1, (.iload_n 1), 1), (2, .iaload, 1), (3, (.bipush 44), 2)], [(1, (.if_icmp .eq 9), 3)], [(0, (.iinc 1 1), 3), (3, (.goto (-22)), 3)], [(2, (.iload_n 1), 1), (3, (.aload_n 0), 1)], [(0, (.getfield 1204), 3), (3, (.if_icmp .lt 9), 3)], [(2, (.aload_n 0), 1), (3, (.iconst 1), 1)], [(0, (.invokevirtual 1216), 3)], [(0, (.aload_n 0), 1), (1, (.getfield 1219), 3)], [(0, (.istore_n 2), 1), (1, (.iload_n 1), 1), (2, (.istore_n 3), 1), (3, (.iload_n 1), 1)], [(0, (.iconst 1), 1), (1, .iadd, 1), (2, (.istore 4), 2)], [(0, (.aload_n 0), 1), (1, (.getfield 1204), 3)], [(0, (.istore 5), 2), (2, (.iload_n 2), 1), (3, (.iload_n 3), 1)], [(0, (.if_icmp .ge 20), 3), (3, (.aload_n 0), 1)], [(0, (.getfield 298), 3), (3, (.iload_n 2), 1)], [(0, .iaload, 1), (1, (.bipush 32), 2), (3, (.if_icmp .ne 9), 3)], [(2, (.iinc 2 1), 3)], [(1, (.goto (-19)), 3)], [(0, (.iload_n 2), 1), (1, (.iload_n 3), 1), (2, (.if_icmp .ge 22), 3)], [(1, (.aload_n 0), 1), (2, (.getfield 298), 3)], [(1, (.iload_n 3), 1), (2, (.iconst 1), 1), (3, .isub, 1)], [(0, .iaload, 1), (1, (.bipush 32), 2), (3, (.if_icmp .ne 9), 3)], [(2, (.iinc 3 (-1)), 3)], [(1, (.goto (-21)), 3)], [(0, (.iload 4), 2), (2, (.iload 5), 2)], [(0, (.if_icmp .ge 21), 3), (3, (.aload_n 0), 1)], [(0, (.getfield 298), 3), (3, (.iload 4), 2)], [(1, .iaload, 1), (2, (.bipush 32), 2)], [(0, (.if_icmp .ne 9), 3), (3, (.iinc 4 1), 3)], [(2, (.goto (-22)), 3)], [(1, (.iload 4), 2), (3, (.iload 5), 2)], [(1, (.if_icmp .ge 23), 3)], [(0, (.aload_n 0), 1), (1, (.getfield 298), 3)], [(0, (.iload 5), 2), (2, (.iconst 1), 1), (3, .isub, 1)], [(0, .iaload, 1), (1, (.bipush 32), 2), (3, (.if_icmp .ne 9), 3)], [(2, (.iinc 5 (-1)), 3)], [(1, (.goto (-24)), 3)], [(0, (.iload_n 3), 1), (1, (.iload_n 2), 1), (2, .isub, 1), (3, (.iload 5), 2)], [(1, (.iload 4), 2), (3, .isub, 1)], [(0, (.if_icmp .ne 7), 3), (3, (.iconst 1), 1)], [(0, (.goto 4), 3), (3, (.iconst 0), 1)], [(0, (.istore 6), 2), (2, (.iconst 0), 1), (3, (.istore 7), 2)], [(1, (.iload 7), 2), (3, (.iload_n 3), 1)], [(0, (.iload_n 2), 1), (1, .isub, 1), (2, (.if_icmp .ge 43), 3)], [(1, (.iload 6), 2), (3, (.ifCond .eq 38), 3)], [(2, (.aload_n 0), 1), (3, (.getfield 298), 3)], [(2, (.iload_n 2), 1), (3, (.iload 7), 2)], [(1, .iadd, 1), (2, .iaload, 1), (3, (.aload_n 0), 1)], [(0, (.getfield 298), 3), (3, (.iload 4), 2)], [(1, (.iload 7), 2), (3, .iadd, 1)], [(0, .iaload, 1), (1, (.if_icmp .ne 7), 3)], [(0, (.iconst 1), 1), (1, (.goto 4), 3)], [(0, (.iconst 0), 1), (1, (.istore 6), 2), (3, (.iinc 7 1), 3)], [(2, (.goto (-45)), 3)], [(1, (.aload_n 0), 1), (2, (.iload 6), 2)], [(0, (.iconst 0), 1), (1, (.invokevirtual 1428), 3)]]
theorem zdk_582 : zsh_all 8 zdl_582 prog_14_method_161_code.data.toList = true := by decide +kernel
theorem zd_582_0 : decode prog_14_method_161_code 0 = .ok (.aload_n 0, 1) := zsh_g zdk_582 (r := 0) (k := 0) rfl rfl rfl
theorem zd_582_1 : decode prog_14_method_161_code 1 = .ok (.getfield 1219, 3) := zsh_g zdk_582 (r := 0) (k := 1) rfl rfl rfl
theorem zd_582_4 : decode prog_14_method_161_code 4 = .ok (.istore_n 1, 1) := zsh_g zdk_582 (r := 1) (k := 0) rfl rfl rfl
theorem zd_582_5 : decode prog_14_method_161_code 5 = .ok (.iload_n 1, 1) := zsh_g zdk_582 (r := 1) (k := 1) rfl rfl rfl
theorem zd_582_6 : decode prog_14_method_161_code 6 = .ok (.aload_n 0, 1) := zsh_g zdk_582 (r := 1) (k := 2) rfl rfl rfl
theorem zd_582_7 : decode prog_14_method_161_code 7 = .ok (.getfield 1204, 3) := zsh_g zdk_582 (r := 1) (k := 3) rfl rfl rfl
theorem zd_582_10 : decode prog_14_method_161_code 10 = .ok (.if_icmp .ge 20, 3) := zsh_g zdk_582 (r := 2) (k := 0) rfl rfl rfl
theorem zd_582_13 : decode prog_14_method_161_code 13 = .ok (.aload_n 0, 1) := zsh_g zdk_582 (r := 3) (k := 0) rfl rfl rfl
theorem zd_582_14 : decode prog_14_method_161_code 14 = .ok (.getfield 298, 3) := zsh_g zdk_582 (r := 3) (k := 1) rfl rfl rfl
theorem zd_582_17 : decode prog_14_method_161_code 17 = .ok (.iload_n 1, 1) := zsh_g zdk_582 (r := 4) (k := 0) rfl rfl rfl
theorem zd_582_18 : decode prog_14_method_161_code 18 = .ok (.iaload, 1) := zsh_g zdk_582 (r := 4) (k := 1) rfl rfl rfl
theorem zd_582_19 : decode prog_14_method_161_code 19 = .ok (.bipush 44, 2) := zsh_g zdk_582 (r := 4) (k := 2) rfl rfl rfl
theorem zd_582_21 : decode prog_14_method_161_code 21 = .ok (.if_icmp .eq 9, 3) := zsh_g zdk_582 (r := 5) (k := 0) rfl rfl rfl
theorem zd_582_24 : decode prog_14_method_161_code 24 = .ok (.iinc 1 1, 3) := zsh_g zdk_582 (r := 6) (k := 0) rfl rfl rfl
theorem zd_582_27 : decode prog_14_method_161_code 27 = .ok (.goto (-22), 3) := zsh_g zdk_582 (r := 6) (k := 1) rfl rfl rfl
theorem zd_582_30 : decode prog_14_method_161_code 30 = .ok (.iload_n 1, 1) := zsh_g zdk_582 (r := 7) (k := 0) rfl rfl rfl
theorem zd_582_31 : decode prog_14_method_161_code 31 = .ok (.aload_n 0, 1) := zsh_g zdk_582 (r := 7) (k := 1) rfl rfl rfl
theorem zd_582_32 : decode prog_14_method_161_code 32 = .ok (.getfield 1204, 3) := zsh_g zdk_582 (r := 8) (k := 0) rfl rfl rfl
theorem zd_582_35 : decode prog_14_method_161_code 35 = .ok (.if_icmp .lt 9, 3) := zsh_g zdk_582 (r := 8) (k := 1) rfl rfl rfl
theorem zd_582_38 : decode prog_14_method_161_code 38 = .ok (.aload_n 0, 1) := zsh_g zdk_582 (r := 9) (k := 0) rfl rfl rfl
theorem zd_582_39 : decode prog_14_method_161_code 39 = .ok (.iconst 1, 1) := zsh_g zdk_582 (r := 9) (k := 1) rfl rfl rfl
theorem zd_582_40 : decode prog_14_method_161_code 40 = .ok (.invokevirtual 1216, 3) := zsh_g zdk_582 (r := 10) (k := 0) rfl rfl rfl
theorem zd_582_44 : decode prog_14_method_161_code 44 = .ok (.aload_n 0, 1) := zsh_g zdk_582 (r := 11) (k := 0) rfl rfl rfl
theorem zd_582_45 : decode prog_14_method_161_code 45 = .ok (.getfield 1219, 3) := zsh_g zdk_582 (r := 11) (k := 1) rfl rfl rfl
theorem zd_582_48 : decode prog_14_method_161_code 48 = .ok (.istore_n 2, 1) := zsh_g zdk_582 (r := 12) (k := 0) rfl rfl rfl
theorem zd_582_49 : decode prog_14_method_161_code 49 = .ok (.iload_n 1, 1) := zsh_g zdk_582 (r := 12) (k := 1) rfl rfl rfl
theorem zd_582_50 : decode prog_14_method_161_code 50 = .ok (.istore_n 3, 1) := zsh_g zdk_582 (r := 12) (k := 2) rfl rfl rfl
theorem zd_582_51 : decode prog_14_method_161_code 51 = .ok (.iload_n 1, 1) := zsh_g zdk_582 (r := 12) (k := 3) rfl rfl rfl
theorem zd_582_52 : decode prog_14_method_161_code 52 = .ok (.iconst 1, 1) := zsh_g zdk_582 (r := 13) (k := 0) rfl rfl rfl
theorem zd_582_53 : decode prog_14_method_161_code 53 = .ok (.iadd, 1) := zsh_g zdk_582 (r := 13) (k := 1) rfl rfl rfl
theorem zd_582_54 : decode prog_14_method_161_code 54 = .ok (.istore 4, 2) := zsh_g zdk_582 (r := 13) (k := 2) rfl rfl rfl
theorem zd_582_56 : decode prog_14_method_161_code 56 = .ok (.aload_n 0, 1) := zsh_g zdk_582 (r := 14) (k := 0) rfl rfl rfl
theorem zd_582_57 : decode prog_14_method_161_code 57 = .ok (.getfield 1204, 3) := zsh_g zdk_582 (r := 14) (k := 1) rfl rfl rfl
theorem zd_582_60 : decode prog_14_method_161_code 60 = .ok (.istore 5, 2) := zsh_g zdk_582 (r := 15) (k := 0) rfl rfl rfl
theorem zd_582_62 : decode prog_14_method_161_code 62 = .ok (.iload_n 2, 1) := zsh_g zdk_582 (r := 15) (k := 1) rfl rfl rfl
theorem zd_582_63 : decode prog_14_method_161_code 63 = .ok (.iload_n 3, 1) := zsh_g zdk_582 (r := 15) (k := 2) rfl rfl rfl
theorem zd_582_64 : decode prog_14_method_161_code 64 = .ok (.if_icmp .ge 20, 3) := zsh_g zdk_582 (r := 16) (k := 0) rfl rfl rfl
theorem zd_582_67 : decode prog_14_method_161_code 67 = .ok (.aload_n 0, 1) := zsh_g zdk_582 (r := 16) (k := 1) rfl rfl rfl
theorem zd_582_68 : decode prog_14_method_161_code 68 = .ok (.getfield 298, 3) := zsh_g zdk_582 (r := 17) (k := 0) rfl rfl rfl
theorem zd_582_71 : decode prog_14_method_161_code 71 = .ok (.iload_n 2, 1) := zsh_g zdk_582 (r := 17) (k := 1) rfl rfl rfl
theorem zd_582_72 : decode prog_14_method_161_code 72 = .ok (.iaload, 1) := zsh_g zdk_582 (r := 18) (k := 0) rfl rfl rfl
theorem zd_582_73 : decode prog_14_method_161_code 73 = .ok (.bipush 32, 2) := zsh_g zdk_582 (r := 18) (k := 1) rfl rfl rfl
theorem zd_582_75 : decode prog_14_method_161_code 75 = .ok (.if_icmp .ne 9, 3) := zsh_g zdk_582 (r := 18) (k := 2) rfl rfl rfl
theorem zd_582_78 : decode prog_14_method_161_code 78 = .ok (.iinc 2 1, 3) := zsh_g zdk_582 (r := 19) (k := 0) rfl rfl rfl
theorem zd_582_81 : decode prog_14_method_161_code 81 = .ok (.goto (-19), 3) := zsh_g zdk_582 (r := 20) (k := 0) rfl rfl rfl
theorem zd_582_84 : decode prog_14_method_161_code 84 = .ok (.iload_n 2, 1) := zsh_g zdk_582 (r := 21) (k := 0) rfl rfl rfl
theorem zd_582_85 : decode prog_14_method_161_code 85 = .ok (.iload_n 3, 1) := zsh_g zdk_582 (r := 21) (k := 1) rfl rfl rfl
theorem zd_582_86 : decode prog_14_method_161_code 86 = .ok (.if_icmp .ge 22, 3) := zsh_g zdk_582 (r := 21) (k := 2) rfl rfl rfl
theorem zd_582_89 : decode prog_14_method_161_code 89 = .ok (.aload_n 0, 1) := zsh_g zdk_582 (r := 22) (k := 0) rfl rfl rfl
theorem zd_582_90 : decode prog_14_method_161_code 90 = .ok (.getfield 298, 3) := zsh_g zdk_582 (r := 22) (k := 1) rfl rfl rfl
theorem zd_582_93 : decode prog_14_method_161_code 93 = .ok (.iload_n 3, 1) := zsh_g zdk_582 (r := 23) (k := 0) rfl rfl rfl
theorem zd_582_94 : decode prog_14_method_161_code 94 = .ok (.iconst 1, 1) := zsh_g zdk_582 (r := 23) (k := 1) rfl rfl rfl
theorem zd_582_95 : decode prog_14_method_161_code 95 = .ok (.isub, 1) := zsh_g zdk_582 (r := 23) (k := 2) rfl rfl rfl
theorem zd_582_96 : decode prog_14_method_161_code 96 = .ok (.iaload, 1) := zsh_g zdk_582 (r := 24) (k := 0) rfl rfl rfl
theorem zd_582_97 : decode prog_14_method_161_code 97 = .ok (.bipush 32, 2) := zsh_g zdk_582 (r := 24) (k := 1) rfl rfl rfl
theorem zd_582_99 : decode prog_14_method_161_code 99 = .ok (.if_icmp .ne 9, 3) := zsh_g zdk_582 (r := 24) (k := 2) rfl rfl rfl
theorem zd_582_102 : decode prog_14_method_161_code 102 = .ok (.iinc 3 (-1), 3) := zsh_g zdk_582 (r := 25) (k := 0) rfl rfl rfl
theorem zd_582_105 : decode prog_14_method_161_code 105 = .ok (.goto (-21), 3) := zsh_g zdk_582 (r := 26) (k := 0) rfl rfl rfl
theorem zd_582_108 : decode prog_14_method_161_code 108 = .ok (.iload 4, 2) := zsh_g zdk_582 (r := 27) (k := 0) rfl rfl rfl
theorem zd_582_110 : decode prog_14_method_161_code 110 = .ok (.iload 5, 2) := zsh_g zdk_582 (r := 27) (k := 1) rfl rfl rfl
theorem zd_582_112 : decode prog_14_method_161_code 112 = .ok (.if_icmp .ge 21, 3) := zsh_g zdk_582 (r := 28) (k := 0) rfl rfl rfl
theorem zd_582_115 : decode prog_14_method_161_code 115 = .ok (.aload_n 0, 1) := zsh_g zdk_582 (r := 28) (k := 1) rfl rfl rfl
theorem zd_582_116 : decode prog_14_method_161_code 116 = .ok (.getfield 298, 3) := zsh_g zdk_582 (r := 29) (k := 0) rfl rfl rfl
theorem zd_582_119 : decode prog_14_method_161_code 119 = .ok (.iload 4, 2) := zsh_g zdk_582 (r := 29) (k := 1) rfl rfl rfl
theorem zd_582_121 : decode prog_14_method_161_code 121 = .ok (.iaload, 1) := zsh_g zdk_582 (r := 30) (k := 0) rfl rfl rfl
theorem zd_582_122 : decode prog_14_method_161_code 122 = .ok (.bipush 32, 2) := zsh_g zdk_582 (r := 30) (k := 1) rfl rfl rfl
theorem zd_582_124 : decode prog_14_method_161_code 124 = .ok (.if_icmp .ne 9, 3) := zsh_g zdk_582 (r := 31) (k := 0) rfl rfl rfl
theorem zd_582_127 : decode prog_14_method_161_code 127 = .ok (.iinc 4 1, 3) := zsh_g zdk_582 (r := 31) (k := 1) rfl rfl rfl
theorem zd_582_130 : decode prog_14_method_161_code 130 = .ok (.goto (-22), 3) := zsh_g zdk_582 (r := 32) (k := 0) rfl rfl rfl
theorem zd_582_133 : decode prog_14_method_161_code 133 = .ok (.iload 4, 2) := zsh_g zdk_582 (r := 33) (k := 0) rfl rfl rfl
theorem zd_582_135 : decode prog_14_method_161_code 135 = .ok (.iload 5, 2) := zsh_g zdk_582 (r := 33) (k := 1) rfl rfl rfl
theorem zd_582_137 : decode prog_14_method_161_code 137 = .ok (.if_icmp .ge 23, 3) := zsh_g zdk_582 (r := 34) (k := 0) rfl rfl rfl
theorem zd_582_140 : decode prog_14_method_161_code 140 = .ok (.aload_n 0, 1) := zsh_g zdk_582 (r := 35) (k := 0) rfl rfl rfl
theorem zd_582_141 : decode prog_14_method_161_code 141 = .ok (.getfield 298, 3) := zsh_g zdk_582 (r := 35) (k := 1) rfl rfl rfl
theorem zd_582_144 : decode prog_14_method_161_code 144 = .ok (.iload 5, 2) := zsh_g zdk_582 (r := 36) (k := 0) rfl rfl rfl
theorem zd_582_146 : decode prog_14_method_161_code 146 = .ok (.iconst 1, 1) := zsh_g zdk_582 (r := 36) (k := 1) rfl rfl rfl
theorem zd_582_147 : decode prog_14_method_161_code 147 = .ok (.isub, 1) := zsh_g zdk_582 (r := 36) (k := 2) rfl rfl rfl
theorem zd_582_148 : decode prog_14_method_161_code 148 = .ok (.iaload, 1) := zsh_g zdk_582 (r := 37) (k := 0) rfl rfl rfl
theorem zd_582_149 : decode prog_14_method_161_code 149 = .ok (.bipush 32, 2) := zsh_g zdk_582 (r := 37) (k := 1) rfl rfl rfl
theorem zd_582_151 : decode prog_14_method_161_code 151 = .ok (.if_icmp .ne 9, 3) := zsh_g zdk_582 (r := 37) (k := 2) rfl rfl rfl
theorem zd_582_154 : decode prog_14_method_161_code 154 = .ok (.iinc 5 (-1), 3) := zsh_g zdk_582 (r := 38) (k := 0) rfl rfl rfl
theorem zd_582_157 : decode prog_14_method_161_code 157 = .ok (.goto (-24), 3) := zsh_g zdk_582 (r := 39) (k := 0) rfl rfl rfl
theorem zd_582_160 : decode prog_14_method_161_code 160 = .ok (.iload_n 3, 1) := zsh_g zdk_582 (r := 40) (k := 0) rfl rfl rfl
theorem zd_582_161 : decode prog_14_method_161_code 161 = .ok (.iload_n 2, 1) := zsh_g zdk_582 (r := 40) (k := 1) rfl rfl rfl
theorem zd_582_162 : decode prog_14_method_161_code 162 = .ok (.isub, 1) := zsh_g zdk_582 (r := 40) (k := 2) rfl rfl rfl
theorem zd_582_163 : decode prog_14_method_161_code 163 = .ok (.iload 5, 2) := zsh_g zdk_582 (r := 40) (k := 3) rfl rfl rfl
theorem zd_582_165 : decode prog_14_method_161_code 165 = .ok (.iload 4, 2) := zsh_g zdk_582 (r := 41) (k := 0) rfl rfl rfl
theorem zd_582_167 : decode prog_14_method_161_code 167 = .ok (.isub, 1) := zsh_g zdk_582 (r := 41) (k := 1) rfl rfl rfl
theorem zd_582_168 : decode prog_14_method_161_code 168 = .ok (.if_icmp .ne 7, 3) := zsh_g zdk_582 (r := 42) (k := 0) rfl rfl rfl
theorem zd_582_171 : decode prog_14_method_161_code 171 = .ok (.iconst 1, 1) := zsh_g zdk_582 (r := 42) (k := 1) rfl rfl rfl
theorem zd_582_172 : decode prog_14_method_161_code 172 = .ok (.goto 4, 3) := zsh_g zdk_582 (r := 43) (k := 0) rfl rfl rfl
theorem zd_582_175 : decode prog_14_method_161_code 175 = .ok (.iconst 0, 1) := zsh_g zdk_582 (r := 43) (k := 1) rfl rfl rfl
theorem zd_582_176 : decode prog_14_method_161_code 176 = .ok (.istore 6, 2) := zsh_g zdk_582 (r := 44) (k := 0) rfl rfl rfl
theorem zd_582_178 : decode prog_14_method_161_code 178 = .ok (.iconst 0, 1) := zsh_g zdk_582 (r := 44) (k := 1) rfl rfl rfl
theorem zd_582_179 : decode prog_14_method_161_code 179 = .ok (.istore 7, 2) := zsh_g zdk_582 (r := 44) (k := 2) rfl rfl rfl
theorem zd_582_181 : decode prog_14_method_161_code 181 = .ok (.iload 7, 2) := zsh_g zdk_582 (r := 45) (k := 0) rfl rfl rfl
theorem zd_582_183 : decode prog_14_method_161_code 183 = .ok (.iload_n 3, 1) := zsh_g zdk_582 (r := 45) (k := 1) rfl rfl rfl
theorem zd_582_184 : decode prog_14_method_161_code 184 = .ok (.iload_n 2, 1) := zsh_g zdk_582 (r := 46) (k := 0) rfl rfl rfl
theorem zd_582_185 : decode prog_14_method_161_code 185 = .ok (.isub, 1) := zsh_g zdk_582 (r := 46) (k := 1) rfl rfl rfl
theorem zd_582_186 : decode prog_14_method_161_code 186 = .ok (.if_icmp .ge 43, 3) := zsh_g zdk_582 (r := 46) (k := 2) rfl rfl rfl
theorem zd_582_189 : decode prog_14_method_161_code 189 = .ok (.iload 6, 2) := zsh_g zdk_582 (r := 47) (k := 0) rfl rfl rfl
theorem zd_582_191 : decode prog_14_method_161_code 191 = .ok (.ifCond .eq 38, 3) := zsh_g zdk_582 (r := 47) (k := 1) rfl rfl rfl
theorem zd_582_194 : decode prog_14_method_161_code 194 = .ok (.aload_n 0, 1) := zsh_g zdk_582 (r := 48) (k := 0) rfl rfl rfl
theorem zd_582_195 : decode prog_14_method_161_code 195 = .ok (.getfield 298, 3) := zsh_g zdk_582 (r := 48) (k := 1) rfl rfl rfl
theorem zd_582_198 : decode prog_14_method_161_code 198 = .ok (.iload_n 2, 1) := zsh_g zdk_582 (r := 49) (k := 0) rfl rfl rfl
theorem zd_582_199 : decode prog_14_method_161_code 199 = .ok (.iload 7, 2) := zsh_g zdk_582 (r := 49) (k := 1) rfl rfl rfl
theorem zd_582_201 : decode prog_14_method_161_code 201 = .ok (.iadd, 1) := zsh_g zdk_582 (r := 50) (k := 0) rfl rfl rfl
theorem zd_582_202 : decode prog_14_method_161_code 202 = .ok (.iaload, 1) := zsh_g zdk_582 (r := 50) (k := 1) rfl rfl rfl
theorem zd_582_203 : decode prog_14_method_161_code 203 = .ok (.aload_n 0, 1) := zsh_g zdk_582 (r := 50) (k := 2) rfl rfl rfl
theorem zd_582_204 : decode prog_14_method_161_code 204 = .ok (.getfield 298, 3) := zsh_g zdk_582 (r := 51) (k := 0) rfl rfl rfl
theorem zd_582_207 : decode prog_14_method_161_code 207 = .ok (.iload 4, 2) := zsh_g zdk_582 (r := 51) (k := 1) rfl rfl rfl
theorem zd_582_209 : decode prog_14_method_161_code 209 = .ok (.iload 7, 2) := zsh_g zdk_582 (r := 52) (k := 0) rfl rfl rfl
theorem zd_582_211 : decode prog_14_method_161_code 211 = .ok (.iadd, 1) := zsh_g zdk_582 (r := 52) (k := 1) rfl rfl rfl
theorem zd_582_212 : decode prog_14_method_161_code 212 = .ok (.iaload, 1) := zsh_g zdk_582 (r := 53) (k := 0) rfl rfl rfl
theorem zd_582_213 : decode prog_14_method_161_code 213 = .ok (.if_icmp .ne 7, 3) := zsh_g zdk_582 (r := 53) (k := 1) rfl rfl rfl
theorem zd_582_216 : decode prog_14_method_161_code 216 = .ok (.iconst 1, 1) := zsh_g zdk_582 (r := 54) (k := 0) rfl rfl rfl
theorem zd_582_217 : decode prog_14_method_161_code 217 = .ok (.goto 4, 3) := zsh_g zdk_582 (r := 54) (k := 1) rfl rfl rfl
theorem zd_582_220 : decode prog_14_method_161_code 220 = .ok (.iconst 0, 1) := zsh_g zdk_582 (r := 55) (k := 0) rfl rfl rfl
theorem zd_582_221 : decode prog_14_method_161_code 221 = .ok (.istore 6, 2) := zsh_g zdk_582 (r := 55) (k := 1) rfl rfl rfl
theorem zd_582_223 : decode prog_14_method_161_code 223 = .ok (.iinc 7 1, 3) := zsh_g zdk_582 (r := 55) (k := 2) rfl rfl rfl
theorem zd_582_226 : decode prog_14_method_161_code 226 = .ok (.goto (-45), 3) := zsh_g zdk_582 (r := 56) (k := 0) rfl rfl rfl
theorem zd_582_229 : decode prog_14_method_161_code 229 = .ok (.aload_n 0, 1) := zsh_g zdk_582 (r := 57) (k := 0) rfl rfl rfl
theorem zd_582_230 : decode prog_14_method_161_code 230 = .ok (.iload 6, 2) := zsh_g zdk_582 (r := 57) (k := 1) rfl rfl rfl
theorem zd_582_232 : decode prog_14_method_161_code 232 = .ok (.iconst 0, 1) := zsh_g zdk_582 (r := 58) (k := 0) rfl rfl rfl
theorem zd_582_233 : decode prog_14_method_161_code 233 = .ok (.invokevirtual 1428, 3) := zsh_g zdk_582 (r := 58) (k := 1) rfl rfl rfl
def zdl_583 : List (List (Nat × Instr × Nat)) := [[(0, (.aload_n 0), 1), (1, (.invokevirtual 1254), 3)], [(0, (.istore_n 1), 1), (1, (.iconst 0), 1), (2, (.istore_n 2), 1), (3, (.aload_n 0), 1)], [(0, (.getfield 443), 3), (3, (.astore_n 3), 1)], [(0, (.aload_n 0), 1), (1, (.invokevirtual 1225), 3)], [(0, (.aload_n 0), 1), (1, (.getfield 1228), 3)], [(0, (.ifCond .eq 163), 3), (3, (.aload_n 0), 1)], [(0, (.getfield 1219), 3), (3, (.aload_n 0), 1)], [(0, (.getfield 1204), 3), (3, (.if_icmp .ge 152), 3)], [(2, (.iload_n 2), 1), (3, (.iconst 5), 1)], [(0, (.if_icmp .ge 147), 3), (3, (.iload_n 2), 1)], [(0, (.ifCond .le 9), 3), (3, (.aload_n 0), 1)], [(0, (.bipush 44), 2), (2, (.invokevirtual 1269), 3)], [(1, (.aload_n 0), 1), (2, (.getfield 1219), 3)], [(1, (.istore 4), 2), (3, (.aload_n 0), 1)], [(0, (.invokevirtual 1254), 3), (3, (.istore 5), 2)], [(1, (.iload 4), 2), (3, (.istore 6), 2)], [(1, (.iload 6), 2), (3, (.aload_n 0), 1)], [(0, (.getfield 1219), 3), (3, (.if_icmp .ge 46), 3)], [(2, (.iload 6), 2)], [(0, (.aload_n 0), 1), (1, (.getfield 1204), 3)], [(0, (.if_icmp .ge 37), 3), (3, (.aload_n 0), 1)], [(0, (.aload_n 0), 1), (1, (.getfield 1228), 3)], [(0, (.ifCond .eq 19), 3), (3, (.aload_n 0), 1)], [(0, (.getfield 298), 3), (3, (.iload 6), 2)], [(1, .iaload, 1), (2, (.bipush 46), 2)], [(0, (.if_icmp .eq 7), 3), (3, (.iconst 1), 1)], [(0, (.goto 4), 3), (3, (.iconst 0), 1)], [(0, (.putfield 1228), 3), (3, (.iinc 6 1), 3)], [(2, (.goto (-49)), 3)], [(1, (.iconst 0), 1), (2, (.istore 6), 2)], [(0, (.iload 6), 2), (2, (.iload_n 2), 1), (3, (.if_icmp .ge 40), 3)], [(2, (.iload 6), 2)], [(0, (.iconst 4), 1), (1, (.if_icmp .ge 34), 3)], [(0, (.aload_n 0), 1), (1, (.aload_n 0), 1), (2, (.getfield 1228), 3)], [(1, (.ifCond .eq 16), 3)], [(0, (.aload_n 3), 1), (1, (.iload 6), 2), (3, .iaload, 1)], [(0, (.iload 5), 2), (2, (.if_icmp .eq 7), 3)], [(1, (.iconst 1), 1), (2, (.goto 4), 3)], [(1, (.iconst 0), 1), (2, (.putfield 1228), 3)], [(1, (.iinc 6 1), 3)], [(0, (.goto (-40)), 3), (3, (.iload_n 2), 1)], [(0, (.iconst 4), 1), (1, (.if_icmp .ge 8), 3)], [(0, (.aload_n 3), 1), (1, (.iload_n 2), 1), (2, (.iload 5), 2)], [(0, .iastore, 1), (1, (.iinc 2 1), 3)], [(0, (.aload_n 0), 1), (1, (.invokevirtual 1225), 3)], [(0, (.goto (-164)), 3), (3, (.aload_n 0), 1)], [(0, (.invokevirtual 1336), 3), (3, (.aload_n 0), 1)], [(0, (.getfield 1228), 3), (3, (.ifCond .eq 8), 3)], [(2, (.iload_n 2), 1), (3, (.iconst 4), 1)], [(0, (.if_icmp .le 9), 3), (3, (.aload_n 0), 1)], [(0, (.iconst 1), 1), (1, (.invokevirtual 1216), 3)], [(1, (.aload_n 0), 1), (2, (.iload_n 1), 1), (3, (.invokevirtual 1456), 3)], [(2, (.ifCond .lt 9), 3)], [(1, (.aload_n 0), 1), (2, (.iconst 2), 1), (3, (.invokevirtual 1216), 3)], [(3, (.aload_n 0), 1)], [(0, (.getfield 1447), 3), (3, (.iconst 1), 1)], [(0, (.if_icmp .le 9), 3), (3, (.aload_n 0), 1)], [(0, (.iconst 5), 1), (1, (.invokevirtual 1216), 3)], [(1, (.aload_n 0), 1), (2, (.getfield 1450), 3)], [(1, (.bipush 12), 2), (3, (.if_icmp .ne 10), 3)], [(2, (.aload_n 0), 1), (3, (.bipush 6), 2)], [(1, (.invokevirtual 1216), 3)], [(1, (.aload_n 0), 1), (2, (.getfield 307), 3)], [(1, (.iconst 0), 1), (2, .iaload, 1), (3, (.istore 4), 2)], [(1, (.iload 4), 2), (3, (.istore 5), 2)], [(1, (.iconst 1), 1), (2, (.istore 6), 2)], [(0, (.iload 6), 2), (2, (.ifCond .eq 67), 3)], [(1, (.iload 5), 2), (3, (.aload_n 0), 1)], [(0, (.getfield 1189), 3), (3, (.if_icmp .ge 58), 3)], [(2, (.aload_n 0), 1), (3, (.getfield 1183), 3)], [(2, (.ifCond .ne 51), 3)], [(1, (.aload_n 0), 1), (2, (.iload 5), 2)], [(0, (.invokevirtual 1459), 3), (3, (.aload_n 0), 1)], [(0, (.iload 5), 2), (2, (.invokevirtual 1462), 3)], [(1, (.istore 7), 2), (3, (.iload 7), 2)], [(1, (.bipush 81), 2), (3, (.if_icmp .ne 10), 3)], [(2, (.aload_n 0), 1), (3, (.iconst 5), 1)], [(0, (.iload 5), 2), (2, (.invokevirtual 1180), 3)], [(1, (.iload 7), 2), (3, (.bipush 82), 2)], [(1, (.if_icmp .eq 7), 3)], [(0, (.iconst 1), 1), (1, (.goto 4), 3)], [(0, (.iconst 0), 1), (1, (.istore 6), 2), (3, (.iinc 5 1), 3)], [(2, (.goto (-66)), 3)], [(1, (.iload 6), 2), (3, (.ifCond .eq 9), 3)], [(2, (.aload_n 0), 1), (3, (.iconst 5), 1)], [(0, (.invokevirtual 1216), 3)], [(0, (.aload_n 0), 1), (1, (.getfield 307), 3)], [(0, (.iconst 0), 1), (1, (.iload 5), 2), (3, .iastore, 1)], [(0, (.aload_n 0), 1), (1, (.getfield 335), 3)], [(0, (.aload_n 0), 1), (1, (.getfield 1450), 3)], [(0, (.iload_n 1), 1), (1, .iastore, 1), (2, (.aload_n 0), 1), (3, (.getfield 338), 3)], [(2, (.aload_n 0), 1), (3, (.getfield 1450), 3)], [(2, (.iload 4), 2)], [(0, .iastore, 1), (1, (.aload_n 0), 1), (2, (.getfield 341), 3)], [(1, (.aload_n 0), 1), (2, (.getfield 1450), 3)], [(1, (.iload 5), 2), (3, (.iconst 1), 1)], [(0, .isub, 1), (1, .iastore, 1), (2, (.aload_n 0), 1), (3, (.getfield 344), 3)], [(2, (.aload_n 0), 1), (3, (.getfield 1450), 3)], [(2, (.iload_n 2), 1), (3, .iastore, 1)], [(0, (.iconst 0), 1), (1, (.istore 7), 2), (3, (.iload 7), 2)], [(1, (.iconst 4), 1), (2, (.if_icmp .ge 37), 3)], [(1, (.aload_n 0), 1), (2, (.getfield 347), 3)], [(1, (.iconst 4), 1), (2, (.aload_n 0), 1), (3, (.getfield 1450), 3)], [(2, .imul, 1), (3, (.iload 7), 2)], [(1, .iadd, 1), (2, (.iload 7), 2)], [(0, (.iload_n 2), 1), (1, (.if_icmp .ge 10), 3)], [(0, (.aload_n 3), 1), (1, (.iload 7), 2), (3, .iaload, 1)], [(0, (.goto 4), 3), (3, (.iconst (-1)), 1)], [(0, .iastore, 1), (1, (.iinc 7 1), 3)], [(0, (.goto (-37)), 3), (3, (.aload_n 0), 1)], [(0, .dup, 1), (1, (.getfield 1450), 3)], [(0, (.iconst 1), 1), (1, .iadd, 1), (2, (.putfield 1450), 3)]]
theorem zdk_583 : zsh_all 8 zdl_583 prog_14_method_165_code.data.toList = true := by decide +kernel
theorem zd_583_0 : decode prog_14_method_165_code 0 = .ok (.aload_n 0, 1) := zsh_g zdk_583 (r := 0) (k := 0) rfl rfl rfl
theorem zd_583_1 : decode prog_14_method_165_code 1 = .ok (.invokevirtual 1254, 3) := zsh_g zdk_583 (r := 0) (k := 1) rfl rfl rfl
theorem zd_583_4 : decode prog_14_method_165_code 4 = .ok (.istore_n 1, 1) := zsh_g zdk_583 (r := 1) (k := 0) rfl rfl rfl
theorem zd_583_5 : decode prog_14_method_165_code 5 = .ok (.iconst 0, 1) := zsh_g zdk_583 (r := 1) (k := 1) rfl rfl rfl
theorem zd_583_6 : decode prog_14_method_165_code 6 = .ok (.istore_n 2, 1) := zsh_g zdk_583 (r := 1) (k := 2) rfl rfl rfl
theorem zd_583_7 : decode prog_14_method_165_code 7 = .ok (.aload_n 0, 1) := zsh_g zdk_583 (r := 1) (k := 3) rfl rfl rfl
theorem zd_583_8 : decode prog_14_method_165_code 8 = .ok (.getfield 443, 3) := zsh_g zdk_583 (r := 2) (k := 0) rfl rfl rfl
theorem zd_583_11 : decode prog_14_method_165_code 11 = .ok (.astore_n 3, 1) := zsh_g zdk_583 (r := 2) (k := 1) rfl rfl rfl
theorem zd_583_12 : decode prog_14_method_165_code 12 = .ok (.aload_n 0, 1) := zsh_g zdk_583 (r := 3) (k := 0) rfl rfl rfl
theorem zd_583_13 : decode prog_14_method_165_code 13 = .ok (.invokevirtual 1225, 3) := zsh_g zdk_583 (r := 3) (k := 1) rfl rfl rfl
theorem zd_583_16 : decode prog_14_method_165_code 16 = .ok (.aload_n 0, 1) := zsh_g zdk_583 (r := 4) (k := 0) rfl rfl rfl
theorem zd_583_17 : decode prog_14_method_165_code 17 = .ok (.getfield 1228, 3) := zsh_g zdk_583 (r := 4) (k := 1) rfl rfl rfl
theorem zd_583_20 : decode prog_14_method_165_code 20 = .ok (.ifCond .eq 163, 3) := zsh_g zdk_583 (r := 5) (k := 0) rfl rfl rfl
theorem zd_583_23 : decode prog_14_method_165_code 23 = .ok (.aload_n 0, 1) := zsh_g zdk_583 (r := 5) (k := 1) rfl rfl rfl
theorem zd_583_24 : decode prog_14_method_165_code 24 = .ok (.getfield 1219, 3) := zsh_g zdk_583 (r := 6) (k := 0) rfl rfl rfl
theorem zd_583_27 : decode prog_14_method_165_code 27 = .ok (.aload_n 0, 1) := zsh_g zdk_583 (r := 6) (k := 1) rfl rfl rfl
theorem zd_583_28 : decode prog_14_method_165_code 28 = .ok (.getfield 1204, 3) := zsh_g zdk_583 (r := 7) (k := 0) rfl rfl rfl
theorem zd_583_31 : decode prog_14_method_165_code 31 = .ok (.if_icmp .ge 152, 3) := zsh_g zdk_583 (r := 7) (k := 1) rfl rfl rfl
theorem zd_583_34 : decode prog_14_method_165_code 34 = .ok (.iload_n 2, 1) := zsh_g zdk_583 (r := 8) (k := 0) rfl rfl rfl
theorem zd_583_35 : decode prog_14_method_165_code 35 = .ok (.iconst 5, 1) := zsh_g zdk_583 (r := 8) (k := 1) rfl rfl rfl
theorem zd_583_36 : decode prog_14_method_165_code 36 = .ok (.if_icmp .ge 147, 3) := zsh_g zdk_583 (r := 9) (k := 0) rfl rfl rfl
theorem zd_583_39 : decode prog_14_method_165_code 39 = .ok (.iload_n 2, 1) := zsh_g zdk_583 (r := 9) (k := 1) rfl rfl rfl
theorem zd_583_40 : decode prog_14_method_165_code 40 = .ok (.ifCond .le 9, 3) := zsh_g zdk_583 (r := 10) (k := 0) rfl rfl rfl
theorem zd_583_43 : decode prog_14_method_165_code 43 = .ok (.aload_n 0, 1) := zsh_g zdk_583 (r := 10) (k := 1) rfl rfl rfl
theorem zd_583_44 : decode prog_14_method_165_code 44 = .ok (.bipush 44, 2) := zsh_g zdk_583 (r := 11) (k := 0) rfl rfl rfl
theorem zd_583_46 : decode prog_14_method_165_code 46 = .ok (.invokevirtual 1269, 3) := zsh_g zdk_583 (r := 11) (k := 1) rfl rfl rfl
theorem zd_583_49 : decode prog_14_method_165_code 49 = .ok (.aload_n 0, 1) := zsh_g zdk_583 (r := 12) (k := 0) rfl rfl rfl
theorem zd_583_50 : decode prog_14_method_165_code 50 = .ok (.getfield 1219, 3) := zsh_g zdk_583 (r := 12) (k := 1) rfl rfl rfl
theorem zd_583_53 : decode prog_14_method_165_code 53 = .ok (.istore 4, 2) := zsh_g zdk_583 (r := 13) (k := 0) rfl rfl rfl
theorem zd_583_55 : decode prog_14_method_165_code 55 = .ok (.aload_n 0, 1) := zsh_g zdk_583 (r := 13) (k := 1) rfl rfl rfl
theorem zd_583_56 : decode prog_14_method_165_code 56 = .ok (.invokevirtual 1254, 3) := zsh_g zdk_583 (r := 14) (k := 0) rfl rfl rfl
theorem zd_583_59 : decode prog_14_method_165_code 59 = .ok (.istore 5, 2) := zsh_g zdk_583 (r := 14) (k := 1) rfl rfl rfl
theorem zd_583_61 : decode prog_14_method_165_code 61 = .ok (.iload 4, 2) := zsh_g zdk_583 (r := 15) (k := 0) rfl rfl rfl
theorem zd_583_63 : decode prog_14_method_165_code 63 = .ok (.istore 6, 2) := zsh_g zdk_583 (r := 15) (k := 1) rfl rfl rfl
theorem zd_583_65 : decode prog_14_method_165_code 65 = .ok (.iload 6, 2) := zsh_g zdk_583 (r := 16) (k := 0) rfl rfl rfl
theorem zd_583_67 : decode prog_14_method_165_code 67 = .ok (.aload_n 0, 1) := zsh_g zdk_583 (r := 16) (k := 1) rfl rfl rfl
theorem zd_583_68 : decode prog_14_method_165_code 68 = .ok (.getfield 1219, 3) := zsh_g zdk_583 (r := 17) (k := 0) rfl rfl rfl
theorem zd_583_71 : decode prog_14_method_165_code 71 = .ok (.if_icmp .ge 46, 3) := zsh_g zdk_583 (r := 17) (k := 1) rfl rfl rfl
theorem zd_583_74 : decode prog_14_method_165_code 74 = .ok (.iload 6, 2) := zsh_g zdk_583 (r := 18) (k := 0) rfl rfl rfl
theorem zd_583_76 : decode prog_14_method_165_code 76 = .ok (.aload_n 0, 1) := zsh_g zdk_583 (r := 19) (k := 0) rfl rfl rfl
theorem zd_583_77 : decode prog_14_method_165_code 77 = .ok (.getfield 1204, 3) := zsh_g zdk_583 (r := 19) (k := 1) rfl rfl rfl
theorem zd_583_80 : decode prog_14_method_165_code 80 = .ok (.if_icmp .ge 37, 3) := zsh_g zdk_583 (r := 20) (k := 0) rfl rfl rfl
theorem zd_583_83 : decode prog_14_method_165_code 83 = .ok (.aload_n 0, 1) := zsh_g zdk_583 (r := 20) (k := 1) rfl rfl rfl
theorem zd_583_84 : decode prog_14_method_165_code 84 = .ok (.aload_n 0, 1) := zsh_g zdk_583 (r := 21) (k := 0) rfl rfl rfl
theorem zd_583_85 : decode prog_14_method_165_code 85 = .ok (.getfield 1228, 3) := zsh_g zdk_583 (r := 21) (k := 1) rfl rfl rfl
theorem zd_583_88 : decode prog_14_method_165_code 88 = .ok (.ifCond .eq 19, 3) := zsh_g zdk_583 (r := 22) (k := 0) rfl rfl rfl
theorem zd_583_91 : decode prog_14_method_165_code 91 = .ok (.aload_n 0, 1) := zsh_g zdk_583 (r := 22) (k := 1) rfl rfl rfl
theorem zd_583_92 : decode prog_14_method_165_code 92 = .ok (.getfield 298, 3) := zsh_g zdk_583 (r := 23) (k := 0) rfl rfl rfl
theorem zd_583_95 : decode prog_14_method_165_code 95 = .ok (.iload 6, 2) := zsh_g zdk_583 (r := 23) (k := 1) rfl rfl rfl
theorem zd_583_97 : decode prog_14_method_165_code 97 = .ok (.iaload, 1) := zsh_g zdk_583 (r := 24) (k := 0) rfl rfl rfl
theorem zd_583_98 : decode prog_14_method_165_code 98 = .ok (.bipush 46, 2) := zsh_g zdk_583 (r := 24) (k := 1) rfl rfl rfl
theorem zd_583_100 : decode prog_14_method_165_code 100 = .ok (.if_icmp .eq 7, 3) := zsh_g zdk_583 (r := 25) (k := 0) rfl rfl rfl
theorem zd_583_103 : decode prog_14_method_165_code 103 = .ok (.iconst 1, 1) := zsh_g zdk_583 (r := 25) (k := 1) rfl rfl rfl
theorem zd_583_104 : decode prog_14_method_165_code 104 = .ok (.goto 4, 3) := zsh_g zdk_583 (r := 26) (k := 0) rfl rfl rfl
theorem zd_583_107 : decode prog_14_method_165_code 107 = .ok (.iconst 0, 1) := zsh_g zdk_583 (r := 26) (k := 1) rfl rfl rfl
theorem zd_583_108 : decode prog_14_method_165_code 108 = .ok (.putfield 1228, 3) := zsh_g zdk_583 (r := 27) (k := 0) rfl rfl rfl
theorem zd_583_111 : decode prog_14_method_165_code 111 = .ok (.iinc 6 1, 3) := zsh_g zdk_583 (r := 27) (k := 1) rfl rfl rfl
theorem zd_583_114 : decode prog_14_method_165_code 114 = .ok (.goto (-49), 3) := zsh_g zdk_583 (r := 28) (k := 0) rfl rfl rfl
theorem zd_583_117 : decode prog_14_method_165_code 117 = .ok (.iconst 0, 1) := zsh_g zdk_583 (r := 29) (k := 0) rfl rfl rfl
theorem zd_583_118 : decode prog_14_method_165_code 118 = .ok (.istore 6, 2) := zsh_g zdk_583 (r := 29) (k := 1) rfl rfl rfl
theorem zd_583_120 : decode prog_14_method_165_code 120 = .ok (.iload 6, 2) := zsh_g zdk_583 (r := 30) (k := 0) rfl rfl rfl
theorem zd_583_122 : decode prog_14_method_165_code 122 = .ok (.iload_n 2, 1) := zsh_g zdk_583 (r := 30) (k := 1) rfl rfl rfl
theorem zd_583_123 : decode prog_14_method_165_code 123 = .ok (.if_icmp .ge 40, 3) := zsh_g zdk_583 (r := 30) (k := 2) rfl rfl rfl
theorem zd_583_126 : decode prog_14_method_165_code 126 = .ok (.iload 6, 2) := zsh_g zdk_583 (r := 31) (k := 0) rfl rfl rfl
theorem zd_583_128 : decode prog_14_method_165_code 128 = .ok (.iconst 4, 1) := zsh_g zdk_583 (r := 32) (k := 0) rfl rfl rfl
theorem zd_583_129 : decode prog_14_method_165_code 129 = .ok (.if_icmp .ge 34, 3) := zsh_g zdk_583 (r := 32) (k := 1) rfl rfl rfl
theorem zd_583_132 : decode prog_14_method_165_code 132 = .ok (.aload_n 0, 1) := zsh_g zdk_583 (r := 33) (k := 0) rfl rfl rfl
theorem zd_583_133 : decode prog_14_method_165_code 133 = .ok (.aload_n 0, 1) := zsh_g zdk_583 (r := 33) (k := 1) rfl rfl rfl
theorem zd_583_134 : decode prog_14_method_165_code 134 = .ok (.getfield 1228, 3) := zsh_g zdk_583 (r := 33) (k := 2) rfl rfl rfl
theorem zd_583_137 : decode prog_14_method_165_code 137 = .ok (.ifCond .eq 16, 3) := zsh_g zdk_583 (r := 34) (k := 0) rfl rfl rfl
theorem zd_583_140 : decode prog_14_method_165_code 140 = .ok (.aload_n 3, 1) := zsh_g zdk_583 (r := 35) (k := 0) rfl rfl rfl
theorem zd_583_141 : decode prog_14_method_165_code 141 = .ok (.iload 6, 2) := zsh_g zdk_583 (r := 35) (k := 1) rfl rfl rfl
theorem zd_583_143 : decode prog_14_method_165_code 143 = .ok (.iaload, 1) := zsh_g zdk_583 (r := 35) (k := 2) rfl rfl rfl
theorem zd_583_144 : decode prog_14_method_165_code 144 = .ok (.iload 5, 2) := zsh_g zdk_583 (r := 36) (k := 0) rfl rfl rfl
theorem zd_583_146 : decode prog_14_method_165_code 146 = .ok (.if_icmp .eq 7, 3) := zsh_g zdk_583 (r := 36) (k := 1) rfl rfl rfl
theorem zd_583_149 : decode prog_14_method_165_code 149 = .ok (.iconst 1, 1) := zsh_g zdk_583 (r := 37) (k := 0) rfl rfl rfl
theorem zd_583_150 : decode prog_14_method_165_code 150 = .ok (.goto 4, 3) := zsh_g zdk_583 (r := 37) (k := 1) rfl rfl rfl
theorem zd_583_153 : decode prog_14_method_165_code 153 = .ok (.iconst 0, 1) := zsh_g zdk_583 (r := 38) (k := 0) rfl rfl rfl
theorem zd_583_154 : decode prog_14_method_165_code 154 = .ok (.putfield 1228, 3) := zsh_g zdk_583 (r := 38) (k := 1) rfl rfl rfl
theorem zd_583_157 : decode prog_14_method_165_code 157 = .ok (.iinc 6 1, 3) := zsh_g zdk_583 (r := 39) (k := 0) rfl rfl rfl
theorem zd_583_160 : decode prog_14_method_165_code 160 = .ok (.goto (-40), 3) := zsh_g zdk_583 (r := 40) (k := 0) rfl rfl rfl
theorem zd_583_163 : decode prog_14_method_165_code 163 = .ok (.iload_n 2, 1) := zsh_g zdk_583 (r := 40) (k := 1) rfl rfl rfl
theorem zd_583_164 : decode prog_14_method_165_code 164 = .ok (.iconst 4, 1) := zsh_g zdk_583 (r := 41) (k := 0) rfl rfl rfl
theorem zd_583_165 : decode prog_14_method_165_code 165 = .ok (.if_icmp .ge 8, 3) := zsh_g zdk_583 (r := 41) (k := 1) rfl rfl rfl
theorem zd_583_168 : decode prog_14_method_165_code 168 = .ok (.aload_n 3, 1) := zsh_g zdk_583 (r := 42) (k := 0) rfl rfl rfl
theorem zd_583_169 : decode prog_14_method_165_code 169 = .ok (.iload_n 2, 1) := zsh_g zdk_583 (r := 42) (k := 1) rfl rfl rfl
theorem zd_583_170 : decode prog_14_method_165_code 170 = .ok (.iload 5, 2) := zsh_g zdk_583 (r := 42) (k := 2) rfl rfl rfl
theorem zd_583_172 : decode prog_14_method_165_code 172 = .ok (.iastore, 1) := zsh_g zdk_583 (r := 43) (k := 0) rfl rfl rfl
theorem zd_583_173 : decode prog_14_method_165_code 173 = .ok (.iinc 2 1, 3) := zsh_g zdk_583 (r := 43) (k := 1) rfl rfl rfl
theorem zd_583_176 : decode prog_14_method_165_code 176 = .ok (.aload_n 0, 1) := zsh_g zdk_583 (r := 44) (k := 0) rfl rfl rfl
theorem zd_583_177 : decode prog_14_method_165_code 177 = .ok (.invokevirtual 1225, 3) := zsh_g zdk_583 (r := 44) (k := 1) rfl rfl rfl
theorem zd_583_180 : decode prog_14_method_165_code 180 = .ok (.goto (-164), 3) := zsh_g zdk_583 (r := 45) (k := 0) rfl rfl rfl
theorem zd_583_183 : decode prog_14_method_165_code 183 = .ok (.aload_n 0, 1) := zsh_g zdk_583 (r := 45) (k := 1) rfl rfl rfl
theorem zd_583_184 : decode prog_14_method_165_code 184 = .ok (.invokevirtual 1336, 3) := zsh_g zdk_583 (r := 46) (k := 0) rfl rfl rfl
theorem zd_583_187 : decode prog_14_method_165_code 187 = .ok (.aload_n 0, 1) := zsh_g zdk_583 (r := 46) (k := 1) rfl rfl rfl
theorem zd_583_188 : decode prog_14_method_165_code 188 = .ok (.getfield 1228, 3) := zsh_g zdk_583 (r := 47) (k := 0) rfl rfl rfl
theorem zd_583_191 : decode prog_14_method_165_code 191 = .ok (.ifCond .eq 8, 3) := zsh_g zdk_583 (r := 47) (k := 1) rfl rfl rfl
theorem zd_583_194 : decode prog_14_method_165_code 194 = .ok (.iload_n 2, 1) := zsh_g zdk_583 (r := 48) (k := 0) rfl rfl rfl
theorem zd_583_195 : decode prog_14_method_165_code 195 = .ok (.iconst 4, 1) := zsh_g zdk_583 (r := 48) (k := 1) rfl rfl rfl
theorem zd_583_196 : decode prog_14_method_165_code 196 = .ok (.if_icmp .le 9, 3) := zsh_g zdk_583 (r := 49) (k := 0) rfl rfl rfl
theorem zd_583_199 : decode prog_14_method_165_code 199 = .ok (.aload_n 0, 1) := zsh_g zdk_583 (r := 49) (k := 1) rfl rfl rfl
theorem zd_583_200 : decode prog_14_method_165_code 200 = .ok (.iconst 1, 1) := zsh_g zdk_583 (r := 50) (k := 0) rfl rfl rfl
theorem zd_583_201 : decode prog_14_method_165_code 201 = .ok (.invokevirtual 1216, 3) := zsh_g zdk_583 (r := 50) (k := 1) rfl rfl rfl
theorem zd_583_205 : decode prog_14_method_165_code 205 = .ok (.aload_n 0, 1) := zsh_g zdk_583 (r := 51) (k := 0) rfl rfl rfl
theorem zd_583_206 : decode prog_14_method_165_code 206 = .ok (.iload_n 1, 1) := zsh_g zdk_583 (r := 51) (k := 1) rfl rfl rfl
theorem zd_583_207 : decode prog_14_method_165_code 207 = .ok (.invokevirtual 1456, 3) := zsh_g zdk_583 (r := 51) (k := 2) rfl rfl rfl
theorem zd_583_210 : decode prog_14_method_165_code 210 = .ok (.ifCond .lt 9, 3) := zsh_g zdk_583 (r := 52) (k := 0) rfl rfl rfl
theorem zd_583_213 : decode prog_14_method_165_code 213 = .ok (.aload_n 0, 1) := zsh_g zdk_583 (r := 53) (k := 0) rfl rfl rfl
theorem zd_583_214 : decode prog_14_method_165_code 214 = .ok (.iconst 2, 1) := zsh_g zdk_583 (r := 53) (k := 1) rfl rfl rfl
theorem zd_583_215 : decode prog_14_method_165_code 215 = .ok (.invokevirtual 1216, 3) := zsh_g zdk_583 (r := 53) (k := 2) rfl rfl rfl
theorem zd_583_219 : decode prog_14_method_165_code 219 = .ok (.aload_n 0, 1) := zsh_g zdk_583 (r := 54) (k := 0) rfl rfl rfl
theorem zd_583_220 : decode prog_14_method_165_code 220 = .ok (.getfield 1447, 3) := zsh_g zdk_583 (r := 55) (k := 0) rfl rfl rfl
theorem zd_583_223 : decode prog_14_method_165_code 223 = .ok (.iconst 1, 1) := zsh_g zdk_583 (r := 55) (k := 1) rfl rfl rfl
theorem zd_583_224 : decode prog_14_method_165_code 224 = .ok (.if_icmp .le 9, 3) := zsh_g zdk_583 (r := 56) (k := 0) rfl rfl rfl
theorem zd_583_227 : decode prog_14_method_165_code 227 = .ok (.aload_n 0, 1) := zsh_g zdk_583 (r := 56) (k := 1) rfl rfl rfl
theorem zd_583_228 : decode prog_14_method_165_code 228 = .ok (.iconst 5, 1) := zsh_g zdk_583 (r := 57) (k := 0) rfl rfl rfl
theorem zd_583_229 : decode prog_14_method_165_code 229 = .ok (.invokevirtual 1216, 3) := zsh_g zdk_583 (r := 57) (k := 1) rfl rfl rfl
theorem zd_583_233 : decode prog_14_method_165_code 233 = .ok (.aload_n 0, 1) := zsh_g zdk_583 (r := 58) (k := 0) rfl rfl rfl
theorem zd_583_234 : decode prog_14_method_165_code 234 = .ok (.getfield 1450, 3) := zsh_g zdk_583 (r := 58) (k := 1) rfl rfl rfl
theorem zd_583_237 : decode prog_14_method_165_code 237 = .ok (.bipush 12, 2) := zsh_g zdk_583 (r := 59) (k := 0) rfl rfl rfl
theorem zd_583_239 : decode prog_14_method_165_code 239 = .ok (.if_icmp .ne 10, 3) := zsh_g zdk_583 (r := 59) (k := 1) rfl rfl rfl
theorem zd_583_242 : decode prog_14_method_165_code 242 = .ok (.aload_n 0, 1) := zsh_g zdk_583 (r := 60) (k := 0) rfl rfl rfl
theorem zd_583_243 : decode prog_14_method_165_code 243 = .ok (.bipush 6, 2) := zsh_g zdk_583 (r := 60) (k := 1) rfl rfl rfl
theorem zd_583_245 : decode prog_14_method_165_code 245 = .ok (.invokevirtual 1216, 3) := zsh_g zdk_583 (r := 61) (k := 0) rfl rfl rfl
theorem zd_583_249 : decode prog_14_method_165_code 249 = .ok (.aload_n 0, 1) := zsh_g zdk_583 (r := 62) (k := 0) rfl rfl rfl
theorem zd_583_250 : decode prog_14_method_165_code 250 = .ok (.getfield 307, 3) := zsh_g zdk_583 (r := 62) (k := 1) rfl rfl rfl
theorem zd_583_253 : decode prog_14_method_165_code 253 = .ok (.iconst 0, 1) := zsh_g zdk_583 (r := 63) (k := 0) rfl rfl rfl
theorem zd_583_254 : decode prog_14_method_165_code 254 = .ok (.iaload, 1) := zsh_g zdk_583 (r := 63) (k := 1) rfl rfl rfl
theorem zd_583_255 : decode prog_14_method_165_code 255 = .ok (.istore 4, 2) := zsh_g zdk_583 (r := 63) (k := 2) rfl rfl rfl
theorem zd_583_257 : decode prog_14_method_165_code 257 = .ok (.iload 4, 2) := zsh_g zdk_583 (r := 64) (k := 0) rfl rfl rfl
theorem zd_583_259 : decode prog_14_method_165_code 259 = .ok (.istore 5, 2) := zsh_g zdk_583 (r := 64) (k := 1) rfl rfl rfl
theorem zd_583_261 : decode prog_14_method_165_code 261 = .ok (.iconst 1, 1) := zsh_g zdk_583 (r := 65) (k := 0) rfl rfl rfl
theorem zd_583_262 : decode prog_14_method_165_code 262 = .ok (.istore 6, 2) := zsh_g zdk_583 (r := 65) (k := 1) rfl rfl rfl
theorem zd_583_264 : decode prog_14_method_165_code 264 = .ok (.iload 6, 2) := zsh_g zdk_583 (r := 66) (k := 0) rfl rfl rfl
theorem zd_583_266 : decode prog_14_method_165_code 266 = .ok (.ifCond .eq 67, 3) := zsh_g zdk_583 (r := 66) (k := 1) rfl rfl rfl
theorem zd_583_269 : decode prog_14_method_165_code 269 = .ok (.iload 5, 2) := zsh_g zdk_583 (r := 67) (k := 0) rfl rfl rfl
theorem zd_583_271 : decode prog_14_method_165_code 271 = .ok (.aload_n 0, 1) := zsh_g zdk_583 (r := 67) (k := 1) rfl rfl rfl
theorem zd_583_272 : decode prog_14_method_165_code 272 = .ok (.getfield 1189, 3) := zsh_g zdk_583 (r := 68) (k := 0) rfl rfl rfl
theorem zd_583_275 : decode prog_14_method_165_code 275 = .ok (.if_icmp .ge 58, 3) := zsh_g zdk_583 (r := 68) (k := 1) rfl rfl rfl
theorem zd_583_278 : decode prog_14_method_165_code 278 = .ok (.aload_n 0, 1) := zsh_g zdk_583 (r := 69) (k := 0) rfl rfl rfl
theorem zd_583_279 : decode prog_14_method_165_code 279 = .ok (.getfield 1183, 3) := zsh_g zdk_583 (r := 69) (k := 1) rfl rfl rfl
theorem zd_583_282 : decode prog_14_method_165_code 282 = .ok (.ifCond .ne 51, 3) := zsh_g zdk_583 (r := 70) (k := 0) rfl rfl rfl
theorem zd_583_285 : decode prog_14_method_165_code 285 = .ok (.aload_n 0, 1) := zsh_g zdk_583 (r := 71) (k := 0) rfl rfl rfl
theorem zd_583_286 : decode prog_14_method_165_code 286 = .ok (.iload 5, 2) := zsh_g zdk_583 (r := 71) (k := 1) rfl rfl rfl
theorem zd_583_288 : decode prog_14_method_165_code 288 = .ok (.invokevirtual 1459, 3) := zsh_g zdk_583 (r := 72) (k := 0) rfl rfl rfl
theorem zd_583_291 : decode prog_14_method_165_code 291 = .ok (.aload_n 0, 1) := zsh_g zdk_583 (r := 72) (k := 1) rfl rfl rfl
theorem zd_583_292 : decode prog_14_method_165_code 292 = .ok (.iload 5, 2) := zsh_g zdk_583 (r := 73) (k := 0) rfl rfl rfl
theorem zd_583_294 : decode prog_14_method_165_code 294 = .ok (.invokevirtual 1462, 3) := zsh_g zdk_583 (r := 73) (k := 1) rfl rfl rfl
theorem zd_583_297 : decode prog_14_method_165_code 297 = .ok (.istore 7, 2) := zsh_g zdk_583 (r := 74) (k := 0) rfl rfl rfl
theorem zd_583_299 : decode prog_14_method_165_code 299 = .ok (.iload 7, 2) := zsh_g zdk_583 (r := 74) (k := 1) rfl rfl rfl
theorem zd_583_301 : decode prog_14_method_165_code 301 = .ok (.bipush 81, 2) := zsh_g zdk_583 (r := 75) (k := 0) rfl rfl rfl
theorem zd_583_303 : decode prog_14_method_165_code 303 = .ok (.if_icmp .ne 10, 3) := zsh_g zdk_583 (r := 75) (k := 1) rfl rfl rfl
theorem zd_583_306 : decode prog_14_method_165_code 306 = .ok (.aload_n 0, 1) := zsh_g zdk_583 (r := 76) (k := 0) rfl rfl rfl
theorem zd_583_307 : decode prog_14_method_165_code 307 = .ok (.iconst 5, 1) := zsh_g zdk_583 (r := 76) (k := 1) rfl rfl rfl
theorem zd_583_308 : decode prog_14_method_165_code 308 = .ok (.iload 5, 2) := zsh_g zdk_583 (r := 77) (k := 0) rfl rfl rfl
theorem zd_583_310 : decode prog_14_method_165_code 310 = .ok (.invokevirtual 1180, 3) := zsh_g zdk_583 (r := 77) (k := 1) rfl rfl rfl
theorem zd_583_313 : decode prog_14_method_165_code 313 = .ok (.iload 7, 2) := zsh_g zdk_583 (r := 78) (k := 0) rfl rfl rfl
theorem zd_583_315 : decode prog_14_method_165_code 315 = .ok (.bipush 82, 2) := zsh_g zdk_583 (r := 78) (k := 1) rfl rfl rfl
theorem zd_583_317 : decode prog_14_method_165_code 317 = .ok (.if_icmp .eq 7, 3) := zsh_g zdk_583 (r := 79) (k := 0) rfl rfl rfl
theorem zd_583_320 : decode prog_14_method_165_code 320 = .ok (.iconst 1, 1) := zsh_g zdk_583 (r := 80) (k := 0) rfl rfl rfl
theorem zd_583_321 : decode prog_14_method_165_code 321 = .ok (.goto 4, 3) := zsh_g zdk_583 (r := 80) (k := 1) rfl rfl rfl
theorem zd_583_324 : decode prog_14_method_165_code 324 = .ok (.iconst 0, 1) := zsh_g zdk_583 (r := 81) (k := 0) rfl rfl rfl
theorem zd_583_325 : decode prog_14_method_165_code 325 = .ok (.istore 6, 2) := zsh_g zdk_583 (r := 81) (k := 1) rfl rfl rfl
theorem zd_583_327 : decode prog_14_method_165_code 327 = .ok (.iinc 5 1, 3) := zsh_g zdk_583 (r := 81) (k := 2) rfl rfl rfl
theorem zd_583_330 : decode prog_14_method_165_code 330 = .ok (.goto (-66), 3) := zsh_g zdk_583 (r := 82) (k := 0) rfl rfl rfl
theorem zd_583_333 : decode prog_14_method_165_code 333 = .ok (.iload 6, 2) := zsh_g zdk_583 (r := 83) (k := 0) rfl rfl rfl
theorem zd_583_335 : decode prog_14_method_165_code 335 = .ok (.ifCond .eq 9, 3) := zsh_g zdk_583 (r := 83) (k := 1) rfl rfl rfl
theorem zd_583_338 : decode prog_14_method_165_code 338 = .ok (.aload_n 0, 1) := zsh_g zdk_583 (r := 84) (k := 0) rfl rfl rfl
theorem zd_583_339 : decode prog_14_method_165_code 339 = .ok (.iconst 5, 1) := zsh_g zdk_583 (r := 84) (k := 1) rfl rfl rfl
theorem zd_583_340 : decode prog_14_method_165_code 340 = .ok (.invokevirtual 1216, 3) := zsh_g zdk_583 (r := 85) (k := 0) rfl rfl rfl
theorem zd_583_344 : decode prog_14_method_165_code 344 = .ok (.aload_n 0, 1) := zsh_g zdk_583 (r := 86) (k := 0) rfl rfl rfl
theorem zd_583_345 : decode prog_14_method_165_code 345 = .ok (.getfield 307, 3) := zsh_g zdk_583 (r := 86) (k := 1) rfl rfl rfl
theorem zd_583_348 : decode prog_14_method_165_code 348 = .ok (.iconst 0, 1) := zsh_g zdk_583 (r := 87) (k := 0) rfl rfl rfl
theorem zd_583_349 : decode prog_14_method_165_code 349 = .ok (.iload 5, 2) := zsh_g zdk_583 (r := 87) (k := 1) rfl rfl rfl
theorem zd_583_351 : decode prog_14_method_165_code 351 = .ok (.iastore, 1) := zsh_g zdk_583 (r := 87) (k := 2) rfl rfl rfl
theorem zd_583_352 : decode prog_14_method_165_code 352 = .ok (.aload_n 0, 1) := zsh_g zdk_583 (r := 88) (k := 0) rfl rfl rfl
theorem zd_583_353 : decode prog_14_method_165_code 353 = .ok (.getfield 335, 3) := zsh_g zdk_583 (r := 88) (k := 1) rfl rfl rfl
theorem zd_583_356 : decode prog_14_method_165_code 356 = .ok (.aload_n 0, 1) := zsh_g zdk_583 (r := 89) (k := 0) rfl rfl rfl
theorem zd_583_357 : decode prog_14_method_165_code 357 = .ok (.getfield 1450, 3) := zsh_g zdk_583 (r := 89) (k := 1) rfl rfl rfl
theorem zd_583_360 : decode prog_14_method_165_code 360 = .ok (.iload_n 1, 1) := zsh_g zdk_583 (r := 90) (k := 0) rfl rfl rfl
theorem zd_583_361 : decode prog_14_method_165_code 361 = .ok (.iastore, 1) := zsh_g zdk_583 (r := 90) (k := 1) rfl rfl rfl
theorem zd_583_362 : decode prog_14_method_165_code 362 = .ok (.aload_n 0, 1) := zsh_g zdk_583 (r := 90) (k := 2) rfl rfl rfl
theorem zd_583_363 : decode prog_14_method_165_code 363 = .ok (.getfield 338, 3) := zsh_g zdk_583 (r := 90) (k := 3) rfl rfl rfl
theorem zd_583_366 : decode prog_14_method_165_code 366 = .ok (.aload_n 0, 1) := zsh_g zdk_583 (r := 91) (k := 0) rfl rfl rfl
theorem zd_583_367 : decode prog_14_method_165_code 367 = .ok (.getfield 1450, 3) := zsh_g zdk_583 (r := 91) (k := 1) rfl rfl rfl
theorem zd_583_370 : decode prog_14_method_165_code 370 = .ok (.iload 4, 2) := zsh_g zdk_583 (r := 92) (k := 0) rfl rfl rfl
theorem zd_583_372 : decode prog_14_method_165_code 372 = .ok (.iastore, 1) := zsh_g zdk_583 (r := 93) (k := 0) rfl rfl rfl
theorem zd_583_373 : decode prog_14_method_165_code 373 = .ok (.aload_n 0, 1) := zsh_g zdk_583 (r := 93) (k := 1) rfl rfl rfl
theorem zd_583_374 : decode prog_14_method_165_code 374 = .ok (.getfield 341, 3) := zsh_g zdk_583 (r := 93) (k := 2) rfl rfl rfl
theorem zd_583_377 : decode prog_14_method_165_code 377 = .ok (.aload_n 0, 1) := zsh_g zdk_583 (r := 94) (k := 0) rfl rfl rfl
theorem zd_583_378 : decode prog_14_method_165_code 378 = .ok (.getfield 1450, 3) := zsh_g zdk_583 (r := 94) (k := 1) rfl rfl rfl
theorem zd_583_381 : decode prog_14_method_165_code 381 = .ok (.iload 5, 2) := zsh_g zdk_583 (r := 95) (k := 0) rfl rfl rfl
theorem zd_583_383 : decode prog_14_method_165_code 383 = .ok (.iconst 1, 1) := zsh_g zdk_583 (r := 95) (k := 1) rfl rfl rfl
theorem zd_583_384 : decode prog_14_method_165_code 384 = .ok (.isub, 1) := zsh_g zdk_583 (r := 96) (k := 0) rfl rfl rfl
theorem zd_583_385 : decode prog_14_method_165_code 385 = .ok (.iastore, 1) := zsh_g zdk_583 (r := 96) (k := 1) rfl rfl rfl
theorem zd_583_386 : decode prog_14_method_165_code 386 = .ok (.aload_n 0, 1) := zsh_g zdk_583 (r := 96) (k := 2) rfl rfl rfl
theorem zd_583_387 : decode prog_14_method_165_code 387 = .ok (.getfield 344, 3) := zsh_g zdk_583 (r := 96) (k := 3) rfl rfl rfl
theorem zd_583_390 : decode prog_14_method_165_code 390 = .ok (.aload_n 0, 1) := zsh_g zdk_583 (r := 97) (k := 0) rfl rfl rfl
theorem zd_583_391 : decode prog_14_method_165_code 391 = .ok (.getfield 1450, 3) := zsh_g zdk_583 (r := 97) (k := 1) rfl rfl rfl
theorem zd_583_394 : decode prog_14_method_165_code 394 = .ok (.iload_n 2, 1) := zsh_g zdk_583 (r := 98) (k := 0) rfl rfl rfl
theorem zd_583_395 : decode prog_14_method_165_code 395 = .ok (.iastore, 1) := zsh_g zdk_583 (r := 98) (k := 1) rfl rfl rfl
theorem zd_583_396 : decode prog_14_method_165_code 396 = .ok (.iconst 0, 1) := zsh_g zdk_583 (r := 99) (k := 0) rfl rfl rfl
theorem zd_583_397 : decode prog_14_method_165_code 397 = .ok (.istore 7, 2) := zsh_g zdk_583 (r := 99) (k := 1) rfl rfl rfl
theorem zd_583_399 : decode prog_14_method_165_code 399 = .ok (.iload 7, 2) := zsh_g zdk_583 (r := 99) (k := 2) rfl rfl rfl
theorem zd_583_401 : decode prog_14_method_165_code 401 = .ok (.iconst 4, 1) := zsh_g zdk_583 (r := 100) (k := 0) rfl rfl rfl
theorem zd_583_402 : decode prog_14_method_165_code 402 = .ok (.if_icmp .ge 37, 3) := zsh_g zdk_583 (r := 100) (k := 1) rfl rfl rfl
theorem zd_583_405 : decode prog_14_method_165_code 405 = .ok (.aload_n 0, 1) := zsh_g zdk_583 (r := 101) (k := 0) rfl rfl rfl
theorem zd_583_406 : decode prog_14_method_165_code 406 = .ok (.getfield 347, 3) := zsh_g zdk_583 (r := 101) (k := 1) rfl rfl rfl
theorem zd_583_409 : decode prog_14_method_165_code 409 = .ok (.iconst 4, 1) := zsh_g zdk_583 (r := 102) (k := 0) rfl rfl rfl
theorem zd_583_410 : decode prog_14_method_165_code 410 = .ok (.aload_n 0, 1) := zsh_g zdk_583 (r := 102) (k := 1) rfl rfl rfl
theorem zd_583_411 : decode prog_14_method_165_code 411 = .ok (.getfield 1450, 3) := zsh_g zdk_583 (r := 102) (k := 2) rfl rfl rfl
theorem zd_583_414 : decode prog_14_method_165_code 414 = .ok (.imul, 1) := zsh_g zdk_583 (r := 103) (k := 0) rfl rfl rfl
theorem zd_583_415 : decode prog_14_method_165_code 415 = .ok (.iload 7, 2) := zsh_g zdk_583 (r := 103) (k := 1) rfl rfl rfl
theorem zd_583_417 : decode prog_14_method_165_code 417 = .ok (.iadd, 1) := zsh_g zdk_583 (r := 104) (k := 0) rfl rfl rfl
theorem zd_583_418 : decode prog_14_method_165_code 418 = .ok (.iload 7, 2) := zsh_g zdk_583 (r := 104) (k := 1) rfl rfl rfl
theorem zd_583_420 : decode prog_14_method_165_code 420 = .ok (.iload_n 2, 1) := zsh_g zdk_583 (r := 105) (k := 0) rfl rfl rfl
theorem zd_583_421 : decode prog_14_method_165_code 421 = .ok (.if_icmp .ge 10, 3) := zsh_g zdk_583 (r := 105) (k := 1) rfl rfl rfl
theorem zd_583_424 : decode prog_14_method_165_code 424 = .ok (.aload_n 3, 1) := zsh_g zdk_583 (r := 106) (k := 0) rfl rfl rfl
theorem zd_583_425 : decode prog_14_method_165_code 425 = .ok (.iload 7, 2) := zsh_g zdk_583 (r := 106) (k := 1) rfl rfl rfl
theorem zd_583_427 : decode prog_14_method_165_code 427 = .ok (.iaload, 1) := zsh_g zdk_583 (r := 106) (k := 2) rfl rfl rfl
theorem zd_583_428 : decode prog_14_method_165_code 428 = .ok (.goto 4, 3) := zsh_g zdk_583 (r := 107) (k := 0) rfl rfl rfl
theorem zd_583_431 : decode prog_14_method_165_code 431 = .ok (.iconst (-1), 1) := zsh_g zdk_583 (r := 107) (k := 1) rfl rfl rfl
theorem zd_583_432 : decode prog_14_method_165_code 432 = .ok (.iastore, 1) := zsh_g zdk_583 (r := 108) (k := 0) rfl rfl rfl
theorem zd_583_433 : decode prog_14_method_165_code 433 = .ok (.iinc 7 1, 3) := zsh_g zdk_583 (r := 108) (k := 1) rfl rfl rfl
theorem zd_583_436 : decode prog_14_method_165_code 436 = .ok (.goto (-37), 3) := zsh_g zdk_583 (r := 109) (k := 0) rfl rfl rfl
theorem zd_583_439 : decode prog_14_method_165_code 439 = .ok (.aload_n 0, 1) := zsh_g zdk_583 (r := 109) (k := 1) rfl rfl rfl
theorem zd_583_440 : decode prog_14_method_165_code 440 = .ok (.dup, 1) := zsh_g zdk_583 (r := 110) (k := 0) rfl rfl rfl
theorem zd_583_441 : decode prog_14_method_165_code 441 = .ok (.getfield 1450, 3) := zsh_g zdk_583 (r := 110) (k := 1) rfl rfl rfl
theorem zd_583_444 : decode prog_14_method_165_code 444 = .ok (.iconst 1, 1) := zsh_g zdk_583 (r := 111) (k := 0) rfl rfl rfl
theorem zd_583_445 : decode prog_14_method_165_code 445 = .ok (.iadd, 1) := zsh_g zdk_583 (r := 111) (k := 1) rfl rfl rfl
theorem zd_583_446 : decode prog_14_method_165_code 446 = .ok (.putfield 1450, 3) := zsh_g zdk_583 (r := 111) (k := 2) rfl rfl rfl
def zdl_584 : List (List (Nat × Instr × Nat)) := [[(0, (.aload_n 0), 1), (1, (.iconst 1), 1), (2, (.invokevirtual 1315), 3)], [(1, (.aload_n 0), 1), (2, (.invokevirtual 1336), 3)], [(1, (.aload_n 0), 1), (2, (.getfield 1228), 3)], [(1, (.ifCond .ne 9), 3)], [(0, (.aload_n 0), 1), (1, (.iconst 1), 1), (2, (.invokevirtual 1216), 3)], [(2, (.aload_n 0), 1), (3, (.getfield 431), 3)], [(2, (.iconst 0), 1), (3, .iaload, 1)], [(0, (.istore_n 1), 1), (1, (.iload_n 1), 1), (2, (.iconst 0), 1), (3, (.bipush 100), 2)], [(1, (.invokestatic 504), 3)], [(0, (.ifCond .ne 9), 3), (3, (.aload_n 0), 1)], [(0, (.iconst 3), 1), (1, (.invokevirtual 1216), 3)], [(1, (.aload_n 0), 1), (2, (.getfield 1447), 3)], [(1, (.iconst 1), 1), (2, .isub, 1), (3, (.istore_n 2), 1)], [(0, (.aload_n 0), 1), (1, (.getfield 307), 3)], [(0, (.iload_n 2), 1), (1, .iaload, 1), (2, (.istore_n 3), 1), (3, (.iload_n 3), 1)], [(0, (.istore 4), 2), (2, (.iconst 1), 1), (3, (.istore 5), 2)], [(1, (.iload 5), 2), (3, (.ifCond .le 73), 3)], [(2, (.iload 4), 2)], [(0, (.aload_n 0), 1), (1, (.getfield 304), 3)], [(0, (.iload_n 2), 1), (1, .iaload, 1), (2, (.if_icmp .ge 62), 3)], [(1, (.aload_n 0), 1), (2, (.getfield 1183), 3)], [(1, (.ifCond .ne 55), 3)], [(0, (.aload_n 0), 1), (1, (.iload 4), 2), (3, (.invokevirtual 1459), 3)], [(2, (.aload_n 0), 1), (3, (.iload 4), 2)], [(1, (.invokevirtual 1462), 3)], [(0, (.istore 6), 2), (2, (.iload 6), 2)], [(0, (.bipush 83), 2), (2, (.if_icmp .ne 10), 3)], [(1, (.iload 5), 2), (3, (.iconst 1), 1)], [(0, .iadd, 1), (1, (.goto 19), 3)], [(0, (.iload 6), 2), (2, (.bipush 84), 2)], [(0, (.if_icmp .ne 10), 3), (3, (.iload 5), 2)], [(1, (.iconst 1), 1), (2, .isub, 1), (3, (.goto 5), 3)], [(2, (.iload 5), 2)], [(0, (.istore 5), 2), (2, (.iinc 4 1), 3)], [(1, (.goto (-72)), 3)], [(0, (.iload 5), 2), (2, (.ifCond .le 9), 3)], [(1, (.aload_n 0), 1), (2, (.iconst 5), 1), (3, (.invokevirtual 1216), 3)], [(3, (.aload_n 0), 1)], [(0, (.getfield 307), 3), (3, (.iload_n 2), 1)], [(0, (.iload 4), 2), (2, .iastore, 1), (3, (.iload_n 1), 1)], [(0, (.ifCond .le 19), 3), (3, (.aload_n 0), 1)], [(0, (.getfield 1447), 3), (3, (.bipush 11), 2)], [(1, (.if_icmp .ne 10), 3)], [(0, (.aload_n 0), 1), (1, (.bipush 6), 2), (3, (.invokevirtual 1216), 3)], [(3, (.iload_n 1), 1)], [(0, (.ifCond .le 33), 3), (3, (.aload_n 0), 1)], [(0, (.getfield 446), 3), (3, (.aload_n 0), 1)], [(0, (.getfield 1447), 3), (3, (.aload_n 0), 1)], [(0, (.getfield 1468), 3), (3, .iastore, 1)], [(0, (.aload_n 0), 1), (1, (.iload_n 3), 1), (2, (.iload 4), 2)], [(0, (.iconst 1), 1), (1, .isub, 1), (2, (.iload_n 1), 1), (3, (.iconst (-1)), 1)], [(0, (.aload_n 0), 1), (1, (.getfield 319), 3)], [(0, (.iload_n 2), 1), (1, .iaload, 1), (2, (.invokevirtual 1471), 3)]]
theorem zdk_584 : zsh_all 8 zdl_584 prog_14_method_167_code.data.toList = true := by decide +kernel
theorem zd_584_0 : decode prog_14_method_167_code 0 = .ok (.aload_n 0, 1) := zsh_g zdk_584 (r := 0) (k := 0) rfl rfl rfl
theorem zd_584_1 : decode prog_14_method_167_code 1 = .ok (.iconst 1, 1) := zsh_g zdk_584 (r := 0) (k := 1) rfl rfl rfl
theorem zd_584_2 : decode prog_14_method_167_code 2 = .ok (.invokevirtual 1315, 3) := zsh_g zdk_584 (r := 0) (k := 2) rfl rfl rfl
theorem zd_584_5 : decode prog_14_method_167_code 5 = .ok (.aload_n 0, 1) := zsh_g zdk_584 (r := 1) (k := 0) rfl rfl rfl
theorem zd_584_6 : decode prog_14_method_167_code 6 = .ok (.invokevirtual 1336, 3) := zsh_g zdk_584 (r := 1) (k := 1) rfl rfl rfl
theorem zd_584_9 : decode prog_14_method_167_code 9 = .ok (.aload_n 0, 1) := zsh_g zdk_584 (r := 2) (k := 0) rfl rfl rfl
theorem zd_584_10 : decode prog_14_method_167_code 10 = .ok (.getfield 1228, 3) := zsh_g zdk_584 (r := 2) (k := 1) rfl rfl rfl
theorem zd_584_13 : decode prog_14_method_167_code 13 = .ok (.ifCond .ne 9, 3) := zsh_g zdk_584 (r := 3) (k := 0) rfl rfl rfl
theorem zd_584_16 : decode prog_14_method_167_code 16 = .ok (.aload_n 0, 1) := zsh_g zdk_584 (r := 4) (k := 0) rfl rfl rfl
theorem zd_584_17 : decode prog_14_method_167_code 17 = .ok (.iconst 1, 1) := zsh_g zdk_584 (r := 4) (k := 1) rfl rfl rfl
theorem zd_584_18 : decode prog_14_method_167_code 18 = .ok (.invokevirtual 1216, 3) := zsh_g zdk_584 (r := 4) (k := 2) rfl rfl rfl
theorem zd_584_22 : decode prog_14_method_167_code 22 = .ok (.aload_n 0, 1) := zsh_g zdk_584 (r := 5) (k := 0) rfl rfl rfl
theorem zd_584_23 : decode prog_14_method_167_code 23 = .ok (.getfield 431, 3) := zsh_g zdk_584 (r := 5) (k := 1) rfl rfl rfl
theorem zd_584_26 : decode prog_14_method_167_code 26 = .ok (.iconst 0, 1) := zsh_g zdk_584 (r := 6) (k := 0) rfl rfl rfl
theorem zd_584_27 : decode prog_14_method_167_code 27 = .ok (.iaload, 1) := zsh_g zdk_584 (r := 6) (k := 1) rfl rfl rfl
theorem zd_584_28 : decode prog_14_method_167_code 28 = .ok (.istore_n 1, 1) := zsh_g zdk_584 (r := 7) (k := 0) rfl rfl rfl
theorem zd_584_29 : decode prog_14_method_167_code 29 = .ok (.iload_n 1, 1) := zsh_g zdk_584 (r := 7) (k := 1) rfl rfl rfl
theorem zd_584_30 : decode prog_14_method_167_code 30 = .ok (.iconst 0, 1) := zsh_g zdk_584 (r := 7) (k := 2) rfl rfl rfl
theorem zd_584_31 : decode prog_14_method_167_code 31 = .ok (.bipush 100, 2) := zsh_g zdk_584 (r := 7) (k := 3) rfl rfl rfl
theorem zd_584_33 : decode prog_14_method_167_code 33 = .ok (.invokestatic 504, 3) := zsh_g zdk_584 (r := 8) (k := 0) rfl rfl rfl
theorem zd_584_36 : decode prog_14_method_167_code 36 = .ok (.ifCond .ne 9, 3) := zsh_g zdk_584 (r := 9) (k := 0) rfl rfl rfl
theorem zd_584_39 : decode prog_14_method_167_code 39 = .ok (.aload_n 0, 1) := zsh_g zdk_584 (r := 9) (k := 1) rfl rfl rfl
theorem zd_584_40 : decode prog_14_method_167_code 40 = .ok (.iconst 3, 1) := zsh_g zdk_584 (r := 10) (k := 0) rfl rfl rfl
theorem zd_584_41 : decode prog_14_method_167_code 41 = .ok (.invokevirtual 1216, 3) := zsh_g zdk_584 (r := 10) (k := 1) rfl rfl rfl
theorem zd_584_45 : decode prog_14_method_167_code 45 = .ok (.aload_n 0, 1) := zsh_g zdk_584 (r := 11) (k := 0) rfl rfl rfl
theorem zd_584_46 : decode prog_14_method_167_code 46 = .ok (.getfield 1447, 3) := zsh_g zdk_584 (r := 11) (k := 1) rfl rfl rfl
theorem zd_584_49 : decode prog_14_method_167_code 49 = .ok (.iconst 1, 1) := zsh_g zdk_584 (r := 12) (k := 0) rfl rfl rfl
theorem zd_584_50 : decode prog_14_method_167_code 50 = .ok (.isub, 1) := zsh_g zdk_584 (r := 12) (k := 1) rfl rfl rfl
theorem zd_584_51 : decode prog_14_method_167_code 51 = .ok (.istore_n 2, 1) := zsh_g zdk_584 (r := 12) (k := 2) rfl rfl rfl
theorem zd_584_52 : decode prog_14_method_167_code 52 = .ok (.aload_n 0, 1) := zsh_g zdk_584 (r := 13) (k := 0) rfl rfl rfl
theorem zd_584_53 : decode prog_14_method_167_code 53 = .ok (.getfield 307, 3) := zsh_g zdk_584 (r := 13) (k := 1) rfl rfl rfl
theorem zd_584_56 : decode prog_14_method_167_code 56 = .ok (.iload_n 2, 1) := zsh_g zdk_584 (r := 14) (k := 0) rfl rfl rfl
theorem zd_584_57 : decode prog_14_method_167_code 57 = .ok (.iaload, 1) := zsh_g zdk_584 (r := 14) (k := 1) rfl rfl rfl
theorem zd_584_58 : decode prog_14_method_167_code 58 = .ok (.istore_n 3, 1) := zsh_g zdk_584 (r := 14) (k := 2) rfl rfl rfl
theorem zd_584_59 : decode prog_14_method_167_code 59 = .ok (.iload_n 3, 1) := zsh_g zdk_584 (r := 14) (k := 3) rfl rfl rfl
theorem zd_584_60 : decode prog_14_method_167_code 60 = .ok (.istore 4, 2) := zsh_g zdk_584 (r := 15) (k := 0) rfl rfl rfl
theorem zd_584_62 : decode prog_14_method_167_code 62 = .ok (.iconst 1, 1) := zsh_g zdk_584 (r := 15) (k := 1) rfl rfl rfl
theorem zd_584_63 : decode prog_14_method_167_code 63 = .ok (.istore 5, 2) := zsh_g zdk_584 (r := 15) (k := 2) rfl rfl rfl
theorem zd_584_65 : decode prog_14_method_167_code 65 = .ok (.iload 5, 2) := zsh_g zdk_584 (r := 16) (k := 0) rfl rfl rfl
theorem zd_584_67 : decode prog_14_method_167_code 67 = .ok (.ifCond .le 73, 3) := zsh_g zdk_584 (r := 16) (k := 1) rfl rfl rfl
theorem zd_584_70 : decode prog_14_method_167_code 70 = .ok (.iload 4, 2) := zsh_g zdk_584 (r := 17) (k := 0) rfl rfl rfl
theorem zd_584_72 : decode prog_14_method_167_code 72 = .ok (.aload_n 0, 1) := zsh_g zdk_584 (r := 18) (k := 0) rfl rfl rfl
theorem zd_584_73 : decode prog_14_method_167_code 73 = .ok (.getfield 304, 3) := zsh_g zdk_584 (r := 18) (k := 1) rfl rfl rfl
theorem zd_584_76 : decode prog_14_method_167_code 76 = .ok (.iload_n 2, 1) := zsh_g zdk_584 (r := 19) (k := 0) rfl rfl rfl
theorem zd_584_77 : decode prog_14_method_167_code 77 = .ok (.iaload, 1) := zsh_g zdk_584 (r := 19) (k := 1) rfl rfl rfl
theorem zd_584_78 : decode prog_14_method_167_code 78 = .ok (.if_icmp .ge 62, 3) := zsh_g zdk_584 (r := 19) (k := 2) rfl rfl rfl
theorem zd_584_81 : decode prog_14_method_167_code 81 = .ok (.aload_n 0, 1) := zsh_g zdk_584 (r := 20) (k := 0) rfl rfl rfl
theorem zd_584_82 : decode prog_14_method_167_code 82 = .ok (.getfield 1183, 3) := zsh_g zdk_584 (r := 20) (k := 1) rfl rfl rfl
theorem zd_584_85 : decode prog_14_method_167_code 85 = .ok (.ifCond .ne 55, 3) := zsh_g zdk_584 (r := 21) (k := 0) rfl rfl rfl
theorem zd_584_88 : decode prog_14_method_167_code 88 = .ok (.aload_n 0, 1) := zsh_g zdk_584 (r := 22) (k := 0) rfl rfl rfl
theorem zd_584_89 : decode prog_14_method_167_code 89 = .ok (.iload 4, 2) := zsh_g zdk_584 (r := 22) (k := 1) rfl rfl rfl
theorem zd_584_91 : decode prog_14_method_167_code 91 = .ok (.invokevirtual 1459, 3) := zsh_g zdk_584 (r := 22) (k := 2) rfl rfl rfl
theorem zd_584_94 : decode prog_14_method_167_code 94 = .ok (.aload_n 0, 1) := zsh_g zdk_584 (r := 23) (k := 0) rfl rfl rfl
theorem zd_584_95 : decode prog_14_method_167_code 95 = .ok (.iload 4, 2) := zsh_g zdk_584 (r := 23) (k := 1) rfl rfl rfl
theorem zd_584_97 : decode prog_14_method_167_code 97 = .ok (.invokevirtual 1462, 3) := zsh_g zdk_584 (r := 24) (k := 0) rfl rfl rfl
theorem zd_584_100 : decode prog_14_method_167_code 100 = .ok (.istore 6, 2) := zsh_g zdk_584 (r := 25) (k := 0) rfl rfl rfl
theorem zd_584_102 : decode prog_14_method_167_code 102 = .ok (.iload 6, 2) := zsh_g zdk_584 (r := 25) (k := 1) rfl rfl rfl
theorem zd_584_104 : decode prog_14_method_167_code 104 = .ok (.bipush 83, 2) := zsh_g zdk_584 (r := 26) (k := 0) rfl rfl rfl
theorem zd_584_106 : decode prog_14_method_167_code 106 = .ok (.if_icmp .ne 10, 3) := zsh_g zdk_584 (r := 26) (k := 1) rfl rfl rfl
theorem zd_584_109 : decode prog_14_method_167_code 109 = .ok (.iload 5, 2) := zsh_g zdk_584 (r := 27) (k := 0) rfl rfl rfl
theorem zd_584_111 : decode prog_14_method_167_code 111 = .ok (.iconst 1, 1) := zsh_g zdk_584 (r := 27) (k := 1) rfl rfl rfl
theorem zd_584_112 : decode prog_14_method_167_code 112 = .ok (.iadd, 1) := zsh_g zdk_584 (r := 28) (k := 0) rfl rfl rfl
theorem zd_584_113 : decode prog_14_method_167_code 113 = .ok (.goto 19, 3) := zsh_g zdk_584 (r := 28) (k := 1) rfl rfl rfl
theorem zd_584_116 : decode prog_14_method_167_code 116 = .ok (.iload 6, 2) := zsh_g zdk_584 (r := 29) (k := 0) rfl rfl rfl
theorem zd_584_118 : decode prog_14_method_167_code 118 = .ok (.bipush 84, 2) := zsh_g zdk_584 (r := 29) (k := 1) rfl rfl rfl
theorem zd_584_120 : decode prog_14_method_167_code 120 = .ok (.if_icmp .ne 10, 3) := zsh_g zdk_584 (r := 30) (k := 0) rfl rfl rfl
theorem zd_584_123 : decode prog_14_method_167_code 123 = .ok (.iload 5, 2) := zsh_g zdk_584 (r := 30) (k := 1) rfl rfl rfl
theorem zd_584_125 : decode prog_14_method_167_code 125 = .ok (.iconst 1, 1) := zsh_g zdk_584 (r := 31) (k := 0) rfl rfl rfl
theorem zd_584_126 : decode prog_14_method_167_code 126 = .ok (.isub, 1) := zsh_g zdk_584 (r := 31) (k := 1) rfl rfl rfl
theorem zd_584_127 : decode prog_14_method_167_code 127 = .ok (.goto 5, 3) := zsh_g zdk_584 (r := 31) (k := 2) rfl rfl rfl
theorem zd_584_130 : decode prog_14_method_167_code 130 = .ok (.iload 5, 2) := zsh_g zdk_584 (r := 32) (k := 0) rfl rfl rfl
theorem zd_584_132 : decode prog_14_method_167_code 132 = .ok (.istore 5, 2) := zsh_g zdk_584 (r := 33) (k := 0) rfl rfl rfl
theorem zd_584_134 : decode prog_14_method_167_code 134 = .ok (.iinc 4 1, 3) := zsh_g zdk_584 (r := 33) (k := 1) rfl rfl rfl
theorem zd_584_137 : decode prog_14_method_167_code 137 = .ok (.goto (-72), 3) := zsh_g zdk_584 (r := 34) (k := 0) rfl rfl rfl
theorem zd_584_140 : decode prog_14_method_167_code 140 = .ok (.iload 5, 2) := zsh_g zdk_584 (r := 35) (k := 0) rfl rfl rfl
theorem zd_584_142 : decode prog_14_method_167_code 142 = .ok (.ifCond .le 9, 3) := zsh_g zdk_584 (r := 35) (k := 1) rfl rfl rfl
theorem zd_584_145 : decode prog_14_method_167_code 145 = .ok (.aload_n 0, 1) := zsh_g zdk_584 (r := 36) (k := 0) rfl rfl rfl
theorem zd_584_146 : decode prog_14_method_167_code 146 = .ok (.iconst 5, 1) := zsh_g zdk_584 (r := 36) (k := 1) rfl rfl rfl
theorem zd_584_147 : decode prog_14_method_167_code 147 = .ok (.invokevirtual 1216, 3) := zsh_g zdk_584 (r := 36) (k := 2) rfl rfl rfl
theorem zd_584_151 : decode prog_14_method_167_code 151 = .ok (.aload_n 0, 1) := zsh_g zdk_584 (r := 37) (k := 0) rfl rfl rfl
theorem zd_584_152 : decode prog_14_method_167_code 152 = .ok (.getfield 307, 3) := zsh_g zdk_584 (r := 38) (k := 0) rfl rfl rfl
theorem zd_584_155 : decode prog_14_method_167_code 155 = .ok (.iload_n 2, 1) := zsh_g zdk_584 (r := 38) (k := 1) rfl rfl rfl
theorem zd_584_156 : decode prog_14_method_167_code 156 = .ok (.iload 4, 2) := zsh_g zdk_584 (r := 39) (k := 0) rfl rfl rfl
theorem zd_584_158 : decode prog_14_method_167_code 158 = .ok (.iastore, 1) := zsh_g zdk_584 (r := 39) (k := 1) rfl rfl rfl
theorem zd_584_159 : decode prog_14_method_167_code 159 = .ok (.iload_n 1, 1) := zsh_g zdk_584 (r := 39) (k := 2) rfl rfl rfl
theorem zd_584_160 : decode prog_14_method_167_code 160 = .ok (.ifCond .le 19, 3) := zsh_g zdk_584 (r := 40) (k := 0) rfl rfl rfl
theorem zd_584_163 : decode prog_14_method_167_code 163 = .ok (.aload_n 0, 1) := zsh_g zdk_584 (r := 40) (k := 1) rfl rfl rfl
theorem zd_584_164 : decode prog_14_method_167_code 164 = .ok (.getfield 1447, 3) := zsh_g zdk_584 (r := 41) (k := 0) rfl rfl rfl
theorem zd_584_167 : decode prog_14_method_167_code 167 = .ok (.bipush 11, 2) := zsh_g zdk_584 (r := 41) (k := 1) rfl rfl rfl
theorem zd_584_169 : decode prog_14_method_167_code 169 = .ok (.if_icmp .ne 10, 3) := zsh_g zdk_584 (r := 42) (k := 0) rfl rfl rfl
theorem zd_584_172 : decode prog_14_method_167_code 172 = .ok (.aload_n 0, 1) := zsh_g zdk_584 (r := 43) (k := 0) rfl rfl rfl
theorem zd_584_173 : decode prog_14_method_167_code 173 = .ok (.bipush 6, 2) := zsh_g zdk_584 (r := 43) (k := 1) rfl rfl rfl
theorem zd_584_175 : decode prog_14_method_167_code 175 = .ok (.invokevirtual 1216, 3) := zsh_g zdk_584 (r := 43) (k := 2) rfl rfl rfl
theorem zd_584_179 : decode prog_14_method_167_code 179 = .ok (.iload_n 1, 1) := zsh_g zdk_584 (r := 44) (k := 0) rfl rfl rfl
theorem zd_584_180 : decode prog_14_method_167_code 180 = .ok (.ifCond .le 33, 3) := zsh_g zdk_584 (r := 45) (k := 0) rfl rfl rfl
theorem zd_584_183 : decode prog_14_method_167_code 183 = .ok (.aload_n 0, 1) := zsh_g zdk_584 (r := 45) (k := 1) rfl rfl rfl
theorem zd_584_184 : decode prog_14_method_167_code 184 = .ok (.getfield 446, 3) := zsh_g zdk_584 (r := 46) (k := 0) rfl rfl rfl
theorem zd_584_187 : decode prog_14_method_167_code 187 = .ok (.aload_n 0, 1) := zsh_g zdk_584 (r := 46) (k := 1) rfl rfl rfl
theorem zd_584_188 : decode prog_14_method_167_code 188 = .ok (.getfield 1447, 3) := zsh_g zdk_584 (r := 47) (k := 0) rfl rfl rfl
theorem zd_584_191 : decode prog_14_method_167_code 191 = .ok (.aload_n 0, 1) := zsh_g zdk_584 (r := 47) (k := 1) rfl rfl rfl
theorem zd_584_192 : decode prog_14_method_167_code 192 = .ok (.getfield 1468, 3) := zsh_g zdk_584 (r := 48) (k := 0) rfl rfl rfl
theorem zd_584_195 : decode prog_14_method_167_code 195 = .ok (.iastore, 1) := zsh_g zdk_584 (r := 48) (k := 1) rfl rfl rfl
theorem zd_584_196 : decode prog_14_method_167_code 196 = .ok (.aload_n 0, 1) := zsh_g zdk_584 (r := 49) (k := 0) rfl rfl rfl
theorem zd_584_197 : decode prog_14_method_167_code 197 = .ok (.iload_n 3, 1) := zsh_g zdk_584 (r := 49) (k := 1) rfl rfl rfl
theorem zd_584_198 : decode prog_14_method_167_code 198 = .ok (.iload 4, 2) := zsh_g zdk_584 (r := 49) (k := 2) rfl rfl rfl
theorem zd_584_200 : decode prog_14_method_167_code 200 = .ok (.iconst 1, 1) := zsh_g zdk_584 (r := 50) (k := 0) rfl rfl rfl
theorem zd_584_201 : decode prog_14_method_167_code 201 = .ok (.isub, 1) := zsh_g zdk_584 (r := 50) (k := 1) rfl rfl rfl
theorem zd_584_202 : decode prog_14_method_167_code 202 = .ok (.iload_n 1, 1) := zsh_g zdk_584 (r := 50) (k := 2) rfl rfl rfl
theorem zd_584_203 : decode prog_14_method_167_code 203 = .ok (.iconst (-1), 1) := zsh_g zdk_584 (r := 50) (k := 3) rfl rfl rfl
theorem zd_584_204 : decode prog_14_method_167_code 204 = .ok (.aload_n 0, 1) := zsh_g zdk_584 (r := 51) (k := 0) rfl rfl rfl
theorem zd_584_205 : decode prog_14_method_167_code 205 = .ok (.getfield 319, 3) := zsh_g zdk_584 (r := 51) (k := 1) rfl rfl rfl
theorem zd_584_208 : decode prog_14_method_167_code 208 = .ok (.iload_n 2, 1) := zsh_g zdk_584 (r := 52) (k := 0) rfl rfl rfl
theorem zd_584_209 : decode prog_14_method_167_code 209 = .ok (.iaload, 1) := zsh_g zdk_584 (r := 52) (k := 1) rfl rfl rfl
theorem zd_584_210 : decode prog_14_method_167_code 210 = .ok (.invokevirtual 1471, 3) := zsh_g zdk_584 (r := 52) (k := 2) rfl rfl rfl
def zdl_585 : List (List (Nat × Instr × Nat)) := [[(0, (.iload_n 2), 1), (1, (.istore 4), 2), (3, (.iload 4), 2)], [(1, (.iload_n 3), 1), (2, (.if_icmp .ge 22), 3)], [(1, (.aload_n 0), 1), (2, (.iload 4), 2)], [(0, (.invokestatic 71), 3), (3, (.iload_n 1), 1)], [(0, (.if_icmp .ne 6), 3), (3, (.iload 4), 2)], [(2, (.iinc 4 1), 3)], [(1, (.goto (-22)), 3)], [(0, (.iconst (-1)), 1)]]
theorem zdk_585 : zsh_all 8 zdl_585 prog_30_method_48_code.data.toList = true := by decide +kernel
theorem zd_585_0 : decode prog_30_method_48_code 0 = .ok (.iload_n 2, 1) := zsh_g zdk_585 (r := 0) (k := 0) rfl rfl rfl
theorem zd_585_1 : decode prog_30_method_48_code 1 = .ok (.istore 4, 2) := zsh_g zdk_585 (r := 0) (k := 1) rfl rfl rfl
theorem zd_585_3 : decode prog_30_method_48_code 3 = .ok (.iload 4, 2) := zsh_g zdk_585 (r := 0) (k := 2) rfl rfl rfl
theorem zd_585_5 : decode prog_30_method_48_code 5 = .ok (.iload_n 3, 1) := zsh_g zdk_585 (r := 1) (k := 0) rfl rfl rfl
theorem zd_585_6 : decode prog_30_method_48_code 6 = .ok (.if_icmp .ge 22, 3) := zsh_g zdk_585 (r := 1) (k := 1) rfl rfl rfl
theorem zd_585_9 : decode prog_30_method_48_code 9 = .ok (.aload_n 0, 1) := zsh_g zdk_585 (r := 2) (k := 0) rfl rfl rfl
theorem zd_585_10 : decode prog_30_method_48_code 10 = .ok (.iload 4, 2) := zsh_g zdk_585 (r := 2) (k := 1) rfl rfl rfl
theorem zd_585_12 : decode prog_30_method_48_code 12 = .ok (.invokestatic 71, 3) := zsh_g zdk_585 (r := 3) (k := 0) rfl rfl rfl
theorem zd_585_15 : decode prog_30_method_48_code 15 = .ok (.iload_n 1, 1) := zsh_g zdk_585 (r := 3) (k := 1) rfl rfl rfl
theorem zd_585_16 : decode prog_30_method_48_code 16 = .ok (.if_icmp .ne 6, 3) := zsh_g zdk_585 (r := 4) (k := 0) rfl rfl rfl
theorem zd_585_19 : decode prog_30_method_48_code 19 = .ok (.iload 4, 2) := zsh_g zdk_585 (r := 4) (k := 1) rfl rfl rfl
theorem zd_585_22 : decode prog_30_method_48_code 22 = .ok (.iinc 4 1, 3) := zsh_g zdk_585 (r := 5) (k := 0) rfl rfl rfl
theorem zd_585_25 : decode prog_30_method_48_code 25 = .ok (.goto (-22), 3) := zsh_g zdk_585 (r := 6) (k := 0) rfl rfl rfl
theorem zd_585_28 : decode prog_30_method_48_code 28 = .ok (.iconst (-1), 1) := zsh_g zdk_585 (r := 7) (k := 0) rfl rfl rfl
def zdl_586 : List (List (Nat × Instr × Nat)) := [[(0, (.iload_n 0), 1), (1, (.bipush 16), 2), (3, .iushr, 1)], [(0, (.istore_n 1), 1), (1, (.iload_n 1), 1), (2, (.bipush 17), 2)], [(0, (.if_icmp .ge 7), 3), (3, (.iconst 1), 1)], [(0, (.goto 4), 3), (3, (.iconst 0), 1)]]
theorem zdk_586 : zsh_all 8 zdl_586 prog_17_method_11_code.data.toList = true := by decide +kernel
theorem zd_586_0 : decode prog_17_method_11_code 0 = .ok (.iload_n 0, 1) := zsh_g zdk_586 (r := 0) (k := 0) rfl rfl rfl
theorem zd_586_1 : decode prog_17_method_11_code 1 = .ok (.bipush 16, 2) := zsh_g zdk_586 (r := 0) (k := 1) rfl rfl rfl
theorem zd_586_3 : decode prog_17_method_11_code 3 = .ok (.iushr, 1) := zsh_g zdk_586 (r := 0) (k := 2) rfl rfl rfl
theorem zd_586_4 : decode prog_17_method_11_code 4 = .ok (.istore_n 1, 1) := zsh_g zdk_586 (r := 1) (k := 0) rfl rfl rfl
theorem zd_586_5 : decode prog_17_method_11_code 5 = .ok (.iload_n 1, 1) := zsh_g zdk_586 (r := 1) (k := 1) rfl rfl rfl
theorem zd_586_6 : decode prog_17_method_11_code 6 = .ok (.bipush 17, 2) := zsh_g zdk_586 (r := 1) (k := 2) rfl rfl rfl
theorem zd_586_8 : decode prog_17_method_11_code 8 = .ok (.if_icmp .ge 7, 3) := zsh_g zdk_586 (r := 2) (k := 0) rfl rfl rfl
theorem zd_586_11 : decode prog_17_method_11_code 11 = .ok (.iconst 1, 1) := zsh_g zdk_586 (r := 2) (k := 1) rfl rfl rfl
theorem zd_586_12 : decode prog_17_method_11_code 12 = .ok (.goto 4, 3) := zsh_g zdk_586 (r := 3) (k := 0) rfl rfl rfl
theorem zd_586_15 : decode prog_17_method_11_code 15 = .ok (.iconst 0, 1) := zsh_g zdk_586 (r := 3) (k := 1) rfl rfl rfl
def zdl_587 : List (List (Nat × Instr × Nat)) := [[(0, (.iload_n 0), 1), (1, (.bipush 10), 2), (3, .iushr, 1)], [(0, (.ldc 110), 2), (2, .iadd, 1), (3, .i2c, 1)]]
theorem zdk_587 : zsh_all 8 zdl_587 prog_17_method_28_code.data.toList = true := by decide +kernel
theorem zd_587_0 : decode prog_17_method_28_code 0 = .ok (.iload_n 0, 1) := zsh_g zdk_587 (r := 0) (k := 0) rfl rfl rfl
theorem zd_587_1 : decode prog_17_method_28_code 1 = .ok (.bipush 10, 2) := zsh_g zdk_587 (r := 0) (k := 1) rfl rfl rfl
theorem zd_587_3 : decode prog_17_method_28_code 3 = .ok (.iushr, 1) := zsh_g zdk_587 (r := 0) (k := 2) rfl rfl rfl
theorem zd_587_4 : decode prog_17_method_28_code 4 = .ok (.ldc 110, 2) := zsh_g zdk_587 (r := 1) (k := 0) rfl rfl rfl
theorem zd_587_6 : decode prog_17_method_28_code 6 = .ok (.iadd, 1) := zsh_g zdk_587 (r := 1) (k := 1) rfl rfl rfl
theorem zd_587_7 : decode prog_17_method_28_code 7 = .ok (.i2c, 1) := zsh_g zdk_587 (r := 1) (k := 2) rfl rfl rfl
def zdl_588 : List (List (Nat × Instr × Nat)) := [[(0, (.iload_n 0), 1), (1, (.sipush 1023), 3)], [(0, .iand, 1), (1, (.ldc 76), 2), (3, .iadd, 1)], [(0, .i2c, 1)]]
theorem zdk_588 : zsh_all 8 zdl_588 prog_17_method_29_code.data.toList = true := by decide +kernel
theorem zd_588_0 : decode prog_17_method_29_code 0 = .ok (.iload_n 0, 1) := zsh_g zdk_588 (r := 0) (k := 0) rfl rfl rfl
theorem zd_588_1 : decode prog_17_method_29_code 1 = .ok (.sipush 1023, 3) := zsh_g zdk_588 (r := 0) (k := 1) rfl rfl rfl
theorem zd_588_4 : decode prog_17_method_29_code 4 = .ok (.iand, 1) := zsh_g zdk_588 (r := 1) (k := 0) rfl rfl rfl
theorem zd_588_5 : decode prog_17_method_29_code 5 = .ok (.ldc 76, 2) := zsh_g zdk_588 (r := 1) (k := 1) rfl rfl rfl
theorem zd_588_7 : decode prog_17_method_29_code 7 = .ok (.iadd, 1) := zsh_g zdk_588 (r := 1) (k := 2) rfl rfl rfl
theorem zd_588_8 : decode prog_17_method_29_code 8 = .ok (.i2c, 1) := zsh_g zdk_588 (r := 2) (k := 0) rfl rfl rfl
def zdl_589 : List (List (Nat × Instr × Nat)) := [[(0, (.iload_n 1), 1), (1, (.bipush 8), 2), (3, (.if_icmp .lt 11), 3)], [(2, (.aload_n 0), 1), (3, (.aload_n 0), 1)], [(0, (.invokevirtual 151), 3), (3, (.invokevirtual 187), 3)], [(2, (.aload_n 0), 1), (3, (.invokevirtual 69), 3)], [(2, (.istore_n 2), 1), (3, (.iload_n 2), 1)], [(0, (.bipush 45), 2), (2, (.if_icmp .eq 15), 3)], [(1, (.iload_n 2), 1), (2, (.bipush 33), 2)], [(0, (.if_icmp .eq 9), 3), (3, (.iload_n 2), 1)], [(0, (.bipush 126), 2), (2, (.if_icmp .ne 62), 3)], [(1, (.aload_n 0), 1), (2, (.iload_n 2), 1), (3, (.invokevirtual 172), 3)], [(2, (.ifCond .eq 151), 3)], [(1, (.aload_n 0), 1), (2, (.iload_n 1), 1), (3, (.invokevirtual 270), 3)], [(2, (.aload_n 0), 1), (3, .dup, 1)], [(0, (.getfield 44), 3), (3, (.iconst 1), 1)], [(0, .isub, 1), (1, (.putfield 44), 3)], [(0, (.aload_n 0), 1), (1, (.getfield 36), 3)], [(0, (.iload_n 2), 1), (1, (.bipush 45), 2), (3, (.if_icmp .ne 8), 3)], [(2, (.bipush 12), 2)], [(0, (.goto 16), 3), (3, (.iload_n 2), 1)], [(0, (.bipush 33), 2), (2, (.if_icmp .ne 8), 3)], [(1, (.bipush 13), 2), (3, (.goto 5), 3)], [(2, (.bipush 14), 2)], [(0, (.iload_n 1), 1), (1, (.iconst 0), 1), (2, (.invokevirtual 169), 3)], [(1, (.goto 100), 3)], [(0, (.iload_n 2), 1), (1, (.iconst 3), 1), (2, (.if_icmp .ne 23), 3)], [(1, (.aload_n 0), 1), (2, (.getfield 36), 3)], [(1, (.iconst 5), 1), (2, (.iload_n 1), 1), (3, (.aload_n 0), 1)], [(0, (.invokevirtual 148), 3), (3, (.invokevirtual 169), 3)], [(2, (.aload_n 0), 1), (3, (.invokevirtual 73), 3)], [(2, (.goto 75), 3)], [(1, (.iload_n 2), 1), (2, (.bipush 11), 2)], [(0, (.if_icmp .ne 36), 3), (3, (.aload_n 0), 1)], [(0, (.invokevirtual 73), 3), (3, (.aload_n 0), 1)], [(0, (.bipush 40), 2), (2, (.invokevirtual 172), 3)], [(1, (.ifCond .eq 9), 3)], [(0, (.aload_n 0), 1), (1, (.bipush 41), 2), (3, (.invokevirtual 175), 3)], [(2, (.aload_n 0), 1), (3, (.getfield 36), 3)], [(2, (.bipush 6), 2)], [(0, (.iload_n 1), 1), (1, (.iconst 0), 1), (2, (.invokevirtual 169), 3)], [(1, (.goto 36), 3)], [(0, (.iload_n 2), 1), (1, (.iconst 2), 1), (2, (.if_icmp .ne 11), 3)], [(1, (.aload_n 0), 1), (2, (.iload_n 1), 1), (3, (.invokevirtual 273), 3)], [(2, (.goto 23), 3)], [(1, (.aload_n 0), 1), (2, (.bipush 40), 2)], [(0, (.invokevirtual 172), 3), (3, (.ifCond .eq 14), 3)], [(2, (.aload_n 0), 1), (3, (.iload_n 1), 1)], [(0, (.invokevirtual 238), 3), (3, (.aload_n 0), 1)], [(0, (.bipush 41), 2), (2, (.invokevirtual 175), 3)]]
theorem zdk_589 : zsh_all 8 zdl_589 prog_10_method_39_code.data.toList = true := by decide +kernel
theorem zd_589_0 : decode prog_10_method_39_code 0 = .ok (.iload_n 1, 1) := zsh_g zdk_589 (r := 0) (k := 0) rfl rfl rfl
theorem zd_589_1 : decode prog_10_method_39_code 1 = .ok (.bipush 8, 2) := zsh_g zdk_589 (r := 0) (k := 1) rfl rfl rfl
theorem zd_589_3 : decode prog_10_method_39_code 3 = .ok (.if_icmp .lt 11, 3) := zsh_g zdk_589 (r := 0) (k := 2) rfl rfl rfl
theorem zd_589_6 : decode prog_10_method_39_code 6 = .ok (.aload_n 0, 1) := zsh_g zdk_589 (r := 1) (k := 0) rfl rfl rfl
theorem zd_589_7 : decode prog_10_method_39_code 7 = .ok (.aload_n 0, 1) := zsh_g zdk_589 (r := 1) (k := 1) rfl rfl rfl
theorem zd_589_8 : decode prog_10_method_39_code 8 = .ok (.invokevirtual 151, 3) := zsh_g zdk_589 (r := 2) (k := 0) rfl rfl rfl
theorem zd_589_11 : decode prog_10_method_39_code 11 = .ok (.invokevirtual 187, 3) := zsh_g zdk_589 (r := 2) (k := 1) rfl rfl rfl
theorem zd_589_14 : decode prog_10_method_39_code 14 = .ok (.aload_n 0, 1) := zsh_g zdk_589 (r := 3) (k := 0) rfl rfl rfl
theorem zd_589_15 : decode prog_10_method_39_code 15 = .ok (.invokevirtual 69, 3) := zsh_g zdk_589 (r := 3) (k := 1) rfl rfl rfl
theorem zd_589_18 : decode prog_10_method_39_code 18 = .ok (.istore_n 2, 1) := zsh_g zdk_589 (r := 4) (k := 0) rfl rfl rfl
theorem zd_589_19 : decode prog_10_method_39_code 19 = .ok (.iload_n 2, 1) := zsh_g zdk_589 (r := 4) (k := 1) rfl rfl rfl
theorem zd_589_20 : decode prog_10_method_39_code 20 = .ok (.bipush 45, 2) := zsh_g zdk_589 (r := 5) (k := 0) rfl rfl rfl
theorem zd_589_22 : decode prog_10_method_39_code 22 = .ok (.if_icmp .eq 15, 3) := zsh_g zdk_589 (r := 5) (k := 1) rfl rfl rfl
theorem zd_589_25 : decode prog_10_method_39_code 25 = .ok (.iload_n 2, 1) := zsh_g zdk_589 (r := 6) (k := 0) rfl rfl rfl
theorem zd_589_26 : decode prog_10_method_39_code 26 = .ok (.bipush 33, 2) := zsh_g zdk_589 (r := 6) (k := 1) rfl rfl rfl
theorem zd_589_28 : decode prog_10_method_39_code 28 = .ok (.if_icmp .eq 9, 3) := zsh_g zdk_589 (r := 7) (k := 0) rfl rfl rfl
theorem zd_589_31 : decode prog_10_method_39_code 31 = .ok (.iload_n 2, 1) := zsh_g zdk_589 (r := 7) (k := 1) rfl rfl rfl
theorem zd_589_32 : decode prog_10_method_39_code 32 = .ok (.bipush 126, 2) := zsh_g zdk_589 (r := 8) (k := 0) rfl rfl rfl
theorem zd_589_34 : decode prog_10_method_39_code 34 = .ok (.if_icmp .ne 62, 3) := zsh_g zdk_589 (r := 8) (k := 1) rfl rfl rfl
theorem zd_589_37 : decode prog_10_method_39_code 37 = .ok (.aload_n 0, 1) := zsh_g zdk_589 (r := 9) (k := 0) rfl rfl rfl
theorem zd_589_38 : decode prog_10_method_39_code 38 = .ok (.iload_n 2, 1) := zsh_g zdk_589 (r := 9) (k := 1) rfl rfl rfl
theorem zd_589_39 : decode prog_10_method_39_code 39 = .ok (.invokevirtual 172, 3) := zsh_g zdk_589 (r := 9) (k := 2) rfl rfl rfl
theorem zd_589_42 : decode prog_10_method_39_code 42 = .ok (.ifCond .eq 151, 3) := zsh_g zdk_589 (r := 10) (k := 0) rfl rfl rfl
theorem zd_589_45 : decode prog_10_method_39_code 45 = .ok (.aload_n 0, 1) := zsh_g zdk_589 (r := 11) (k := 0) rfl rfl rfl
theorem zd_589_46 : decode prog_10_method_39_code 46 = .ok (.iload_n 1, 1) := zsh_g zdk_589 (r := 11) (k := 1) rfl rfl rfl
theorem zd_589_47 : decode prog_10_method_39_code 47 = .ok (.invokevirtual 270, 3) := zsh_g zdk_589 (r := 11) (k := 2) rfl rfl rfl
theorem zd_589_50 : decode prog_10_method_39_code 50 = .ok (.aload_n 0, 1) := zsh_g zdk_589 (r := 12) (k := 0) rfl rfl rfl
theorem zd_589_51 : decode prog_10_method_39_code 51 = .ok (.dup, 1) := zsh_g zdk_589 (r := 12) (k := 1) rfl rfl rfl
theorem zd_589_52 : decode prog_10_method_39_code 52 = .ok (.getfield 44, 3) := zsh_g zdk_589 (r := 13) (k := 0) rfl rfl rfl
theorem zd_589_55 : decode prog_10_method_39_code 55 = .ok (.iconst 1, 1) := zsh_g zdk_589 (r := 13) (k := 1) rfl rfl rfl
theorem zd_589_56 : decode prog_10_method_39_code 56 = .ok (.isub, 1) := zsh_g zdk_589 (r := 14) (k := 0) rfl rfl rfl
theorem zd_589_57 : decode prog_10_method_39_code 57 = .ok (.putfield 44, 3) := zsh_g zdk_589 (r := 14) (k := 1) rfl rfl rfl
theorem zd_589_60 : decode prog_10_method_39_code 60 = .ok (.aload_n 0, 1) := zsh_g zdk_589 (r := 15) (k := 0) rfl rfl rfl
theorem zd_589_61 : decode prog_10_method_39_code 61 = .ok (.getfield 36, 3) := zsh_g zdk_589 (r := 15) (k := 1) rfl rfl rfl
theorem zd_589_64 : decode prog_10_method_39_code 64 = .ok (.iload_n 2, 1) := zsh_g zdk_589 (r := 16) (k := 0) rfl rfl rfl
theorem zd_589_65 : decode prog_10_method_39_code 65 = .ok (.bipush 45, 2) := zsh_g zdk_589 (r := 16) (k := 1) rfl rfl rfl
theorem zd_589_67 : decode prog_10_method_39_code 67 = .ok (.if_icmp .ne 8, 3) := zsh_g zdk_589 (r := 16) (k := 2) rfl rfl rfl
theorem zd_589_70 : decode prog_10_method_39_code 70 = .ok (.bipush 12, 2) := zsh_g zdk_589 (r := 17) (k := 0) rfl rfl rfl
theorem zd_589_72 : decode prog_10_method_39_code 72 = .ok (.goto 16, 3) := zsh_g zdk_589 (r := 18) (k := 0) rfl rfl rfl
theorem zd_589_75 : decode prog_10_method_39_code 75 = .ok (.iload_n 2, 1) := zsh_g zdk_589 (r := 18) (k := 1) rfl rfl rfl
theorem zd_589_76 : decode prog_10_method_39_code 76 = .ok (.bipush 33, 2) := zsh_g zdk_589 (r := 19) (k := 0) rfl rfl rfl
theorem zd_589_78 : decode prog_10_method_39_code 78 = .ok (.if_icmp .ne 8, 3) := zsh_g zdk_589 (r := 19) (k := 1) rfl rfl rfl
theorem zd_589_81 : decode prog_10_method_39_code 81 = .ok (.bipush 13, 2) := zsh_g zdk_589 (r := 20) (k := 0) rfl rfl rfl
theorem zd_589_83 : decode prog_10_method_39_code 83 = .ok (.goto 5, 3) := zsh_g zdk_589 (r := 20) (k := 1) rfl rfl rfl
theorem zd_589_86 : decode prog_10_method_39_code 86 = .ok (.bipush 14, 2) := zsh_g zdk_589 (r := 21) (k := 0) rfl rfl rfl
theorem zd_589_88 : decode prog_10_method_39_code 88 = .ok (.iload_n 1, 1) := zsh_g zdk_589 (r := 22) (k := 0) rfl rfl rfl
theorem zd_589_89 : decode prog_10_method_39_code 89 = .ok (.iconst 0, 1) := zsh_g zdk_589 (r := 22) (k := 1) rfl rfl rfl
theorem zd_589_90 : decode prog_10_method_39_code 90 = .ok (.invokevirtual 169, 3) := zsh_g zdk_589 (r := 22) (k := 2) rfl rfl rfl
theorem zd_589_93 : decode prog_10_method_39_code 93 = .ok (.goto 100, 3) := zsh_g zdk_589 (r := 23) (k := 0) rfl rfl rfl
theorem zd_589_96 : decode prog_10_method_39_code 96 = .ok (.iload_n 2, 1) := zsh_g zdk_589 (r := 24) (k := 0) rfl rfl rfl
theorem zd_589_97 : decode prog_10_method_39_code 97 = .ok (.iconst 3, 1) := zsh_g zdk_589 (r := 24) (k := 1) rfl rfl rfl
theorem zd_589_98 : decode prog_10_method_39_code 98 = .ok (.if_icmp .ne 23, 3) := zsh_g zdk_589 (r := 24) (k := 2) rfl rfl rfl
theorem zd_589_101 : decode prog_10_method_39_code 101 = .ok (.aload_n 0, 1) := zsh_g zdk_589 (r := 25) (k := 0) rfl rfl rfl
theorem zd_589_102 : decode prog_10_method_39_code 102 = .ok (.getfield 36, 3) := zsh_g zdk_589 (r := 25) (k := 1) rfl rfl rfl
theorem zd_589_105 : decode prog_10_method_39_code 105 = .ok (.iconst 5, 1) := zsh_g zdk_589 (r := 26) (k := 0) rfl rfl rfl
theorem zd_589_106 : decode prog_10_method_39_code 106 = .ok (.iload_n 1, 1) := zsh_g zdk_589 (r := 26) (k := 1) rfl rfl rfl
theorem zd_589_107 : decode prog_10_method_39_code 107 = .ok (.aload_n 0, 1) := zsh_g zdk_589 (r := 26) (k := 2) rfl rfl rfl
theorem zd_589_108 : decode prog_10_method_39_code 108 = .ok (.invokevirtual 148, 3) := zsh_g zdk_589 (r := 27) (k := 0) rfl rfl rfl
theorem zd_589_111 : decode prog_10_method_39_code 111 = .ok (.invokevirtual 169, 3) := zsh_g zdk_589 (r := 27) (k := 1) rfl rfl rfl
theorem zd_589_114 : decode prog_10_method_39_code 114 = .ok (.aload_n 0, 1) := zsh_g zdk_589 (r := 28) (k := 0) rfl rfl rfl
theorem zd_589_115 : decode prog_10_method_39_code 115 = .ok (.invokevirtual 73, 3) := zsh_g zdk_589 (r := 28) (k := 1) rfl rfl rfl
theorem zd_589_118 : decode prog_10_method_39_code 118 = .ok (.goto 75, 3) := zsh_g zdk_589 (r := 29) (k := 0) rfl rfl rfl
theorem zd_589_121 : decode prog_10_method_39_code 121 = .ok (.iload_n 2, 1) := zsh_g zdk_589 (r := 30) (k := 0) rfl rfl rfl
theorem zd_589_122 : decode prog_10_method_39_code 122 = .ok (.bipush 11, 2) := zsh_g zdk_589 (r := 30) (k := 1) rfl rfl rfl
theorem zd_589_124 : decode prog_10_method_39_code 124 = .ok (.if_icmp .ne 36, 3) := zsh_g zdk_589 (r := 31) (k := 0) rfl rfl rfl
theorem zd_589_127 : decode prog_10_method_39_code 127 = .ok (.aload_n 0, 1) := zsh_g zdk_589 (r := 31) (k := 1) rfl rfl rfl
theorem zd_589_128 : decode prog_10_method_39_code 128 = .ok (.invokevirtual 73, 3) := zsh_g zdk_589 (r := 32) (k := 0) rfl rfl rfl
theorem zd_589_131 : decode prog_10_method_39_code 131 = .ok (.aload_n 0, 1) := zsh_g zdk_589 (r := 32) (k := 1) rfl rfl rfl
theorem zd_589_132 : decode prog_10_method_39_code 132 = .ok (.bipush 40, 2) := zsh_g zdk_589 (r := 33) (k := 0) rfl rfl rfl
theorem zd_589_134 : decode prog_10_method_39_code 134 = .ok (.invokevirtual 172, 3) := zsh_g zdk_589 (r := 33) (k := 1) rfl rfl rfl
theorem zd_589_137 : decode prog_10_method_39_code 137 = .ok (.ifCond .eq 9, 3) := zsh_g zdk_589 (r := 34) (k := 0) rfl rfl rfl
theorem zd_589_140 : decode prog_10_method_39_code 140 = .ok (.aload_n 0, 1) := zsh_g zdk_589 (r := 35) (k := 0) rfl rfl rfl
theorem zd_589_141 : decode prog_10_method_39_code 141 = .ok (.bipush 41, 2) := zsh_g zdk_589 (r := 35) (k := 1) rfl rfl rfl
theorem zd_589_143 : decode prog_10_method_39_code 143 = .ok (.invokevirtual 175, 3) := zsh_g zdk_589 (r := 35) (k := 2) rfl rfl rfl
theorem zd_589_146 : decode prog_10_method_39_code 146 = .ok (.aload_n 0, 1) := zsh_g zdk_589 (r := 36) (k := 0) rfl rfl rfl
theorem zd_589_147 : decode prog_10_method_39_code 147 = .ok (.getfield 36, 3) := zsh_g zdk_589 (r := 36) (k := 1) rfl rfl rfl
theorem zd_589_150 : decode prog_10_method_39_code 150 = .ok (.bipush 6, 2) := zsh_g zdk_589 (r := 37) (k := 0) rfl rfl rfl
theorem zd_589_152 : decode prog_10_method_39_code 152 = .ok (.iload_n 1, 1) := zsh_g zdk_589 (r := 38) (k := 0) rfl rfl rfl
theorem zd_589_153 : decode prog_10_method_39_code 153 = .ok (.iconst 0, 1) := zsh_g zdk_589 (r := 38) (k := 1) rfl rfl rfl
theorem zd_589_154 : decode prog_10_method_39_code 154 = .ok (.invokevirtual 169, 3) := zsh_g zdk_589 (r := 38) (k := 2) rfl rfl rfl
theorem zd_589_157 : decode prog_10_method_39_code 157 = .ok (.goto 36, 3) := zsh_g zdk_589 (r := 39) (k := 0) rfl rfl rfl
theorem zd_589_160 : decode prog_10_method_39_code 160 = .ok (.iload_n 2, 1) := zsh_g zdk_589 (r := 40) (k := 0) rfl rfl rfl
theorem zd_589_161 : decode prog_10_method_39_code 161 = .ok (.iconst 2, 1) := zsh_g zdk_589 (r := 40) (k := 1) rfl rfl rfl
theorem zd_589_162 : decode prog_10_method_39_code 162 = .ok (.if_icmp .ne 11, 3) := zsh_g zdk_589 (r := 40) (k := 2) rfl rfl rfl
theorem zd_589_165 : decode prog_10_method_39_code 165 = .ok (.aload_n 0, 1) := zsh_g zdk_589 (r := 41) (k := 0) rfl rfl rfl
theorem zd_589_166 : decode prog_10_method_39_code 166 = .ok (.iload_n 1, 1) := zsh_g zdk_589 (r := 41) (k := 1) rfl rfl rfl
theorem zd_589_167 : decode prog_10_method_39_code 167 = .ok (.invokevirtual 273, 3) := zsh_g zdk_589 (r := 41) (k := 2) rfl rfl rfl
theorem zd_589_170 : decode prog_10_method_39_code 170 = .ok (.goto 23, 3) := zsh_g zdk_589 (r := 42) (k := 0) rfl rfl rfl
theorem zd_589_173 : decode prog_10_method_39_code 173 = .ok (.aload_n 0, 1) := zsh_g zdk_589 (r := 43) (k := 0) rfl rfl rfl
theorem zd_589_174 : decode prog_10_method_39_code 174 = .ok (.bipush 40, 2) := zsh_g zdk_589 (r := 43) (k := 1) rfl rfl rfl
theorem zd_589_176 : decode prog_10_method_39_code 176 = .ok (.invokevirtual 172, 3) := zsh_g zdk_589 (r := 44) (k := 0) rfl rfl rfl
theorem zd_589_179 : decode prog_10_method_39_code 179 = .ok (.ifCond .eq 14, 3) := zsh_g zdk_589 (r := 44) (k := 1) rfl rfl rfl
theorem zd_589_182 : decode prog_10_method_39_code 182 = .ok (.aload_n 0, 1) := zsh_g zdk_589 (r := 45) (k := 0) rfl rfl rfl
theorem zd_589_183 : decode prog_10_method_39_code 183 = .ok (.iload_n 1, 1) := zsh_g zdk_589 (r := 45) (k := 1) rfl rfl rfl
theorem zd_589_184 : decode prog_10_method_39_code 184 = .ok (.invokevirtual 238, 3) := zsh_g zdk_589 (r := 46) (k := 0) rfl rfl rfl
theorem zd_589_187 : decode prog_10_method_39_code 187 = .ok (.aload_n 0, 1) := zsh_g zdk_589 (r := 46) (k := 1) rfl rfl rfl
theorem zd_589_188 : decode prog_10_method_39_code 188 = .ok (.bipush 41, 2) := zsh_g zdk_589 (r := 47) (k := 0) rfl rfl rfl
theorem zd_589_190 : decode prog_10_method_39_code 190 = .ok (.invokevirtual 175, 3) := zsh_g zdk_589 (r := 47) (k := 1) rfl rfl rfl
def zdl_590 : List (List (Nat × Instr × Nat)) := [[(0, (.iload_n 0), 1), (1, (.iload_n 1), 1), (2, (.iload_n 2), 1), (3, (.getstatic 1053), 3)], [(2, (.invokestatic 1065), 3)]]
theorem zdk_590 : zsh_all 8 zdl_590 prog_26_method_157_code.data.toList = true := by decide +kernel
theorem zd_590_0 : decode prog_26_method_157_code 0 = .ok (.iload_n 0, 1) := zsh_g zdk_590 (r := 0) (k := 0) rfl rfl rfl
theorem zd_590_1 : decode prog_26_method_157_code 1 = .ok (.iload_n 1, 1) := zsh_g zdk_590 (r := 0) (k := 1) rfl rfl rfl
theorem zd_590_2 : decode prog_26_method_157_code 2 = .ok (.iload_n 2, 1) := zsh_g zdk_590 (r := 0) (k := 2) rfl rfl rfl
theorem zd_590_3 : decode prog_26_method_157_code 3 = .ok (.getstatic 1053, 3) := zsh_g zdk_590 (r := 0) (k := 3) rfl rfl rfl
theorem zd_590_6 : decode prog_26_method_157_code 6 = .ok (.invokestatic 1065, 3) := zsh_g zdk_590 (r := 1) (k := 0) rfl rfl rfl
def zdl_591 : List (List (Nat × Instr × Nat)) := [[(0, (.aload_n 0), 1), (1, (.iconst 0), 1), (2, (.putfield 1247), 3)], [(1, (.aload_n 0), 1), (2, (.iconst 0), 1), (3, (.putfield 1234), 3)], [(2, (.aload_n 0), 1), (3, (.iconst (-1)), 1)], [(0, (.putfield 1237), 3), (3, (.aload_n 0), 1)], [(0, (.invokevirtual 1225), 3), (3, (.aload_n 0), 1)], [(0, (.invokevirtual 1222), 3), (3, (.bipush 45), 2)], [(1, (.if_icmp .ne 7), 3)], [(0, (.iconst 1), 1), (1, (.goto 4), 3)], [(0, (.iconst 0), 1), (1, (.istore_n 1), 1), (2, (.iload_n 1), 1), (3, (.ifCond .eq 13), 3)], [(2, (.aload_n 0), 1), (3, .dup, 1)], [(0, (.getfield 1219), 3), (3, (.iconst 1), 1)], [(0, .iadd, 1), (1, (.putfield 1219), 3)], [(0, (.iconst 1), 1), (1, (.istore_n 2), 1), (2, (.iload_n 2), 1), (3, (.ifCond .eq 168), 3)], [(2, (.aload_n 0), 1), (3, (.getfield 1228), 3)], [(2, (.ifCond .eq 161), 3)], [(1, (.aload_n 0), 1), (2, (.invokevirtual 1225), 3)], [(1, (.aload_n 0), 1), (2, (.invokevirtual 1222), 3)], [(1, (.invokestatic 553), 3)], [(0, (.ifCond .eq 11), 3), (3, (.aload_n 0), 1)], [(0, (.iload_n 1), 1), (1, (.invokevirtual 1250), 3)], [(0, (.goto 72), 3), (3, (.aload_n 0), 1)], [(0, (.invokevirtual 1254), 3), (3, (.istore_n 3), 1)], [(0, (.aload_n 0), 1), (1, (.iload_n 3), 1), (2, (.invokevirtual 1257), 3)], [(1, (.istore 4), 2), (3, (.aload_n 0), 1)], [(0, (.getfield 1228), 3), (3, (.ifCond .eq 46), 3)], [(2, (.iload 4), 2)], [(0, (.ifCond .lt 41), 3), (3, (.aload_n 0), 1)], [(0, (.iload_n 1), 1), (1, (.ifCond .eq 18), 3)], [(0, (.aload_n 0), 1), (1, (.getfield 1247), 3)], [(0, (.aload_n 0), 1), (1, (.getfield 365), 3)], [(0, (.iload 4), 2), (2, .iaload, 1), (3, .isub, 1)], [(0, (.goto 15), 3), (3, (.aload_n 0), 1)], [(0, (.getfield 1247), 3), (3, (.aload_n 0), 1)], [(0, (.getfield 365), 3), (3, (.iload 4), 2)], [(1, .iaload, 1), (2, .iadd, 1), (3, (.putfield 1247), 3)], [(2, (.goto 10), 3)], [(1, (.aload_n 0), 1), (2, (.iconst 1), 1), (3, (.iload_n 3), 1)], [(0, (.iload_n 1), 1), (1, (.invokevirtual 1242), 3)], [(0, (.aload_n 0), 1), (1, (.invokevirtual 1225), 3)], [(0, (.aload_n 0), 1), (1, (.invokevirtual 1222), 3)], [(0, (.bipush 43), 2), (2, (.if_icmp .eq 12), 3)], [(1, (.aload_n 0), 1), (2, (.invokevirtual 1222), 3)], [(1, (.bipush 45), 2), (3, (.if_icmp .ne 7), 3)], [(2, (.iconst 1), 1), (3, (.goto 4), 3)], [(2, (.iconst 0), 1), (3, (.istore_n 2), 1)], [(0, (.aload_n 0), 1), (1, (.invokevirtual 1222), 3)], [(0, (.bipush 45), 2), (2, (.if_icmp .ne 7), 3)], [(1, (.iconst 1), 1), (2, (.goto 4), 3)], [(1, (.iconst 0), 1), (2, (.istore_n 1), 1), (3, (.aload_n 0), 1)], [(0, (.iload_n 2), 1), (1, (.ifCond .eq 12), 3)], [(0, (.aload_n 0), 1), (1, (.getfield 1219), 3)], [(0, (.iconst 1), 1), (1, .iadd, 1), (2, (.goto 7), 3)], [(1, (.aload_n 0), 1), (2, (.getfield 1219), 3)], [(1, (.putfield 1219), 3)], [(0, (.goto (-166)), 3)]]
theorem zdk_591 : zsh_all 8 zdl_591 prog_14_method_119_code.data.toList = true := by decide +kernel
theorem zd_591_0 : decode prog_14_method_119_code 0 = .ok (.aload_n 0, 1) := zsh_g zdk_591 (r := 0) (k := 0) rfl rfl rfl
theorem zd_591_1 : decode prog_14_method_119_code 1 = .ok (.iconst 0, 1) := zsh_g zdk_591 (r := 0) (k := 1) rfl rfl rfl
theorem zd_591_2 : decode prog_14_method_119_code 2 = .ok (.putfield 1247, 3) := zsh_g zdk_591 (r := 0) (k := 2) rfl rfl rfl
theorem zd_591_5 : decode prog_14_method_119_code 5 = .ok (.aload_n 0, 1) := zsh_g zdk_591 (r := 1) (k := 0) rfl rfl rfl
theorem zd_591_6 : decode prog_14_method_119_code 6 = .ok (.iconst 0, 1) := zsh_g zdk_591 (r := 1) (k := 1) rfl rfl rfl
theorem zd_591_7 : decode prog_14_method_119_code 7 = .ok (.putfield 1234, 3) := zsh_g zdk_591 (r := 1) (k := 2) rfl rfl rfl
theorem zd_591_10 : decode prog_14_method_119_code 10 = .ok (.aload_n 0, 1) := zsh_g zdk_591 (r := 2) (k := 0) rfl rfl rfl
theorem zd_591_11 : decode prog_14_method_119_code 11 = .ok (.iconst (-1), 1) := zsh_g zdk_591 (r := 2) (k := 1) rfl rfl rfl
theorem zd_591_12 : decode prog_14_method_119_code 12 = .ok (.putfield 1237, 3) := zsh_g zdk_591 (r := 3) (k := 0) rfl rfl rfl
theorem zd_591_15 : decode prog_14_method_119_code 15 = .ok (.aload_n 0, 1) := zsh_g zdk_591 (r := 3) (k := 1) rfl rfl rfl
theorem zd_591_16 : decode prog_14_method_119_code 16 = .ok (.invokevirtual 1225, 3) := zsh_g zdk_591 (r := 4) (k := 0) rfl rfl rfl
theorem zd_591_19 : decode prog_14_method_119_code 19 = .ok (.aload_n 0, 1) := zsh_g zdk_591 (r := 4) (k := 1) rfl rfl rfl
theorem zd_591_20 : decode prog_14_method_119_code 20 = .ok (.invokevirtual 1222, 3) := zsh_g zdk_591 (r := 5) (k := 0) rfl rfl rfl
theorem zd_591_23 : decode prog_14_method_119_code 23 = .ok (.bipush 45, 2) := zsh_g zdk_591 (r := 5) (k := 1) rfl rfl rfl
theorem zd_591_25 : decode prog_14_method_119_code 25 = .ok (.if_icmp .ne 7, 3) := zsh_g zdk_591 (r := 6) (k := 0) rfl rfl rfl
theorem zd_591_28 : decode prog_14_method_119_code 28 = .ok (.iconst 1, 1) := zsh_g zdk_591 (r := 7) (k := 0) rfl rfl rfl
theorem zd_591_29 : decode prog_14_method_119_code 29 = .ok (.goto 4, 3) := zsh_g zdk_591 (r := 7) (k := 1) rfl rfl rfl
theorem zd_591_32 : decode prog_14_method_119_code 32 = .ok (.iconst 0, 1) := zsh_g zdk_591 (r := 8) (k := 0) rfl rfl rfl
theorem zd_591_33 : decode prog_14_method_119_code 33 = .ok (.istore_n 1, 1) := zsh_g zdk_591 (r := 8) (k := 1) rfl rfl rfl
theorem zd_591_34 : decode prog_14_method_119_code 34 = .ok (.iload_n 1, 1) := zsh_g zdk_591 (r := 8) (k := 2) rfl rfl rfl
theorem zd_591_35 : decode prog_14_method_119_code 35 = .ok (.ifCond .eq 13, 3) := zsh_g zdk_591 (r := 8) (k := 3) rfl rfl rfl
theorem zd_591_38 : decode prog_14_method_119_code 38 = .ok (.aload_n 0, 1) := zsh_g zdk_591 (r := 9) (k := 0) rfl rfl rfl
theorem zd_591_39 : decode prog_14_method_119_code 39 = .ok (.dup, 1) := zsh_g zdk_591 (r := 9) (k := 1) rfl rfl rfl
theorem zd_591_40 : decode prog_14_method_119_code 40 = .ok (.getfield 1219, 3) := zsh_g zdk_591 (r := 10) (k := 0) rfl rfl rfl
theorem zd_591_43 : decode prog_14_method_119_code 43 = .ok (.iconst 1, 1) := zsh_g zdk_591 (r := 10) (k := 1) rfl rfl rfl
theorem zd_591_44 : decode prog_14_method_119_code 44 = .ok (.iadd, 1) := zsh_g zdk_591 (r := 11) (k := 0) rfl rfl rfl
theorem zd_591_45 : decode prog_14_method_119_code 45 = .ok (.putfield 1219, 3) := zsh_g zdk_591 (r := 11) (k := 1) rfl rfl rfl
theorem zd_591_48 : decode prog_14_method_119_code 48 = .ok (.iconst 1, 1) := zsh_g zdk_591 (r := 12) (k := 0) rfl rfl rfl
theorem zd_591_49 : decode prog_14_method_119_code 49 = .ok (.istore_n 2, 1) := zsh_g zdk_591 (r := 12) (k := 1) rfl rfl rfl
theorem zd_591_50 : decode prog_14_method_119_code 50 = .ok (.iload_n 2, 1) := zsh_g zdk_591 (r := 12) (k := 2) rfl rfl rfl
theorem zd_591_51 : decode prog_14_method_119_code 51 = .ok (.ifCond .eq 168, 3) := zsh_g zdk_591 (r := 12) (k := 3) rfl rfl rfl
theorem zd_591_54 : decode prog_14_method_119_code 54 = .ok (.aload_n 0, 1) := zsh_g zdk_591 (r := 13) (k := 0) rfl rfl rfl
theorem zd_591_55 : decode prog_14_method_119_code 55 = .ok (.getfield 1228, 3) := zsh_g zdk_591 (r := 13) (k := 1) rfl rfl rfl
theorem zd_591_58 : decode prog_14_method_119_code 58 = .ok (.ifCond .eq 161, 3) := zsh_g zdk_591 (r := 14) (k := 0) rfl rfl rfl
theorem zd_591_61 : decode prog_14_method_119_code 61 = .ok (.aload_n 0, 1) := zsh_g zdk_591 (r := 15) (k := 0) rfl rfl rfl
theorem zd_591_62 : decode prog_14_method_119_code 62 = .ok (.invokevirtual 1225, 3) := zsh_g zdk_591 (r := 15) (k := 1) rfl rfl rfl
theorem zd_591_65 : decode prog_14_method_119_code 65 = .ok (.aload_n 0, 1) := zsh_g zdk_591 (r := 16) (k := 0) rfl rfl rfl
theorem zd_591_66 : decode prog_14_method_119_code 66 = .ok (.invokevirtual 1222, 3) := zsh_g zdk_591 (r := 16) (k := 1) rfl rfl rfl
theorem zd_591_69 : decode prog_14_method_119_code 69 = .ok (.invokestatic 553, 3) := zsh_g zdk_591 (r := 17) (k := 0) rfl rfl rfl
theorem zd_591_72 : decode prog_14_method_119_code 72 = .ok (.ifCond .eq 11, 3) := zsh_g zdk_591 (r := 18) (k := 0) rfl rfl rfl
theorem zd_591_75 : decode prog_14_method_119_code 75 = .ok (.aload_n 0, 1) := zsh_g zdk_591 (r := 18) (k := 1) rfl rfl rfl
theorem zd_591_76 : decode prog_14_method_119_code 76 = .ok (.iload_n 1, 1) := zsh_g zdk_591 (r := 19) (k := 0) rfl rfl rfl
theorem zd_591_77 : decode prog_14_method_119_code 77 = .ok (.invokevirtual 1250, 3) := zsh_g zdk_591 (r := 19) (k := 1) rfl rfl rfl
theorem zd_591_80 : decode prog_14_method_119_code 80 = .ok (.goto 72, 3) := zsh_g zdk_591 (r := 20) (k := 0) rfl rfl rfl
theorem zd_591_83 : decode prog_14_method_119_code 83 = .ok (.aload_n 0, 1) := zsh_g zdk_591 (r := 20) (k := 1) rfl rfl rfl
theorem zd_591_84 : decode prog_14_method_119_code 84 = .ok (.invokevirtual 1254, 3) := zsh_g zdk_591 (r := 21) (k := 0) rfl rfl rfl
theorem zd_591_87 : decode prog_14_method_119_code 87 = .ok (.istore_n 3, 1) := zsh_g zdk_591 (r := 21) (k := 1) rfl rfl rfl
theorem zd_591_88 : decode prog_14_method_119_code 88 = .ok (.aload_n 0, 1) := zsh_g zdk_591 (r := 22) (k := 0) rfl rfl rfl
theorem zd_591_89 : decode prog_14_method_119_code 89 = .ok (.iload_n 3, 1) := zsh_g zdk_591 (r := 22) (k := 1) rfl rfl rfl
theorem zd_591_90 : decode prog_14_method_119_code 90 = .ok (.invokevirtual 1257, 3) := zsh_g zdk_591 (r := 22) (k := 2) rfl rfl rfl
theorem zd_591_93 : decode prog_14_method_119_code 93 = .ok (.istore 4, 2) := zsh_g zdk_591 (r := 23) (k := 0) rfl rfl rfl
theorem zd_591_95 : decode prog_14_method_119_code 95 = .ok (.aload_n 0, 1) := zsh_g zdk_591 (r := 23) (k := 1) rfl rfl rfl
theorem zd_591_96 : decode prog_14_method_119_code 96 = .ok (.getfield 1228, 3) := zsh_g zdk_591 (r := 24) (k := 0) rfl rfl rfl
theorem zd_591_99 : decode prog_14_method_119_code 99 = .ok (.ifCond .eq 46, 3) := zsh_g zdk_591 (r := 24) (k := 1) rfl rfl rfl
theorem zd_591_102 : decode prog_14_method_119_code 102 = .ok (.iload 4, 2) := zsh_g zdk_591 (r := 25) (k := 0) rfl rfl rfl
theorem zd_591_104 : decode prog_14_method_119_code 104 = .ok (.ifCond .lt 41, 3) := zsh_g zdk_591 (r := 26) (k := 0) rfl rfl rfl
theorem zd_591_107 : decode prog_14_method_119_code 107 = .ok (.aload_n 0, 1) := zsh_g zdk_591 (r := 26) (k := 1) rfl rfl rfl
theorem zd_591_108 : decode prog_14_method_119_code 108 = .ok (.iload_n 1, 1) := zsh_g zdk_591 (r := 27) (k := 0) rfl rfl rfl
theorem zd_591_109 : decode prog_14_method_119_code 109 = .ok (.ifCond .eq 18, 3) := zsh_g zdk_591 (r := 27) (k := 1) rfl rfl rfl
theorem zd_591_112 : decode prog_14_method_119_code 112 = .ok (.aload_n 0, 1) := zsh_g zdk_591 (r := 28) (k := 0) rfl rfl rfl
theorem zd_591_113 : decode prog_14_method_119_code 113 = .ok (.getfield 1247, 3) := zsh_g zdk_591 (r := 28) (k := 1) rfl rfl rfl
theorem zd_591_116 : decode prog_14_method_119_code 116 = .ok (.aload_n 0, 1) := zsh_g zdk_591 (r := 29) (k := 0) rfl rfl rfl
theorem zd_591_117 : decode prog_14_method_119_code 117 = .ok (.getfield 365, 3) := zsh_g zdk_591 (r := 29) (k := 1) rfl rfl rfl
theorem zd_591_120 : decode prog_14_method_119_code 120 = .ok (.iload 4, 2) := zsh_g zdk_591 (r := 30) (k := 0) rfl rfl rfl
theorem zd_591_122 : decode prog_14_method_119_code 122 = .ok (.iaload, 1) := zsh_g zdk_591 (r := 30) (k := 1) rfl rfl rfl
theorem zd_591_123 : decode prog_14_method_119_code 123 = .ok (.isub, 1) := zsh_g zdk_591 (r := 30) (k := 2) rfl rfl rfl
theorem zd_591_124 : decode prog_14_method_119_code 124 = .ok (.goto 15, 3) := zsh_g zdk_591 (r := 31) (k := 0) rfl rfl rfl
theorem zd_591_127 : decode prog_14_method_119_code 127 = .ok (.aload_n 0, 1) := zsh_g zdk_591 (r := 31) (k := 1) rfl rfl rfl
theorem zd_591_128 : decode prog_14_method_119_code 128 = .ok (.getfield 1247, 3) := zsh_g zdk_591 (r := 32) (k := 0) rfl rfl rfl
theorem zd_591_131 : decode prog_14_method_119_code 131 = .ok (.aload_n 0, 1) := zsh_g zdk_591 (r := 32) (k := 1) rfl rfl rfl
theorem zd_591_132 : decode prog_14_method_119_code 132 = .ok (.getfield 365, 3) := zsh_g zdk_591 (r := 33) (k := 0) rfl rfl rfl
theorem zd_591_135 : decode prog_14_method_119_code 135 = .ok (.iload 4, 2) := zsh_g zdk_591 (r := 33) (k := 1) rfl rfl rfl
theorem zd_591_137 : decode prog_14_method_119_code 137 = .ok (.iaload, 1) := zsh_g zdk_591 (r := 34) (k := 0) rfl rfl rfl
theorem zd_591_138 : decode prog_14_method_119_code 138 = .ok (.iadd, 1) := zsh_g zdk_591 (r := 34) (k := 1) rfl rfl rfl
theorem zd_591_139 : decode prog_14_method_119_code 139 = .ok (.putfield 1247, 3) := zsh_g zdk_591 (r := 34) (k := 2) rfl rfl rfl
theorem zd_591_142 : decode prog_14_method_119_code 142 = .ok (.goto 10, 3) := zsh_g zdk_591 (r := 35) (k := 0) rfl rfl rfl
theorem zd_591_145 : decode prog_14_method_119_code 145 = .ok (.aload_n 0, 1) := zsh_g zdk_591 (r := 36) (k := 0) rfl rfl rfl
theorem zd_591_146 : decode prog_14_method_119_code 146 = .ok (.iconst 1, 1) := zsh_g zdk_591 (r := 36) (k := 1) rfl rfl rfl
theorem zd_591_147 : decode prog_14_method_119_code 147 = .ok (.iload_n 3, 1) := zsh_g zdk_591 (r := 36) (k := 2) rfl rfl rfl
theorem zd_591_148 : decode prog_14_method_119_code 148 = .ok (.iload_n 1, 1) := zsh_g zdk_591 (r := 37) (k := 0) rfl rfl rfl
theorem zd_591_149 : decode prog_14_method_119_code 149 = .ok (.invokevirtual 1242, 3) := zsh_g zdk_591 (r := 37) (k := 1) rfl rfl rfl
theorem zd_591_152 : decode prog_14_method_119_code 152 = .ok (.aload_n 0, 1) := zsh_g zdk_591 (r := 38) (k := 0) rfl rfl rfl
theorem zd_591_153 : decode prog_14_method_119_code 153 = .ok (.invokevirtual 1225, 3) := zsh_g zdk_591 (r := 38) (k := 1) rfl rfl rfl
theorem zd_591_156 : decode prog_14_method_119_code 156 = .ok (.aload_n 0, 1) := zsh_g zdk_591 (r := 39) (k := 0) rfl rfl rfl
theorem zd_591_157 : decode prog_14_method_119_code 157 = .ok (.invokevirtual 1222, 3) := zsh_g zdk_591 (r := 39) (k := 1) rfl rfl rfl
theorem zd_591_160 : decode prog_14_method_119_code 160 = .ok (.bipush 43, 2) := zsh_g zdk_591 (r := 40) (k := 0) rfl rfl rfl
theorem zd_591_162 : decode prog_14_method_119_code 162 = .ok (.if_icmp .eq 12, 3) := zsh_g zdk_591 (r := 40) (k := 1) rfl rfl rfl
theorem zd_591_165 : decode prog_14_method_119_code 165 = .ok (.aload_n 0, 1) := zsh_g zdk_591 (r := 41) (k := 0) rfl rfl rfl
theorem zd_591_166 : decode prog_14_method_119_code 166 = .ok (.invokevirtual 1222, 3) := zsh_g zdk_591 (r := 41) (k := 1) rfl rfl rfl
theorem zd_591_169 : decode prog_14_method_119_code 169 = .ok (.bipush 45, 2) := zsh_g zdk_591 (r := 42) (k := 0) rfl rfl rfl
theorem zd_591_171 : decode prog_14_method_119_code 171 = .ok (.if_icmp .ne 7, 3) := zsh_g zdk_591 (r := 42) (k := 1) rfl rfl rfl
theorem zd_591_174 : decode prog_14_method_119_code 174 = .ok (.iconst 1, 1) := zsh_g zdk_591 (r := 43) (k := 0) rfl rfl rfl
theorem zd_591_175 : decode prog_14_method_119_code 175 = .ok (.goto 4, 3) := zsh_g zdk_591 (r := 43) (k := 1) rfl rfl rfl
theorem zd_591_178 : decode prog_14_method_119_code 178 = .ok (.iconst 0, 1) := zsh_g zdk_591 (r := 44) (k := 0) rfl rfl rfl
theorem zd_591_179 : decode prog_14_method_119_code 179 = .ok (.istore_n 2, 1) := zsh_g zdk_591 (r := 44) (k := 1) rfl rfl rfl
theorem zd_591_180 : decode prog_14_method_119_code 180 = .ok (.aload_n 0, 1) := zsh_g zdk_591 (r := 45) (k := 0) rfl rfl rfl
theorem zd_591_181 : decode prog_14_method_119_code 181 = .ok (.invokevirtual 1222, 3) := zsh_g zdk_591 (r := 45) (k := 1) rfl rfl rfl
theorem zd_591_184 : decode prog_14_method_119_code 184 = .ok (.bipush 45, 2) := zsh_g zdk_591 (r := 46) (k := 0) rfl rfl rfl
theorem zd_591_186 : decode prog_14_method_119_code 186 = .ok (.if_icmp .ne 7, 3) := zsh_g zdk_591 (r := 46) (k := 1) rfl rfl rfl
theorem zd_591_189 : decode prog_14_method_119_code 189 = .ok (.iconst 1, 1) := zsh_g zdk_591 (r := 47) (k := 0) rfl rfl rfl
theorem zd_591_190 : decode prog_14_method_119_code 190 = .ok (.goto 4, 3) := zsh_g zdk_591 (r := 47) (k := 1) rfl rfl rfl
theorem zd_591_193 : decode prog_14_method_119_code 193 = .ok (.iconst 0, 1) := zsh_g zdk_591 (r := 48) (k := 0) rfl rfl rfl
theorem zd_591_194 : decode prog_14_method_119_code 194 = .ok (.istore_n 1, 1) := zsh_g zdk_591 (r := 48) (k := 1) rfl rfl rfl
theorem zd_591_195 : decode prog_14_method_119_code 195 = .ok (.aload_n 0, 1) := zsh_g zdk_591 (r := 48) (k := 2) rfl rfl rfl
theorem zd_591_196 : decode prog_14_method_119_code 196 = .ok (.iload_n 2, 1) := zsh_g zdk_591 (r := 49) (k := 0) rfl rfl rfl
theorem zd_591_197 : decode prog_14_method_119_code 197 = .ok (.ifCond .eq 12, 3) := zsh_g zdk_591 (r := 49) (k := 1) rfl rfl rfl
theorem zd_591_200 : decode prog_14_method_119_code 200 = .ok (.aload_n 0, 1) := zsh_g zdk_591 (r := 50) (k := 0) rfl rfl rfl
theorem zd_591_201 : decode prog_14_method_119_code 201 = .ok (.getfield 1219, 3) := zsh_g zdk_591 (r := 50) (k := 1) rfl rfl rfl
theorem zd_591_204 : decode prog_14_method_119_code 204 = .ok (.iconst 1, 1) := zsh_g zdk_591 (r := 51) (k := 0) rfl rfl rfl
theorem zd_591_205 : decode prog_14_method_119_code 205 = .ok (.iadd, 1) := zsh_g zdk_591 (r := 51) (k := 1) rfl rfl rfl
theorem zd_591_206 : decode prog_14_method_119_code 206 = .ok (.goto 7, 3) := zsh_g zdk_591 (r := 51) (k := 2) rfl rfl rfl
theorem zd_591_209 : decode prog_14_method_119_code 209 = .ok (.aload_n 0, 1) := zsh_g zdk_591 (r := 52) (k := 0) rfl rfl rfl
theorem zd_591_210 : decode prog_14_method_119_code 210 = .ok (.getfield 1219, 3) := zsh_g zdk_591 (r := 52) (k := 1) rfl rfl rfl
theorem zd_591_213 : decode prog_14_method_119_code 213 = .ok (.putfield 1219, 3) := zsh_g zdk_591 (r := 53) (k := 0) rfl rfl rfl
theorem zd_591_216 : decode prog_14_method_119_code 216 = .ok (.goto (-166), 3) := zsh_g zdk_591 (r := 54) (k := 0) rfl rfl rfl
def zdl_592 : List (List (Nat × Instr × Nat)) := [[(0, (.aload_n 0), 1), (1, (.getfield 431), 3)], [(0, (.aload_n 0), 1), (1, (.getfield 1260), 3)], [(0, (.aload_n 0), 1), (1, (.getfield 1247), 3)], [(0, .iastore, 1), (1, (.aload_n 0), 1), (2, (.getfield 434), 3)], [(1, (.aload_n 0), 1), (2, (.getfield 1260), 3)], [(1, (.aload_n 0), 1), (2, (.getfield 1234), 3)], [(1, .iastore, 1), (2, (.aload_n 0), 1), (3, (.getfield 437), 3)], [(2, (.aload_n 0), 1), (3, (.getfield 1260), 3)], [(2, (.aload_n 0), 1), (3, (.getfield 1237), 3)], [(2, .iastore, 1), (3, (.aload_n 0), 1)], [(0, (.getfield 440), 3), (3, (.aload_n 0), 1)], [(0, (.getfield 1260), 3), (3, (.iload_n 1), 1)], [(0, .iastore, 1), (1, (.aload_n 0), 1), (2, .dup, 1), (3, (.getfield 1260), 3)], [(2, (.iconst 1), 1), (3, .iadd, 1)], [(0, (.putfield 1260), 3)]]
theorem zdk_592 : zsh_all 8 zdl_592 prog_14_method_120_code.data.toList = true := by decide +kernel
theorem zd_592_0 : decode prog_14_method_120_code 0 = .ok (.aload_n 0, 1) := zsh_g zdk_592 (r := 0) (k := 0) rfl rfl rfl
theorem zd_592_1 : decode prog_14_method_120_code 1 = .ok (.getfield 431, 3) := zsh_g zdk_592 (r := 0) (k := 1) rfl rfl rfl
theorem zd_592_4 : decode prog_14_method_120_code 4 = .ok (.aload_n 0, 1) := zsh_g zdk_592 (r := 1) (k := 0) rfl rfl rfl
theorem zd_592_5 : decode prog_14_method_120_code 5 = .ok (.getfield 1260, 3) := zsh_g zdk_592 (r := 1) (k := 1) rfl rfl rfl
theorem zd_592_8 : decode prog_14_method_120_code 8 = .ok (.aload_n 0, 1) := zsh_g zdk_592 (r := 2) (k := 0) rfl rfl rfl
theorem zd_592_9 : decode prog_14_method_120_code 9 = .ok (.getfield 1247, 3) := zsh_g zdk_592 (r := 2) (k := 1) rfl rfl rfl
theorem zd_592_12 : decode prog_14_method_120_code 12 = .ok (.iastore, 1) := zsh_g zdk_592 (r := 3) (k := 0) rfl rfl rfl
theorem zd_592_13 : decode prog_14_method_120_code 13 = .ok (.aload_n 0, 1) := zsh_g zdk_592 (r := 3) (k := 1) rfl rfl rfl
theorem zd_592_14 : decode prog_14_method_120_code 14 = .ok (.getfield 434, 3) := zsh_g zdk_592 (r := 3) (k := 2) rfl rfl rfl
theorem zd_592_17 : decode prog_14_method_120_code 17 = .ok (.aload_n 0, 1) := zsh_g zdk_592 (r := 4) (k := 0) rfl rfl rfl
theorem zd_592_18 : decode prog_14_method_120_code 18 = .ok (.getfield 1260, 3) := zsh_g zdk_592 (r := 4) (k := 1) rfl rfl rfl
theorem zd_592_21 : decode prog_14_method_120_code 21 = .ok (.aload_n 0, 1) := zsh_g zdk_592 (r := 5) (k := 0) rfl rfl rfl
theorem zd_592_22 : decode prog_14_method_120_code 22 = .ok (.getfield 1234, 3) := zsh_g zdk_592 (r := 5) (k := 1) rfl rfl rfl
theorem zd_592_25 : decode prog_14_method_120_code 25 = .ok (.iastore, 1) := zsh_g zdk_592 (r := 6) (k := 0) rfl rfl rfl
theorem zd_592_26 : decode prog_14_method_120_code 26 = .ok (.aload_n 0, 1) := zsh_g zdk_592 (r := 6) (k := 1) rfl rfl rfl
theorem zd_592_27 : decode prog_14_method_120_code 27 = .ok (.getfield 437, 3) := zsh_g zdk_592 (r := 6) (k := 2) rfl rfl rfl
theorem zd_592_30 : decode prog_14_method_120_code 30 = .ok (.aload_n 0, 1) := zsh_g zdk_592 (r := 7) (k := 0) rfl rfl rfl
theorem zd_592_31 : decode prog_14_method_120_code 31 = .ok (.getfield 1260, 3) := zsh_g zdk_592 (r := 7) (k := 1) rfl rfl rfl
theorem zd_592_34 : decode prog_14_method_120_code 34 = .ok (.aload_n 0, 1) := zsh_g zdk_592 (r := 8) (k := 0) rfl rfl rfl
theorem zd_592_35 : decode prog_14_method_120_code 35 = .ok (.getfield 1237, 3) := zsh_g zdk_592 (r := 8) (k := 1) rfl rfl rfl
theorem zd_592_38 : decode prog_14_method_120_code 38 = .ok (.iastore, 1) := zsh_g zdk_592 (r := 9) (k := 0) rfl rfl rfl
theorem zd_592_39 : decode prog_14_method_120_code 39 = .ok (.aload_n 0, 1) := zsh_g zdk_592 (r := 9) (k := 1) rfl rfl rfl
theorem zd_592_40 : decode prog_14_method_120_code 40 = .ok (.getfield 440, 3) := zsh_g zdk_592 (r := 10) (k := 0) rfl rfl rfl
theorem zd_592_43 : decode prog_14_method_120_code 43 = .ok (.aload_n 0, 1) := zsh_g zdk_592 (r := 10) (k := 1) rfl rfl rfl
theorem zd_592_44 : decode prog_14_method_120_code 44 = .ok (.getfield 1260, 3) := zsh_g zdk_592 (r := 11) (k := 0) rfl rfl rfl
theorem zd_592_47 : decode prog_14_method_120_code 47 = .ok (.iload_n 1, 1) := zsh_g zdk_592 (r := 11) (k := 1) rfl rfl rfl
theorem zd_592_48 : decode prog_14_method_120_code 48 = .ok (.iastore, 1) := zsh_g zdk_592 (r := 12) (k := 0) rfl rfl rfl
theorem zd_592_49 : decode prog_14_method_120_code 49 = .ok (.aload_n 0, 1) := zsh_g zdk_592 (r := 12) (k := 1) rfl rfl rfl
theorem zd_592_50 : decode prog_14_method_120_code 50 = .ok (.dup, 1) := zsh_g zdk_592 (r := 12) (k := 2) rfl rfl rfl
theorem zd_592_51 : decode prog_14_method_120_code 51 = .ok (.getfield 1260, 3) := zsh_g zdk_592 (r := 12) (k := 3) rfl rfl rfl
theorem zd_592_54 : decode prog_14_method_120_code 54 = .ok (.iconst 1, 1) := zsh_g zdk_592 (r := 13) (k := 0) rfl rfl rfl
theorem zd_592_55 : decode prog_14_method_120_code 55 = .ok (.iadd, 1) := zsh_g zdk_592 (r := 13) (k := 1) rfl rfl rfl
theorem zd_592_56 : decode prog_14_method_120_code 56 = .ok (.putfield 1260, 3) := zsh_g zdk_592 (r := 14) (k := 0) rfl rfl rfl
def zdl_593 : List (List (Nat × Instr × Nat)) := [[(0, (.iconst 0), 1), (1, (.istore_n 2), 1), (2, (.iload_n 2), 1), (3, (.bipush 32), 2)], [(1, (.if_icmp .ge 16), 3)], [(0, (.aload_n 0), 1), (1, (.iload_n 1), 1), (2, (.iload_n 2), 1), (3, .ishr, 1)], [(0, (.invokevirtual 1278), 3), (3, (.iinc 2 8), 3)], [(2, (.goto (-16)), 3)]]
theorem zdk_593 : zsh_all 8 zdl_593 prog_14_method_125_code.data.toList = true := by decide +kernel
theorem zd_593_0 : decode prog_14_method_125_code 0 = .ok (.iconst 0, 1) := zsh_g zdk_593 (r := 0) (k := 0) rfl rfl rfl
theorem zd_593_1 : decode prog_14_method_125_code 1 = .ok (.istore_n 2, 1) := zsh_g zdk_593 (r := 0) (k := 1) rfl rfl rfl
theorem zd_593_2 : decode prog_14_method_125_code 2 = .ok (.iload_n 2, 1) := zsh_g zdk_593 (r := 0) (k := 2) rfl rfl rfl
theorem zd_593_3 : decode prog_14_method_125_code 3 = .ok (.bipush 32, 2) := zsh_g zdk_593 (r := 0) (k := 3) rfl rfl rfl
theorem zd_593_5 : decode prog_14_method_125_code 5 = .ok (.if_icmp .ge 16, 3) := zsh_g zdk_593 (r := 1) (k := 0) rfl rfl rfl
theorem zd_593_8 : decode prog_14_method_125_code 8 = .ok (.aload_n 0, 1) := zsh_g zdk_593 (r := 2) (k := 0) rfl rfl rfl
theorem zd_593_9 : decode prog_14_method_125_code 9 = .ok (.iload_n 1, 1) := zsh_g zdk_593 (r := 2) (k := 1) rfl rfl rfl
theorem zd_593_10 : decode prog_14_method_125_code 10 = .ok (.iload_n 2, 1) := zsh_g zdk_593 (r := 2) (k := 2) rfl rfl rfl
theorem zd_593_11 : decode prog_14_method_125_code 11 = .ok (.ishr, 1) := zsh_g zdk_593 (r := 2) (k := 3) rfl rfl rfl
theorem zd_593_12 : decode prog_14_method_125_code 12 = .ok (.invokevirtual 1278, 3) := zsh_g zdk_593 (r := 3) (k := 0) rfl rfl rfl
theorem zd_593_15 : decode prog_14_method_125_code 15 = .ok (.iinc 2 8, 3) := zsh_g zdk_593 (r := 3) (k := 1) rfl rfl rfl
theorem zd_593_18 : decode prog_14_method_125_code 18 = .ok (.goto (-16), 3) := zsh_g zdk_593 (r := 4) (k := 0) rfl rfl rfl
def zdl_594 : List (List (Nat × Instr × Nat)) := [[(0, (.aload_n 0), 1), (1, (.invokevirtual 245), 3)], [(0, (.istore_n 2), 1), (1, (.aload_n 0), 1), (2, (.invokevirtual 73), 3)], [(1, (.aload_n 0), 1), (2, (.invokevirtual 69), 3)], [(1, (.bipush 40), 2), (3, (.if_icmp .ne 23), 3)], [(2, (.aload_n 0), 1), (3, (.iload_n 2), 1)], [(0, (.iload_n 1), 1), (1, (.invokevirtual 248), 3)], [(0, (.aload_n 0), 1), (1, (.getfield 36), 3)], [(0, (.bipush 10), 2), (2, (.iload_n 1), 1), (3, (.iload_n 2), 1)], [(0, (.invokevirtual 169), 3), (3, (.goto 43), 3)], [(2, (.aload_n 0), 1), (3, (.invokevirtual 69), 3)], [(2, (.bipush 91), 2)], [(0, (.if_icmp .ne 23), 3), (3, (.aload_n 0), 1)], [(0, (.iload_n 2), 1), (1, (.iload_n 1), 1), (2, (.invokevirtual 252), 3)], [(1, (.aload_n 0), 1), (2, (.getfield 36), 3)], [(1, (.bipush 9), 2), (3, (.iload_n 1), 1)], [(0, (.iload_n 2), 1), (1, (.invokevirtual 169), 3)], [(0, (.goto 14), 3), (3, (.aload_n 0), 1)], [(0, (.getfield 36), 3), (3, (.bipush 7), 2)], [(1, (.iload_n 1), 1), (2, (.iload_n 2), 1), (3, (.invokevirtual 169), 3)]]
theorem zdk_594 : zsh_all 8 zdl_594 prog_10_method_40_code.data.toList = true := by decide +kernel
theorem zd_594_0 : decode prog_10_method_40_code 0 = .ok (.aload_n 0, 1) := zsh_g zdk_594 (r := 0) (k := 0) rfl rfl rfl
theorem zd_594_1 : decode prog_10_method_40_code 1 = .ok (.invokevirtual 245, 3) := zsh_g zdk_594 (r := 0) (k := 1) rfl rfl rfl
theorem zd_594_4 : decode prog_10_method_40_code 4 = .ok (.istore_n 2, 1) := zsh_g zdk_594 (r := 1) (k := 0) rfl rfl rfl
theorem zd_594_5 : decode prog_10_method_40_code 5 = .ok (.aload_n 0, 1) := zsh_g zdk_594 (r := 1) (k := 1) rfl rfl rfl
theorem zd_594_6 : decode prog_10_method_40_code 6 = .ok (.invokevirtual 73, 3) := zsh_g zdk_594 (r := 1) (k := 2) rfl rfl rfl
theorem zd_594_9 : decode prog_10_method_40_code 9 = .ok (.aload_n 0, 1) := zsh_g zdk_594 (r := 2) (k := 0) rfl rfl rfl
theorem zd_594_10 : decode prog_10_method_40_code 10 = .ok (.invokevirtual 69, 3) := zsh_g zdk_594 (r := 2) (k := 1) rfl rfl rfl
theorem zd_594_13 : decode prog_10_method_40_code 13 = .ok (.bipush 40, 2) := zsh_g zdk_594 (r := 3) (k := 0) rfl rfl rfl
theorem zd_594_15 : decode prog_10_method_40_code 15 = .ok (.if_icmp .ne 23, 3) := zsh_g zdk_594 (r := 3) (k := 1) rfl rfl rfl
theorem zd_594_18 : decode prog_10_method_40_code 18 = .ok (.aload_n 0, 1) := zsh_g zdk_594 (r := 4) (k := 0) rfl rfl rfl
theorem zd_594_19 : decode prog_10_method_40_code 19 = .ok (.iload_n 2, 1) := zsh_g zdk_594 (r := 4) (k := 1) rfl rfl rfl
theorem zd_594_20 : decode prog_10_method_40_code 20 = .ok (.iload_n 1, 1) := zsh_g zdk_594 (r := 5) (k := 0) rfl rfl rfl
theorem zd_594_21 : decode prog_10_method_40_code 21 = .ok (.invokevirtual 248, 3) := zsh_g zdk_594 (r := 5) (k := 1) rfl rfl rfl
theorem zd_594_24 : decode prog_10_method_40_code 24 = .ok (.aload_n 0, 1) := zsh_g zdk_594 (r := 6) (k := 0) rfl rfl rfl
theorem zd_594_25 : decode prog_10_method_40_code 25 = .ok (.getfield 36, 3) := zsh_g zdk_594 (r := 6) (k := 1) rfl rfl rfl
theorem zd_594_28 : decode prog_10_method_40_code 28 = .ok (.bipush 10, 2) := zsh_g zdk_594 (r := 7) (k := 0) rfl rfl rfl
theorem zd_594_30 : decode prog_10_method_40_code 30 = .ok (.iload_n 1, 1) := zsh_g zdk_594 (r := 7) (k := 1) rfl rfl rfl
theorem zd_594_31 : decode prog_10_method_40_code 31 = .ok (.iload_n 2, 1) := zsh_g zdk_594 (r := 7) (k := 2) rfl rfl rfl
theorem zd_594_32 : decode prog_10_method_40_code 32 = .ok (.invokevirtual 169, 3) := zsh_g zdk_594 (r := 8) (k := 0) rfl rfl rfl
theorem zd_594_35 : decode prog_10_method_40_code 35 = .ok (.goto 43, 3) := zsh_g zdk_594 (r := 8) (k := 1) rfl rfl rfl
theorem zd_594_38 : decode prog_10_method_40_code 38 = .ok (.aload_n 0, 1) := zsh_g zdk_594 (r := 9) (k := 0) rfl rfl rfl
theorem zd_594_39 : decode prog_10_method_40_code 39 = .ok (.invokevirtual 69, 3) := zsh_g zdk_594 (r := 9) (k := 1) rfl rfl rfl
theorem zd_594_42 : decode prog_10_method_40_code 42 = .ok (.bipush 91, 2) := zsh_g zdk_594 (r := 10) (k := 0) rfl rfl rfl
theorem zd_594_44 : decode prog_10_method_40_code 44 = .ok (.if_icmp .ne 23, 3) := zsh_g zdk_594 (r := 11) (k := 0) rfl rfl rfl
theorem zd_594_47 : decode prog_10_method_40_code 47 = .ok (.aload_n 0, 1) := zsh_g zdk_594 (r := 11) (k := 1) rfl rfl rfl
theorem zd_594_48 : decode prog_10_method_40_code 48 = .ok (.iload_n 2, 1) := zsh_g zdk_594 (r := 12) (k := 0) rfl rfl rfl
theorem zd_594_49 : decode prog_10_method_40_code 49 = .ok (.iload_n 1, 1) := zsh_g zdk_594 (r := 12) (k := 1) rfl rfl rfl
theorem zd_594_50 : decode prog_10_method_40_code 50 = .ok (.invokevirtual 252, 3) := zsh_g zdk_594 (r := 12) (k := 2) rfl rfl rfl
theorem zd_594_53 : decode prog_10_method_40_code 53 = .ok (.aload_n 0, 1) := zsh_g zdk_594 (r := 13) (k := 0) rfl rfl rfl
theorem zd_594_54 : decode prog_10_method_40_code 54 = .ok (.getfield 36, 3) := zsh_g zdk_594 (r := 13) (k := 1) rfl rfl rfl
theorem zd_594_57 : decode prog_10_method_40_code 57 = .ok (.bipush 9, 2) := zsh_g zdk_594 (r := 14) (k := 0) rfl rfl rfl
theorem zd_594_59 : decode prog_10_method_40_code 59 = .ok (.iload_n 1, 1) := zsh_g zdk_594 (r := 14) (k := 1) rfl rfl rfl
theorem zd_594_60 : decode prog_10_method_40_code 60 = .ok (.iload_n 2, 1) := zsh_g zdk_594 (r := 15) (k := 0) rfl rfl rfl
theorem zd_594_61 : decode prog_10_method_40_code 61 = .ok (.invokevirtual 169, 3) := zsh_g zdk_594 (r := 15) (k := 1) rfl rfl rfl
theorem zd_594_64 : decode prog_10_method_40_code 64 = .ok (.goto 14, 3) := zsh_g zdk_594 (r := 16) (k := 0) rfl rfl rfl
theorem zd_594_67 : decode prog_10_method_40_code 67 = .ok (.aload_n 0, 1) := zsh_g zdk_594 (r := 16) (k := 1) rfl rfl rfl
theorem zd_594_68 : decode prog_10_method_40_code 68 = .ok (.getfield 36, 3) := zsh_g zdk_594 (r := 17) (k := 0) rfl rfl rfl
theorem zd_594_71 : decode prog_10_method_40_code 71 = .ok (.bipush 7, 2) := zsh_g zdk_594 (r := 17) (k := 1) rfl rfl rfl
theorem zd_594_73 : decode prog_10_method_40_code 73 = .ok (.iload_n 1, 1) := zsh_g zdk_594 (r := 18) (k := 0) rfl rfl rfl
theorem zd_594_74 : decode prog_10_method_40_code 74 = .ok (.iload_n 2, 1) := zsh_g zdk_594 (r := 18) (k := 1) rfl rfl rfl
theorem zd_594_75 : decode prog_10_method_40_code 75 = .ok (.invokevirtual 169, 3) := zsh_g zdk_594 (r := 18) (k := 2) rfl rfl rfl
def zdl_595 : List (List (Nat × Instr × Nat)) := [[(0, (.iload_n 2), 1), (1, (.iload_n 0), 1), (2, .ior, 1), (3, (.iload_n 1), 1)], [(0, .ior, 1), (1, (.ifCond .lt 10), 3)], [(0, (.iload_n 1), 1), (1, (.iload_n 2), 1), (2, (.iload_n 0), 1), (3, .isub, 1)], [(0, (.if_icmp .le 11), 3), (3, (.aload_n 3), 1)], [(0, (.iload_n 0), 1), (1, (.iload_n 1), 1), (2, (.iload_n 2), 1)], [(3, (.iload_n 0), 1)]]
theorem zdk_595 : zsh_all 8 zdl_595 prog_37_method_13_code.data.toList = true := by decide +kernel
theorem zd_595_0 : decode prog_37_method_13_code 0 = .ok (.iload_n 2, 1) := zsh_g zdk_595 (r := 0) (k := 0) rfl rfl rfl
theorem zd_595_1 : decode prog_37_method_13_code 1 = .ok (.iload_n 0, 1) := zsh_g zdk_595 (r := 0) (k := 1) rfl rfl rfl
theorem zd_595_2 : decode prog_37_method_13_code 2 = .ok (.ior, 1) := zsh_g zdk_595 (r := 0) (k := 2) rfl rfl rfl
theorem zd_595_3 : decode prog_37_method_13_code 3 = .ok (.iload_n 1, 1) := zsh_g zdk_595 (r := 0) (k := 3) rfl rfl rfl
theorem zd_595_4 : decode prog_37_method_13_code 4 = .ok (.ior, 1) := zsh_g zdk_595 (r := 1) (k := 0) rfl rfl rfl
theorem zd_595_5 : decode prog_37_method_13_code 5 = .ok (.ifCond .lt 10, 3) := zsh_g zdk_595 (r := 1) (k := 1) rfl rfl rfl
theorem zd_595_8 : decode prog_37_method_13_code 8 = .ok (.iload_n 1, 1) := zsh_g zdk_595 (r := 2) (k := 0) rfl rfl rfl
theorem zd_595_9 : decode prog_37_method_13_code 9 = .ok (.iload_n 2, 1) := zsh_g zdk_595 (r := 2) (k := 1) rfl rfl rfl
theorem zd_595_10 : decode prog_37_method_13_code 10 = .ok (.iload_n 0, 1) := zsh_g zdk_595 (r := 2) (k := 2) rfl rfl rfl
theorem zd_595_11 : decode prog_37_method_13_code 11 = .ok (.isub, 1) := zsh_g zdk_595 (r := 2) (k := 3) rfl rfl rfl
theorem zd_595_12 : decode prog_37_method_13_code 12 = .ok (.if_icmp .le 11, 3) := zsh_g zdk_595 (r := 3) (k := 0) rfl rfl rfl
theorem zd_595_15 : decode prog_37_method_13_code 15 = .ok (.aload_n 3, 1) := zsh_g zdk_595 (r := 3) (k := 1) rfl rfl rfl
theorem zd_595_16 : decode prog_37_method_13_code 16 = .ok (.iload_n 0, 1) := zsh_g zdk_595 (r := 4) (k := 0) rfl rfl rfl
theorem zd_595_17 : decode prog_37_method_13_code 17 = .ok (.iload_n 1, 1) := zsh_g zdk_595 (r := 4) (k := 1) rfl rfl rfl
theorem zd_595_18 : decode prog_37_method_13_code 18 = .ok (.iload_n 2, 1) := zsh_g zdk_595 (r := 4) (k := 2) rfl rfl rfl
theorem zd_595_23 : decode prog_37_method_13_code 23 = .ok (.iload_n 0, 1) := zsh_g zdk_595 (r := 5) (k := 0) rfl rfl rfl
def zdl_596 : List (List (Nat × Instr × Nat)) := [[(0, (.aload_n 0), 1), (1, (.getfield 1219), 3)], [(0, (.istore_n 2), 1), (1, (.lconst 0), 1), (2, (.lstore_n 3), 1), (3, (.aload_n 0), 1)], [(0, (.invokevirtual 1222), 3), (3, (.bipush 48), 2)], [(1, (.if_icmp .ne 185), 3)], [(0, (.aload_n 0), 1), (1, (.getfield 1219), 3)], [(0, (.iconst 1), 1), (1, .iadd, 1), (2, (.aload_n 0), 1), (3, (.getfield 1204), 3)], [(2, (.if_icmp .ge 172), 3)], [(1, (.aload_n 0), 1), (2, (.getfield 298), 3)], [(1, (.aload_n 0), 1), (2, (.getfield 1219), 3)], [(1, (.iconst 1), 1), (2, .iadd, 1), (3, .iaload, 1)], [(0, (.bipush 120), 2), (2, (.if_icmp .ne 156), 3)], [(1, (.aload_n 0), 1), (2, (.aload_n 0), 1), (3, (.getfield 1219), 3)], [(2, (.iconst 2), 1), (3, .iadd, 1)], [(0, (.putfield 1219), 3), (3, (.aload_n 0), 1)], [(0, (.getfield 1219), 3), (3, (.istore_n 2), 1)], [(0, (.aload_n 0), 1), (1, (.invokevirtual 1222), 3)], [(0, (.invokestatic 553), 3), (3, (.ifCond .ne 21), 3)], [(2, (.aload_n 0), 1), (3, (.invokevirtual 1222), 3)], [(2, (.bipush 97), 2)], [(0, (.if_icmp .lt 78), 3), (3, (.aload_n 0), 1)], [(0, (.invokevirtual 1222), 3), (3, (.bipush 102), 2)], [(1, (.if_icmp .gt 69), 3)], [(0, (.aload_n 0), 1), (1, (.getfield 1219), 3)], [(0, (.iload_n 2), 1), (1, .isub, 1), (2, (.bipush 8), 2)], [(0, (.if_icmp .ge 43), 3), (3, (.ldc2_w 1240), 3)], [(2, (.lload_n 3), 1), (3, .lmul, 1)], [(0, (.aload_n 0), 1), (1, (.invokevirtual 1222), 3)], [(0, (.invokestatic 553), 3), (3, (.ifCond .eq 13), 3)], [(2, (.aload_n 0), 1), (3, (.invokevirtual 1222), 3)], [(2, (.bipush 48), 2)], [(0, .isub, 1), (1, (.goto 13), 3)], [(0, (.aload_n 0), 1), (1, (.invokevirtual 1222), 3)], [(0, (.bipush 97), 2), (2, .isub, 1), (3, (.bipush 10), 2)], [(1, .iadd, 1), (2, .i2l, 1), (3, .ladd, 1)], [(0, (.goto 4), 3), (3, (.lload_n 3), 1)], [(0, (.lstore_n 3), 1), (1, (.aload_n 0), 1), (2, .dup, 1), (3, (.getfield 1219), 3)], [(2, (.iconst 1), 1), (3, .iadd, 1)], [(0, (.putfield 1219), 3), (3, (.goto (-91)), 3)], [(2, (.aload_n 0), 1), (3, (.aload_n 0), 1)], [(0, (.getfield 1228), 3), (3, (.ifCond .eq 32), 3)], [(2, (.aload_n 0), 1), (3, (.getfield 1219), 3)], [(2, (.iload_n 2), 1), (3, .isub, 1)], [(0, (.iconst 1), 1), (1, (.bipush 8), 2), (3, (.invokestatic 504), 3)], [(2, (.ifCond .eq 17), 3)], [(1, (.aload_n 0), 1), (2, (.invokevirtual 1222), 3)], [(1, (.invokestatic 1201), 3)], [(0, (.ifCond .ne 7), 3), (3, (.iconst 1), 1)], [(0, (.goto 4), 3), (3, (.iconst 0), 1)], [(0, (.putfield 1228), 3), (3, (.goto 196), 3)], [(2, (.aload_n 0), 1), (3, (.invokevirtual 1222), 3)], [(2, (.invokestatic 553), 3)], [(1, (.ifCond .eq 47), 3)], [(0, (.aload_n 0), 1), (1, (.getfield 1219), 3)], [(0, (.iload_n 2), 1), (1, .isub, 1), (2, (.bipush 10), 2)], [(0, (.if_icmp .ge 21), 3), (3, (.ldc2_w 560), 3)], [(2, (.lload_n 3), 1), (3, .lmul, 1)], [(0, (.aload_n 0), 1), (1, (.invokevirtual 1222), 3)], [(0, .i2l, 1), (1, .ladd, 1), (2, (.ldc2_w 562), 3)], [(1, .lsub, 1), (2, (.goto 4), 3)], [(1, (.lload_n 3), 1), (2, (.lstore_n 3), 1), (3, (.aload_n 0), 1)], [(0, .dup, 1), (1, (.getfield 1219), 3)], [(0, (.iconst 1), 1), (1, .iadd, 1), (2, (.putfield 1219), 3)], [(1, (.goto (-51)), 3)], [(0, (.aload_n 0), 1), (1, (.invokevirtual 1222), 3)], [(0, (.bipush 98), 2), (2, (.if_icmp .ne 7), 3)], [(1, (.iconst 1), 1), (2, (.goto 4), 3)], [(1, (.iconst 0), 1), (2, (.istore 5), 2)], [(0, (.aload_n 0), 1), (1, (.getfield 1219), 3)], [(0, (.iload_n 2), 1), (1, .isub, 1), (2, (.iconst 1), 1), (3, (.if_icmp .ne 71), 3)], [(2, (.iload 5), 2)], [(0, (.ifCond .ne 12), 3), (3, (.aload_n 0), 1)], [(0, (.invokevirtual 1222), 3), (3, (.bipush 102), 2)], [(1, (.if_icmp .ne 57), 3)], [(0, (.aload_n 0), 1), (1, .dup, 1), (2, (.getfield 1219), 3)], [(1, (.iconst 1), 1), (2, .iadd, 1), (3, (.putfield 1219), 3)], [(2, (.aload_n 0), 1), (3, (.aload_n 0), 1)], [(0, (.getfield 1228), 3), (3, (.ifCond .eq 17), 3)], [(2, (.aload_n 0), 1), (3, (.invokevirtual 1222), 3)], [(2, (.invokestatic 1201), 3)], [(1, (.ifCond .ne 7), 3)], [(0, (.iconst 1), 1), (1, (.goto 4), 3)], [(0, (.iconst 0), 1), (1, (.putfield 1228), 3)], [(0, (.aload_n 0), 1), (1, (.iload 5), 2), (3, (.ifCond .eq 7), 3)], [(2, (.iconst 2), 1), (3, (.goto 4), 3)], [(2, (.iconst 3), 1), (3, (.lload_n 3), 1)], [(0, .l2i, 1), (1, (.iload_n 1), 1), (2, (.invokevirtual 1242), 3)], [(2, (.aload_n 0), 1), (3, (.aload_n 0), 1)], [(0, (.getfield 1228), 3), (3, (.ifCond .eq 36), 3)], [(2, (.aload_n 0), 1), (3, (.getfield 1219), 3)], [(2, (.iload_n 2), 1), (3, .isub, 1)], [(0, (.bipush 10), 2), (2, (.if_icmp .gt 25), 3)], [(1, (.lload_n 3), 1), (2, (.ldc2_w 1245), 3)], [(1, .lcmp, 1), (2, (.ifCond .gt 17), 3)], [(1, (.aload_n 0), 1), (2, (.invokevirtual 1222), 3)], [(1, (.invokestatic 1201), 3)], [(0, (.ifCond .ne 7), 3), (3, (.iconst 1), 1)], [(0, (.goto 4), 3), (3, (.iconst 0), 1)], [(0, (.putfield 1228), 3), (3, (.aload_n 0), 1)], [(0, (.iload_n 1), 1), (1, (.ifCond .eq 13), 3)], [(0, (.aload_n 0), 1), (1, (.getfield 1247), 3)], [(0, (.lload_n 3), 1), (1, .l2i, 1), (2, .isub, 1), (3, (.goto 10), 3)], [(2, (.aload_n 0), 1), (3, (.getfield 1247), 3)], [(2, (.lload_n 3), 1), (3, .l2i, 1)], [(0, .iadd, 1), (1, (.putfield 1247), 3)]]
theorem zdk_596 : zsh_all 8 zdl_596 prog_14_method_118_code.data.toList = true := by decide +kernel
theorem zd_596_0 : decode prog_14_method_118_code 0 = .ok (.aload_n 0, 1) := zsh_g zdk_596 (r := 0) (k := 0) rfl rfl rfl
theorem zd_596_1 : decode prog_14_method_118_code 1 = .ok (.getfield 1219, 3) := zsh_g zdk_596 (r := 0) (k := 1) rfl rfl rfl
theorem zd_596_4 : decode prog_14_method_118_code 4 = .ok (.istore_n 2, 1) := zsh_g zdk_596 (r := 1) (k := 0) rfl rfl rfl
theorem zd_596_5 : decode prog_14_method_118_code 5 = .ok (.lconst 0, 1) := zsh_g zdk_596 (r := 1) (k := 1) rfl rfl rfl
theorem zd_596_6 : decode prog_14_method_118_code 6 = .ok (.lstore_n 3, 1) := zsh_g zdk_596 (r := 1) (k := 2) rfl rfl rfl
theorem zd_596_7 : decode prog_14_method_118_code 7 = .ok (.aload_n 0, 1) := zsh_g zdk_596 (r := 1) (k := 3) rfl rfl rfl
theorem zd_596_8 : decode prog_14_method_118_code 8 = .ok (.invokevirtual 1222, 3) := zsh_g zdk_596 (r := 2) (k := 0) rfl rfl rfl
theorem zd_596_11 : decode prog_14_method_118_code 11 = .ok (.bipush 48, 2) := zsh_g zdk_596 (r := 2) (k := 1) rfl rfl rfl
theorem zd_596_13 : decode prog_14_method_118_code 13 = .ok (.if_icmp .ne 185, 3) := zsh_g zdk_596 (r := 3) (k := 0) rfl rfl rfl
theorem zd_596_16 : decode prog_14_method_118_code 16 = .ok (.aload_n 0, 1) := zsh_g zdk_596 (r := 4) (k := 0) rfl rfl rfl
theorem zd_596_17 : decode prog_14_method_118_code 17 = .ok (.getfield 1219, 3) := zsh_g zdk_596 (r := 4) (k := 1) rfl rfl rfl
theorem zd_596_20 : decode prog_14_method_118_code 20 = .ok (.iconst 1, 1) := zsh_g zdk_596 (r := 5) (k := 0) rfl rfl rfl
theorem zd_596_21 : decode prog_14_method_118_code 21 = .ok (.iadd, 1) := zsh_g zdk_596 (r := 5) (k := 1) rfl rfl rfl
theorem zd_596_22 : decode prog_14_method_118_code 22 = .ok (.aload_n 0, 1) := zsh_g zdk_596 (r := 5) (k := 2) rfl rfl rfl
theorem zd_596_23 : decode prog_14_method_118_code 23 = .ok (.getfield 1204, 3) := zsh_g zdk_596 (r := 5) (k := 3) rfl rfl rfl
theorem zd_596_26 : decode prog_14_method_118_code 26 = .ok (.if_icmp .ge 172, 3) := zsh_g zdk_596 (r := 6) (k := 0) rfl rfl rfl
theorem zd_596_29 : decode prog_14_method_118_code 29 = .ok (.aload_n 0, 1) := zsh_g zdk_596 (r := 7) (k := 0) rfl rfl rfl
theorem zd_596_30 : decode prog_14_method_118_code 30 = .ok (.getfield 298, 3) := zsh_g zdk_596 (r := 7) (k := 1) rfl rfl rfl
theorem zd_596_33 : decode prog_14_method_118_code 33 = .ok (.aload_n 0, 1) := zsh_g zdk_596 (r := 8) (k := 0) rfl rfl rfl
theorem zd_596_34 : decode prog_14_method_118_code 34 = .ok (.getfield 1219, 3) := zsh_g zdk_596 (r := 8) (k := 1) rfl rfl rfl
theorem zd_596_37 : decode prog_14_method_118_code 37 = .ok (.iconst 1, 1) := zsh_g zdk_596 (r := 9) (k := 0) rfl rfl rfl
theorem zd_596_38 : decode prog_14_method_118_code 38 = .ok (.iadd, 1) := zsh_g zdk_596 (r := 9) (k := 1) rfl rfl rfl
theorem zd_596_39 : decode prog_14_method_118_code 39 = .ok (.iaload, 1) := zsh_g zdk_596 (r := 9) (k := 2) rfl rfl rfl
theorem zd_596_40 : decode prog_14_method_118_code 40 = .ok (.bipush 120, 2) := zsh_g zdk_596 (r := 10) (k := 0) rfl rfl rfl
theorem zd_596_42 : decode prog_14_method_118_code 42 = .ok (.if_icmp .ne 156, 3) := zsh_g zdk_596 (r := 10) (k := 1) rfl rfl rfl
theorem zd_596_45 : decode prog_14_method_118_code 45 = .ok (.aload_n 0, 1) := zsh_g zdk_596 (r := 11) (k := 0) rfl rfl rfl
theorem zd_596_46 : decode prog_14_method_118_code 46 = .ok (.aload_n 0, 1) := zsh_g zdk_596 (r := 11) (k := 1) rfl rfl rfl
theorem zd_596_47 : decode prog_14_method_118_code 47 = .ok (.getfield 1219, 3) := zsh_g zdk_596 (r := 11) (k := 2) rfl rfl rfl
theorem zd_596_50 : decode prog_14_method_118_code 50 = .ok (.iconst 2, 1) := zsh_g zdk_596 (r := 12) (k := 0) rfl rfl rfl
theorem zd_596_51 : decode prog_14_method_118_code 51 = .ok (.iadd, 1) := zsh_g zdk_596 (r := 12) (k := 1) rfl rfl rfl
theorem zd_596_52 : decode prog_14_method_118_code 52 = .ok (.putfield 1219, 3) := zsh_g zdk_596 (r := 13) (k := 0) rfl rfl rfl
theorem zd_596_55 : decode prog_14_method_118_code 55 = .ok (.aload_n 0, 1) := zsh_g zdk_596 (r := 13) (k := 1) rfl rfl rfl
theorem zd_596_56 : decode prog_14_method_118_code 56 = .ok (.getfield 1219, 3) := zsh_g zdk_596 (r := 14) (k := 0) rfl rfl rfl
theorem zd_596_59 : decode prog_14_method_118_code 59 = .ok (.istore_n 2, 1) := zsh_g zdk_596 (r := 14) (k := 1) rfl rfl rfl
theorem zd_596_60 : decode prog_14_method_118_code 60 = .ok (.aload_n 0, 1) := zsh_g zdk_596 (r := 15) (k := 0) rfl rfl rfl
theorem zd_596_61 : decode prog_14_method_118_code 61 = .ok (.invokevirtual 1222, 3) := zsh_g zdk_596 (r := 15) (k := 1) rfl rfl rfl
theorem zd_596_64 : decode prog_14_method_118_code 64 = .ok (.invokestatic 553, 3) := zsh_g zdk_596 (r := 16) (k := 0) rfl rfl rfl
theorem zd_596_67 : decode prog_14_method_118_code 67 = .ok (.ifCond .ne 21, 3) := zsh_g zdk_596 (r := 16) (k := 1) rfl rfl rfl
theorem zd_596_70 : decode prog_14_method_118_code 70 = .ok (.aload_n 0, 1) := zsh_g zdk_596 (r := 17) (k := 0) rfl rfl rfl
theorem zd_596_71 : decode prog_14_method_118_code 71 = .ok (.invokevirtual 1222, 3) := zsh_g zdk_596 (r := 17) (k := 1) rfl rfl rfl
theorem zd_596_74 : decode prog_14_method_118_code 74 = .ok (.bipush 97, 2) := zsh_g zdk_596 (r := 18) (k := 0) rfl rfl rfl
theorem zd_596_76 : decode prog_14_method_118_code 76 = .ok (.if_icmp .lt 78, 3) := zsh_g zdk_596 (r := 19) (k := 0) rfl rfl rfl
theorem zd_596_79 : decode prog_14_method_118_code 79 = .ok (.aload_n 0, 1) := zsh_g zdk_596 (r := 19) (k := 1) rfl rfl rfl
theorem zd_596_80 : decode prog_14_method_118_code 80 = .ok (.invokevirtual 1222, 3) := zsh_g zdk_596 (r := 20) (k := 0) rfl rfl rfl
theorem zd_596_83 : decode prog_14_method_118_code 83 = .ok (.bipush 102, 2) := zsh_g zdk_596 (r := 20) (k := 1) rfl rfl rfl
theorem zd_596_85 : decode prog_14_method_118_code 85 = .ok (.if_icmp .gt 69, 3) := zsh_g zdk_596 (r := 21) (k := 0) rfl rfl rfl
theorem zd_596_88 : decode prog_14_method_118_code 88 = .ok (.aload_n 0, 1) := zsh_g zdk_596 (r := 22) (k := 0) rfl rfl rfl
theorem zd_596_89 : decode prog_14_method_118_code 89 = .ok (.getfield 1219, 3) := zsh_g zdk_596 (r := 22) (k := 1) rfl rfl rfl
theorem zd_596_92 : decode prog_14_method_118_code 92 = .ok (.iload_n 2, 1) := zsh_g zdk_596 (r := 23) (k := 0) rfl rfl rfl
theorem zd_596_93 : decode prog_14_method_118_code 93 = .ok (.isub, 1) := zsh_g zdk_596 (r := 23) (k := 1) rfl rfl rfl
theorem zd_596_94 : decode prog_14_method_118_code 94 = .ok (.bipush 8, 2) := zsh_g zdk_596 (r := 23) (k := 2) rfl rfl rfl
theorem zd_596_96 : decode prog_14_method_118_code 96 = .ok (.if_icmp .ge 43, 3) := zsh_g zdk_596 (r := 24) (k := 0) rfl rfl rfl
theorem zd_596_99 : decode prog_14_method_118_code 99 = .ok (.ldc2_w 1240, 3) := zsh_g zdk_596 (r := 24) (k := 1) rfl rfl rfl
theorem zd_596_102 : decode prog_14_method_118_code 102 = .ok (.lload_n 3, 1) := zsh_g zdk_596 (r := 25) (k := 0) rfl rfl rfl
theorem zd_596_103 : decode prog_14_method_118_code 103 = .ok (.lmul, 1) := zsh_g zdk_596 (r := 25) (k := 1) rfl rfl rfl
theorem zd_596_104 : decode prog_14_method_118_code 104 = .ok (.aload_n 0, 1) := zsh_g zdk_596 (r := 26) (k := 0) rfl rfl rfl
theorem zd_596_105 : decode prog_14_method_118_code 105 = .ok (.invokevirtual 1222, 3) := zsh_g zdk_596 (r := 26) (k := 1) rfl rfl rfl
theorem zd_596_108 : decode prog_14_method_118_code 108 = .ok (.invokestatic 553, 3) := zsh_g zdk_596 (r := 27) (k := 0) rfl rfl rfl
theorem zd_596_111 : decode prog_14_method_118_code 111 = .ok (.ifCond .eq 13, 3) := zsh_g zdk_596 (r := 27) (k := 1) rfl rfl rfl
theorem zd_596_114 : decode prog_14_method_118_code 114 = .ok (.aload_n 0, 1) := zsh_g zdk_596 (r := 28) (k := 0) rfl rfl rfl
theorem zd_596_115 : decode prog_14_method_118_code 115 = .ok (.invokevirtual 1222, 3) := zsh_g zdk_596 (r := 28) (k := 1) rfl rfl rfl
theorem zd_596_118 : decode prog_14_method_118_code 118 = .ok (.bipush 48, 2) := zsh_g zdk_596 (r := 29) (k := 0) rfl rfl rfl
theorem zd_596_120 : decode prog_14_method_118_code 120 = .ok (.isub, 1) := zsh_g zdk_596 (r := 30) (k := 0) rfl rfl rfl
theorem zd_596_121 : decode prog_14_method_118_code 121 = .ok (.goto 13, 3) := zsh_g zdk_596 (r := 30) (k := 1) rfl rfl rfl
theorem zd_596_124 : decode prog_14_method_118_code 124 = .ok (.aload_n 0, 1) := zsh_g zdk_596 (r := 31) (k := 0) rfl rfl rfl
theorem zd_596_125 : decode prog_14_method_118_code 125 = .ok (.invokevirtual 1222, 3) := zsh_g zdk_596 (r := 31) (k := 1) rfl rfl rfl
theorem zd_596_128 : decode prog_14_method_118_code 128 = .ok (.bipush 97, 2) := zsh_g zdk_596 (r := 32) (k := 0) rfl rfl rfl
theorem zd_596_130 : decode prog_14_method_118_code 130 = .ok (.isub, 1) := zsh_g zdk_596 (r := 32) (k := 1) rfl rfl rfl
theorem zd_596_131 : decode prog_14_method_118_code 131 = .ok (.bipush 10, 2) := zsh_g zdk_596 (r := 32) (k := 2) rfl rfl rfl
theorem zd_596_133 : decode prog_14_method_118_code 133 = .ok (.iadd, 1) := zsh_g zdk_596 (r := 33) (k := 0) rfl rfl rfl
theorem zd_596_134 : decode prog_14_method_118_code 134 = .ok (.i2l, 1) := zsh_g zdk_596 (r := 33) (k := 1) rfl rfl rfl
theorem zd_596_135 : decode prog_14_method_118_code 135 = .ok (.ladd, 1) := zsh_g zdk_596 (r := 33) (k := 2) rfl rfl rfl
theorem zd_596_136 : decode prog_14_method_118_code 136 = .ok (.goto 4, 3) := zsh_g zdk_596 (r := 34) (k := 0) rfl rfl rfl
theorem zd_596_139 : decode prog_14_method_118_code 139 = .ok (.lload_n 3, 1) := zsh_g zdk_596 (r := 34) (k := 1) rfl rfl rfl
theorem zd_596_140 : decode prog_14_method_118_code 140 = .ok (.lstore_n 3, 1) := zsh_g zdk_596 (r := 35) (k := 0) rfl rfl rfl
theorem zd_596_141 : decode prog_14_method_118_code 141 = .ok (.aload_n 0, 1) := zsh_g zdk_596 (r := 35) (k := 1) rfl rfl rfl
theorem zd_596_142 : decode prog_14_method_118_code 142 = .ok (.dup, 1) := zsh_g zdk_596 (r := 35) (k := 2) rfl rfl rfl
theorem zd_596_143 : decode prog_14_method_118_code 143 = .ok (.getfield 1219, 3) := zsh_g zdk_596 (r := 35) (k := 3) rfl rfl rfl
theorem zd_596_146 : decode prog_14_method_118_code 146 = .ok (.iconst 1, 1) := zsh_g zdk_596 (r := 36) (k := 0) rfl rfl rfl
theorem zd_596_147 : decode prog_14_method_118_code 147 = .ok (.iadd, 1) := zsh_g zdk_596 (r := 36) (k := 1) rfl rfl rfl
theorem zd_596_148 : decode prog_14_method_118_code 148 = .ok (.putfield 1219, 3) := zsh_g zdk_596 (r := 37) (k := 0) rfl rfl rfl
theorem zd_596_151 : decode prog_14_method_118_code 151 = .ok (.goto (-91), 3) := zsh_g zdk_596 (r := 37) (k := 1) rfl rfl rfl
theorem zd_596_154 : decode prog_14_method_118_code 154 = .ok (.aload_n 0, 1) := zsh_g zdk_596 (r := 38) (k := 0) rfl rfl rfl
theorem zd_596_155 : decode prog_14_method_118_code 155 = .ok (.aload_n 0, 1) := zsh_g zdk_596 (r := 38) (k := 1) rfl rfl rfl
theorem zd_596_156 : decode prog_14_method_118_code 156 = .ok (.getfield 1228, 3) := zsh_g zdk_596 (r := 39) (k := 0) rfl rfl rfl
theorem zd_596_159 : decode prog_14_method_118_code 159 = .ok (.ifCond .eq 32, 3) := zsh_g zdk_596 (r := 39) (k := 1) rfl rfl rfl
theorem zd_596_162 : decode prog_14_method_118_code 162 = .ok (.aload_n 0, 1) := zsh_g zdk_596 (r := 40) (k := 0) rfl rfl rfl
theorem zd_596_163 : decode prog_14_method_118_code 163 = .ok (.getfield 1219, 3) := zsh_g zdk_596 (r := 40) (k := 1) rfl rfl rfl
theorem zd_596_166 : decode prog_14_method_118_code 166 = .ok (.iload_n 2, 1) := zsh_g zdk_596 (r := 41) (k := 0) rfl rfl rfl
theorem zd_596_167 : decode prog_14_method_118_code 167 = .ok (.isub, 1) := zsh_g zdk_596 (r := 41) (k := 1) rfl rfl rfl
theorem zd_596_168 : decode prog_14_method_118_code 168 = .ok (.iconst 1, 1) := zsh_g zdk_596 (r := 42) (k := 0) rfl rfl rfl
theorem zd_596_169 : decode prog_14_method_118_code 169 = .ok (.bipush 8, 2) := zsh_g zdk_596 (r := 42) (k := 1) rfl rfl rfl
theorem zd_596_171 : decode prog_14_method_118_code 171 = .ok (.invokestatic 504, 3) := zsh_g zdk_596 (r := 42) (k := 2) rfl rfl rfl
theorem zd_596_174 : decode prog_14_method_118_code 174 = .ok (.ifCond .eq 17, 3) := zsh_g zdk_596 (r := 43) (k := 0) rfl rfl rfl
theorem zd_596_177 : decode prog_14_method_118_code 177 = .ok (.aload_n 0, 1) := zsh_g zdk_596 (r := 44) (k := 0) rfl rfl rfl
theorem zd_596_178 : decode prog_14_method_118_code 178 = .ok (.invokevirtual 1222, 3) := zsh_g zdk_596 (r := 44) (k := 1) rfl rfl rfl
theorem zd_596_181 : decode prog_14_method_118_code 181 = .ok (.invokestatic 1201, 3) := zsh_g zdk_596 (r := 45) (k := 0) rfl rfl rfl
theorem zd_596_184 : decode prog_14_method_118_code 184 = .ok (.ifCond .ne 7, 3) := zsh_g zdk_596 (r := 46) (k := 0) rfl rfl rfl
theorem zd_596_187 : decode prog_14_method_118_code 187 = .ok (.iconst 1, 1) := zsh_g zdk_596 (r := 46) (k := 1) rfl rfl rfl
theorem zd_596_188 : decode prog_14_method_118_code 188 = .ok (.goto 4, 3) := zsh_g zdk_596 (r := 47) (k := 0) rfl rfl rfl
theorem zd_596_191 : decode prog_14_method_118_code 191 = .ok (.iconst 0, 1) := zsh_g zdk_596 (r := 47) (k := 1) rfl rfl rfl
theorem zd_596_192 : decode prog_14_method_118_code 192 = .ok (.putfield 1228, 3) := zsh_g zdk_596 (r := 48) (k := 0) rfl rfl rfl
theorem zd_596_195 : decode prog_14_method_118_code 195 = .ok (.goto 196, 3) := zsh_g zdk_596 (r := 48) (k := 1) rfl rfl rfl
theorem zd_596_198 : decode prog_14_method_118_code 198 = .ok (.aload_n 0, 1) := zsh_g zdk_596 (r := 49) (k := 0) rfl rfl rfl
theorem zd_596_199 : decode prog_14_method_118_code 199 = .ok (.invokevirtual 1222, 3) := zsh_g zdk_596 (r := 49) (k := 1) rfl rfl rfl
theorem zd_596_202 : decode prog_14_method_118_code 202 = .ok (.invokestatic 553, 3) := zsh_g zdk_596 (r := 50) (k := 0) rfl rfl rfl
theorem zd_596_205 : decode prog_14_method_118_code 205 = .ok (.ifCond .eq 47, 3) := zsh_g zdk_596 (r := 51) (k := 0) rfl rfl rfl
theorem zd_596_208 : decode prog_14_method_118_code 208 = .ok (.aload_n 0, 1) := zsh_g zdk_596 (r := 52) (k := 0) rfl rfl rfl
theorem zd_596_209 : decode prog_14_method_118_code 209 = .ok (.getfield 1219, 3) := zsh_g zdk_596 (r := 52) (k := 1) rfl rfl rfl
theorem zd_596_212 : decode prog_14_method_118_code 212 = .ok (.iload_n 2, 1) := zsh_g zdk_596 (r := 53) (k := 0) rfl rfl rfl
theorem zd_596_213 : decode prog_14_method_118_code 213 = .ok (.isub, 1) := zsh_g zdk_596 (r := 53) (k := 1) rfl rfl rfl
theorem zd_596_214 : decode prog_14_method_118_code 214 = .ok (.bipush 10, 2) := zsh_g zdk_596 (r := 53) (k := 2) rfl rfl rfl
theorem zd_596_216 : decode prog_14_method_118_code 216 = .ok (.if_icmp .ge 21, 3) := zsh_g zdk_596 (r := 54) (k := 0) rfl rfl rfl
theorem zd_596_219 : decode prog_14_method_118_code 219 = .ok (.ldc2_w 560, 3) := zsh_g zdk_596 (r := 54) (k := 1) rfl rfl rfl
theorem zd_596_222 : decode prog_14_method_118_code 222 = .ok (.lload_n 3, 1) := zsh_g zdk_596 (r := 55) (k := 0) rfl rfl rfl
theorem zd_596_223 : decode prog_14_method_118_code 223 = .ok (.lmul, 1) := zsh_g zdk_596 (r := 55) (k := 1) rfl rfl rfl
theorem zd_596_224 : decode prog_14_method_118_code 224 = .ok (.aload_n 0, 1) := zsh_g zdk_596 (r := 56) (k := 0) rfl rfl rfl
theorem zd_596_225 : decode prog_14_method_118_code 225 = .ok (.invokevirtual 1222, 3) := zsh_g zdk_596 (r := 56) (k := 1) rfl rfl rfl
theorem zd_596_228 : decode prog_14_method_118_code 228 = .ok (.i2l, 1) := zsh_g zdk_596 (r := 57) (k := 0) rfl rfl rfl
theorem zd_596_229 : decode prog_14_method_118_code 229 = .ok (.ladd, 1) := zsh_g zdk_596 (r := 57) (k := 1) rfl rfl rfl
theorem zd_596_230 : decode prog_14_method_118_code 230 = .ok (.ldc2_w 562, 3) := zsh_g zdk_596 (r := 57) (k := 2) rfl rfl rfl
theorem zd_596_233 : decode prog_14_method_118_code 233 = .ok (.lsub, 1) := zsh_g zdk_596 (r := 58) (k := 0) rfl rfl rfl
theorem zd_596_234 : decode prog_14_method_118_code 234 = .ok (.goto 4, 3) := zsh_g zdk_596 (r := 58) (k := 1) rfl rfl rfl
theorem zd_596_237 : decode prog_14_method_118_code 237 = .ok (.lload_n 3, 1) := zsh_g zdk_596 (r := 59) (k := 0) rfl rfl rfl
theorem zd_596_238 : decode prog_14_method_118_code 238 = .ok (.lstore_n 3, 1) := zsh_g zdk_596 (r := 59) (k := 1) rfl rfl rfl
theorem zd_596_239 : decode prog_14_method_118_code 239 = .ok (.aload_n 0, 1) := zsh_g zdk_596 (r := 59) (k := 2) rfl rfl rfl
theorem zd_596_240 : decode prog_14_method_118_code 240 = .ok (.dup, 1) := zsh_g zdk_596 (r := 60) (k := 0) rfl rfl rfl
theorem zd_596_241 : decode prog_14_method_118_code 241 = .ok (.getfield 1219, 3) := zsh_g zdk_596 (r := 60) (k := 1) rfl rfl rfl
theorem zd_596_244 : decode prog_14_method_118_code 244 = .ok (.iconst 1, 1) := zsh_g zdk_596 (r := 61) (k := 0) rfl rfl rfl
theorem zd_596_245 : decode prog_14_method_118_code 245 = .ok (.iadd, 1) := zsh_g zdk_596 (r := 61) (k := 1) rfl rfl rfl
theorem zd_596_246 : decode prog_14_method_118_code 246 = .ok (.putfield 1219, 3) := zsh_g zdk_596 (r := 61) (k := 2) rfl rfl rfl
theorem zd_596_249 : decode prog_14_method_118_code 249 = .ok (.goto (-51), 3) := zsh_g zdk_596 (r := 62) (k := 0) rfl rfl rfl
theorem zd_596_252 : decode prog_14_method_118_code 252 = .ok (.aload_n 0, 1) := zsh_g zdk_596 (r := 63) (k := 0) rfl rfl rfl
theorem zd_596_253 : decode prog_14_method_118_code 253 = .ok (.invokevirtual 1222, 3) := zsh_g zdk_596 (r := 63) (k := 1) rfl rfl rfl
theorem zd_596_256 : decode prog_14_method_118_code 256 = .ok (.bipush 98, 2) := zsh_g zdk_596 (r := 64) (k := 0) rfl rfl rfl
theorem zd_596_258 : decode prog_14_method_118_code 258 = .ok (.if_icmp .ne 7, 3) := zsh_g zdk_596 (r := 64) (k := 1) rfl rfl rfl
theorem zd_596_261 : decode prog_14_method_118_code 261 = .ok (.iconst 1, 1) := zsh_g zdk_596 (r := 65) (k := 0) rfl rfl rfl
theorem zd_596_262 : decode prog_14_method_118_code 262 = .ok (.goto 4, 3) := zsh_g zdk_596 (r := 65) (k := 1) rfl rfl rfl
theorem zd_596_265 : decode prog_14_method_118_code 265 = .ok (.iconst 0, 1) := zsh_g zdk_596 (r := 66) (k := 0) rfl rfl rfl
theorem zd_596_266 : decode prog_14_method_118_code 266 = .ok (.istore 5, 2) := zsh_g zdk_596 (r := 66) (k := 1) rfl rfl rfl
theorem zd_596_268 : decode prog_14_method_118_code 268 = .ok (.aload_n 0, 1) := zsh_g zdk_596 (r := 67) (k := 0) rfl rfl rfl
theorem zd_596_269 : decode prog_14_method_118_code 269 = .ok (.getfield 1219, 3) := zsh_g zdk_596 (r := 67) (k := 1) rfl rfl rfl
theorem zd_596_272 : decode prog_14_method_118_code 272 = .ok (.iload_n 2, 1) := zsh_g zdk_596 (r := 68) (k := 0) rfl rfl rfl
theorem zd_596_273 : decode prog_14_method_118_code 273 = .ok (.isub, 1) := zsh_g zdk_596 (r := 68) (k := 1) rfl rfl rfl
theorem zd_596_274 : decode prog_14_method_118_code 274 = .ok (.iconst 1, 1) := zsh_g zdk_596 (r := 68) (k := 2) rfl rfl rfl
theorem zd_596_275 : decode prog_14_method_118_code 275 = .ok (.if_icmp .ne 71, 3) := zsh_g zdk_596 (r := 68) (k := 3) rfl rfl rfl
theorem zd_596_278 : decode prog_14_method_118_code 278 = .ok (.iload 5, 2) := zsh_g zdk_596 (r := 69) (k := 0) rfl rfl rfl
theorem zd_596_280 : decode prog_14_method_118_code 280 = .ok (.ifCond .ne 12, 3) := zsh_g zdk_596 (r := 70) (k := 0) rfl rfl rfl
theorem zd_596_283 : decode prog_14_method_118_code 283 = .ok (.aload_n 0, 1) := zsh_g zdk_596 (r := 70) (k := 1) rfl rfl rfl
theorem zd_596_284 : decode prog_14_method_118_code 284 = .ok (.invokevirtual 1222, 3) := zsh_g zdk_596 (r := 71) (k := 0) rfl rfl rfl
theorem zd_596_287 : decode prog_14_method_118_code 287 = .ok (.bipush 102, 2) := zsh_g zdk_596 (r := 71) (k := 1) rfl rfl rfl
theorem zd_596_289 : decode prog_14_method_118_code 289 = .ok (.if_icmp .ne 57, 3) := zsh_g zdk_596 (r := 72) (k := 0) rfl rfl rfl
theorem zd_596_292 : decode prog_14_method_118_code 292 = .ok (.aload_n 0, 1) := zsh_g zdk_596 (r := 73) (k := 0) rfl rfl rfl
theorem zd_596_293 : decode prog_14_method_118_code 293 = .ok (.dup, 1) := zsh_g zdk_596 (r := 73) (k := 1) rfl rfl rfl
theorem zd_596_294 : decode prog_14_method_118_code 294 = .ok (.getfield 1219, 3) := zsh_g zdk_596 (r := 73) (k := 2) rfl rfl rfl
theorem zd_596_297 : decode prog_14_method_118_code 297 = .ok (.iconst 1, 1) := zsh_g zdk_596 (r := 74) (k := 0) rfl rfl rfl
theorem zd_596_298 : decode prog_14_method_118_code 298 = .ok (.iadd, 1) := zsh_g zdk_596 (r := 74) (k := 1) rfl rfl rfl
theorem zd_596_299 : decode prog_14_method_118_code 299 = .ok (.putfield 1219, 3) := zsh_g zdk_596 (r := 74) (k := 2) rfl rfl rfl
theorem zd_596_302 : decode prog_14_method_118_code 302 = .ok (.aload_n 0, 1) := zsh_g zdk_596 (r := 75) (k := 0) rfl rfl rfl
theorem zd_596_303 : decode prog_14_method_118_code 303 = .ok (.aload_n 0, 1) := zsh_g zdk_596 (r := 75) (k := 1) rfl rfl rfl
theorem zd_596_304 : decode prog_14_method_118_code 304 = .ok (.getfield 1228, 3) := zsh_g zdk_596 (r := 76) (k := 0) rfl rfl rfl
theorem zd_596_307 : decode prog_14_method_118_code 307 = .ok (.ifCond .eq 17, 3) := zsh_g zdk_596 (r := 76) (k := 1) rfl rfl rfl
theorem zd_596_310 : decode prog_14_method_118_code 310 = .ok (.aload_n 0, 1) := zsh_g zdk_596 (r := 77) (k := 0) rfl rfl rfl
theorem zd_596_311 : decode prog_14_method_118_code 311 = .ok (.invokevirtual 1222, 3) := zsh_g zdk_596 (r := 77) (k := 1) rfl rfl rfl
theorem zd_596_314 : decode prog_14_method_118_code 314 = .ok (.invokestatic 1201, 3) := zsh_g zdk_596 (r := 78) (k := 0) rfl rfl rfl
theorem zd_596_317 : decode prog_14_method_118_code 317 = .ok (.ifCond .ne 7, 3) := zsh_g zdk_596 (r := 79) (k := 0) rfl rfl rfl
theorem zd_596_320 : decode prog_14_method_118_code 320 = .ok (.iconst 1, 1) := zsh_g zdk_596 (r := 80) (k := 0) rfl rfl rfl
theorem zd_596_321 : decode prog_14_method_118_code 321 = .ok (.goto 4, 3) := zsh_g zdk_596 (r := 80) (k := 1) rfl rfl rfl
theorem zd_596_324 : decode prog_14_method_118_code 324 = .ok (.iconst 0, 1) := zsh_g zdk_596 (r := 81) (k := 0) rfl rfl rfl
theorem zd_596_325 : decode prog_14_method_118_code 325 = .ok (.putfield 1228, 3) := zsh_g zdk_596 (r := 81) (k := 1) rfl rfl rfl
theorem zd_596_328 : decode prog_14_method_118_code 328 = .ok (.aload_n 0, 1) := zsh_g zdk_596 (r := 82) (k := 0) rfl rfl rfl
theorem zd_596_329 : decode prog_14_method_118_code 329 = .ok (.iload 5, 2) := zsh_g zdk_596 (r := 82) (k := 1) rfl rfl rfl
theorem zd_596_331 : decode prog_14_method_118_code 331 = .ok (.ifCond .eq 7, 3) := zsh_g zdk_596 (r := 82) (k := 2) rfl rfl rfl
theorem zd_596_334 : decode prog_14_method_118_code 334 = .ok (.iconst 2, 1) := zsh_g zdk_596 (r := 83) (k := 0) rfl rfl rfl
theorem zd_596_335 : decode prog_14_method_118_code 335 = .ok (.goto 4, 3) := zsh_g zdk_596 (r := 83) (k := 1) rfl rfl rfl
theorem zd_596_338 : decode prog_14_method_118_code 338 = .ok (.iconst 3, 1) := zsh_g zdk_596 (r := 84) (k := 0) rfl rfl rfl
theorem zd_596_339 : decode prog_14_method_118_code 339 = .ok (.lload_n 3, 1) := zsh_g zdk_596 (r := 84) (k := 1) rfl rfl rfl
theorem zd_596_340 : decode prog_14_method_118_code 340 = .ok (.l2i, 1) := zsh_g zdk_596 (r := 85) (k := 0) rfl rfl rfl
theorem zd_596_341 : decode prog_14_method_118_code 341 = .ok (.iload_n 1, 1) := zsh_g zdk_596 (r := 85) (k := 1) rfl rfl rfl
theorem zd_596_342 : decode prog_14_method_118_code 342 = .ok (.invokevirtual 1242, 3) := zsh_g zdk_596 (r := 85) (k := 2) rfl rfl rfl
theorem zd_596_346 : decode prog_14_method_118_code 346 = .ok (.aload_n 0, 1) := zsh_g zdk_596 (r := 86) (k := 0) rfl rfl rfl
theorem zd_596_347 : decode prog_14_method_118_code 347 = .ok (.aload_n 0, 1) := zsh_g zdk_596 (r := 86) (k := 1) rfl rfl rfl
theorem zd_596_348 : decode prog_14_method_118_code 348 = .ok (.getfield 1228, 3) := zsh_g zdk_596 (r := 87) (k := 0) rfl rfl rfl
theorem zd_596_351 : decode prog_14_method_118_code 351 = .ok (.ifCond .eq 36, 3) := zsh_g zdk_596 (r := 87) (k := 1) rfl rfl rfl
theorem zd_596_354 : decode prog_14_method_118_code 354 = .ok (.aload_n 0, 1) := zsh_g zdk_596 (r := 88) (k := 0) rfl rfl rfl
theorem zd_596_355 : decode prog_14_method_118_code 355 = .ok (.getfield 1219, 3) := zsh_g zdk_596 (r := 88) (k := 1) rfl rfl rfl
theorem zd_596_358 : decode prog_14_method_118_code 358 = .ok (.iload_n 2, 1) := zsh_g zdk_596 (r := 89) (k := 0) rfl rfl rfl
theorem zd_596_359 : decode prog_14_method_118_code 359 = .ok (.isub, 1) := zsh_g zdk_596 (r := 89) (k := 1) rfl rfl rfl
theorem zd_596_360 : decode prog_14_method_118_code 360 = .ok (.bipush 10, 2) := zsh_g zdk_596 (r := 90) (k := 0) rfl rfl rfl
theorem zd_596_362 : decode prog_14_method_118_code 362 = .ok (.if_icmp .gt 25, 3) := zsh_g zdk_596 (r := 90) (k := 1) rfl rfl rfl
theorem zd_596_365 : decode prog_14_method_118_code 365 = .ok (.lload_n 3, 1) := zsh_g zdk_596 (r := 91) (k := 0) rfl rfl rfl
theorem zd_596_366 : decode prog_14_method_118_code 366 = .ok (.ldc2_w 1245, 3) := zsh_g zdk_596 (r := 91) (k := 1) rfl rfl rfl
theorem zd_596_369 : decode prog_14_method_118_code 369 = .ok (.lcmp, 1) := zsh_g zdk_596 (r := 92) (k := 0) rfl rfl rfl
theorem zd_596_370 : decode prog_14_method_118_code 370 = .ok (.ifCond .gt 17, 3) := zsh_g zdk_596 (r := 92) (k := 1) rfl rfl rfl
theorem zd_596_373 : decode prog_14_method_118_code 373 = .ok (.aload_n 0, 1) := zsh_g zdk_596 (r := 93) (k := 0) rfl rfl rfl
theorem zd_596_374 : decode prog_14_method_118_code 374 = .ok (.invokevirtual 1222, 3) := zsh_g zdk_596 (r := 93) (k := 1) rfl rfl rfl
theorem zd_596_377 : decode prog_14_method_118_code 377 = .ok (.invokestatic 1201, 3) := zsh_g zdk_596 (r := 94) (k := 0) rfl rfl rfl
theorem zd_596_380 : decode prog_14_method_118_code 380 = .ok (.ifCond .ne 7, 3) := zsh_g zdk_596 (r := 95) (k := 0) rfl rfl rfl
theorem zd_596_383 : decode prog_14_method_118_code 383 = .ok (.iconst 1, 1) := zsh_g zdk_596 (r := 95) (k := 1) rfl rfl rfl
theorem zd_596_384 : decode prog_14_method_118_code 384 = .ok (.goto 4, 3) := zsh_g zdk_596 (r := 96) (k := 0) rfl rfl rfl
theorem zd_596_387 : decode prog_14_method_118_code 387 = .ok (.iconst 0, 1) := zsh_g zdk_596 (r := 96) (k := 1) rfl rfl rfl
theorem zd_596_388 : decode prog_14_method_118_code 388 = .ok (.putfield 1228, 3) := zsh_g zdk_596 (r := 97) (k := 0) rfl rfl rfl
theorem zd_596_391 : decode prog_14_method_118_code 391 = .ok (.aload_n 0, 1) := zsh_g zdk_596 (r := 97) (k := 1) rfl rfl rfl
theorem zd_596_392 : decode prog_14_method_118_code 392 = .ok (.iload_n 1, 1) := zsh_g zdk_596 (r := 98) (k := 0) rfl rfl rfl
theorem zd_596_393 : decode prog_14_method_118_code 393 = .ok (.ifCond .eq 13, 3) := zsh_g zdk_596 (r := 98) (k := 1) rfl rfl rfl
theorem zd_596_396 : decode prog_14_method_118_code 396 = .ok (.aload_n 0, 1) := zsh_g zdk_596 (r := 99) (k := 0) rfl rfl rfl
theorem zd_596_397 : decode prog_14_method_118_code 397 = .ok (.getfield 1247, 3) := zsh_g zdk_596 (r := 99) (k := 1) rfl rfl rfl
theorem zd_596_400 : decode prog_14_method_118_code 400 = .ok (.lload_n 3, 1) := zsh_g zdk_596 (r := 100) (k := 0) rfl rfl rfl
theorem zd_596_401 : decode prog_14_method_118_code 401 = .ok (.l2i, 1) := zsh_g zdk_596 (r := 100) (k := 1) rfl rfl rfl
theorem zd_596_402 : decode prog_14_method_118_code 402 = .ok (.isub, 1) := zsh_g zdk_596 (r := 100) (k := 2) rfl rfl rfl
theorem zd_596_403 : decode prog_14_method_118_code 403 = .ok (.goto 10, 3) := zsh_g zdk_596 (r := 100) (k := 3) rfl rfl rfl
theorem zd_596_406 : decode prog_14_method_118_code 406 = .ok (.aload_n 0, 1) := zsh_g zdk_596 (r := 101) (k := 0) rfl rfl rfl
theorem zd_596_407 : decode prog_14_method_118_code 407 = .ok (.getfield 1247, 3) := zsh_g zdk_596 (r := 101) (k := 1) rfl rfl rfl
theorem zd_596_410 : decode prog_14_method_118_code 410 = .ok (.lload_n 3, 1) := zsh_g zdk_596 (r := 102) (k := 0) rfl rfl rfl
theorem zd_596_411 : decode prog_14_method_118_code 411 = .ok (.l2i, 1) := zsh_g zdk_596 (r := 102) (k := 1) rfl rfl rfl
theorem zd_596_412 : decode prog_14_method_118_code 412 = .ok (.iadd, 1) := zsh_g zdk_596 (r := 103) (k := 0) rfl rfl rfl
theorem zd_596_413 : decode prog_14_method_118_code 413 = .ok (.putfield 1247, 3) := zsh_g zdk_596 (r := 103) (k := 1) rfl rfl rfl
def zdl_597 : List (List (Nat × Instr × Nat)) := [[(0, (.aload_n 0), 1), (1, (.aload_n 0), 1), (2, (.getfield 1228), 3)], [(1, (.ifCond .eq 18), 3)], [(0, (.aload_n 0), 1), (1, (.getfield 1234), 3)], [(0, (.ifCond .ne 11), 3), (3, (.iload_n 3), 1)], [(0, (.ifCond .ne 7), 3), (3, (.iconst 1), 1)], [(0, (.goto 4), 3), (3, (.iconst 0), 1)], [(0, (.putfield 1228), 3), (3, (.aload_n 0), 1)], [(0, (.iload_n 1), 1), (1, (.putfield 1234), 3)], [(0, (.aload_n 0), 1), (1, (.iload_n 2), 1), (2, (.putfield 1237), 3)]]
theorem zdk_597 : zsh_all 8 zdl_597 prog_14_method_117_code.data.toList = true := by decide +kernel
theorem zd_597_0 : decode prog_14_method_117_code 0 = .ok (.aload_n 0, 1) := zsh_g zdk_597 (r := 0) (k := 0) rfl rfl rfl
theorem zd_597_1 : decode prog_14_method_117_code 1 = .ok (.aload_n 0, 1) := zsh_g zdk_597 (r := 0) (k := 1) rfl rfl rfl
theorem zd_597_2 : decode prog_14_method_117_code 2 = .ok (.getfield 1228, 3) := zsh_g zdk_597 (r := 0) (k := 2) rfl rfl rfl
theorem zd_597_5 : decode prog_14_method_117_code 5 = .ok (.ifCond .eq 18, 3) := zsh_g zdk_597 (r := 1) (k := 0) rfl rfl rfl
theorem zd_597_8 : decode prog_14_method_117_code 8 = .ok (.aload_n 0, 1) := zsh_g zdk_597 (r := 2) (k := 0) rfl rfl rfl
theorem zd_597_9 : decode prog_14_method_117_code 9 = .ok (.getfield 1234, 3) := zsh_g zdk_597 (r := 2) (k := 1) rfl rfl rfl
theorem zd_597_12 : decode prog_14_method_117_code 12 = .ok (.ifCond .ne 11, 3) := zsh_g zdk_597 (r := 3) (k := 0) rfl rfl rfl
theorem zd_597_15 : decode prog_14_method_117_code 15 = .ok (.iload_n 3, 1) := zsh_g zdk_597 (r := 3) (k := 1) rfl rfl rfl
theorem zd_597_16 : decode prog_14_method_117_code 16 = .ok (.ifCond .ne 7, 3) := zsh_g zdk_597 (r := 4) (k := 0) rfl rfl rfl
theorem zd_597_19 : decode prog_14_method_117_code 19 = .ok (.iconst 1, 1) := zsh_g zdk_597 (r := 4) (k := 1) rfl rfl rfl
theorem zd_597_20 : decode prog_14_method_117_code 20 = .ok (.goto 4, 3) := zsh_g zdk_597 (r := 5) (k := 0) rfl rfl rfl
theorem zd_597_23 : decode prog_14_method_117_code 23 = .ok (.iconst 0, 1) := zsh_g zdk_597 (r := 5) (k := 1) rfl rfl rfl
theorem zd_597_24 : decode prog_14_method_117_code 24 = .ok (.putfield 1228, 3) := zsh_g zdk_597 (r := 6) (k := 0) rfl rfl rfl
theorem zd_597_27 : decode prog_14_method_117_code 27 = .ok (.aload_n 0, 1) := zsh_g zdk_597 (r := 6) (k := 1) rfl rfl rfl
theorem zd_597_28 : decode prog_14_method_117_code 28 = .ok (.iload_n 1, 1) := zsh_g zdk_597 (r := 7) (k := 0) rfl rfl rfl
theorem zd_597_29 : decode prog_14_method_117_code 29 = .ok (.putfield 1234, 3) := zsh_g zdk_597 (r := 7) (k := 1) rfl rfl rfl
theorem zd_597_32 : decode prog_14_method_117_code 32 = .ok (.aload_n 0, 1) := zsh_g zdk_597 (r := 8) (k := 0) rfl rfl rfl
theorem zd_597_33 : decode prog_14_method_117_code 33 = .ok (.iload_n 2, 1) := zsh_g zdk_597 (r := 8) (k := 1) rfl rfl rfl
theorem zd_597_34 : decode prog_14_method_117_code 34 = .ok (.putfield 1237, 3) := zsh_g zdk_597 (r := 8) (k := 2) rfl rfl rfl
