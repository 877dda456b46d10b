/-! decode rows, by program -/
def zdl_453 : List (List (Nat × Instr × Nat)) := [[(0, (.aload_n 0), 1), (1, (.invokevirtual 1225), 3)], [(0, (.aload_n 0), 1), (1, (.invokevirtual 1222), 3)], [(0, (.iload_n 1), 1), (1, (.if_icmp .ne 7), 3)], [(0, (.iconst 1), 1), (1, (.goto 4), 3)], [(0, (.iconst 0), 1)]]
theorem zdk_453 : zsh_all 8 zdl_453 prog_14_method_112_code.data.toList = true := by decide +kernel
theorem zd_453_0 : decode prog_14_method_112_code 0 = .ok (.aload_n 0, 1) := zsh_g zdk_453 (r := 0) (k := 0) rfl rfl rfl
theorem zd_453_1 : decode prog_14_method_112_code 1 = .ok (.invokevirtual 1225, 3) := zsh_g zdk_453 (r := 0) (k := 1) rfl rfl rfl
theorem zd_453_4 : decode prog_14_method_112_code 4 = .ok (.aload_n 0, 1) := zsh_g zdk_453 (r := 1) (k := 0) rfl rfl rfl
theorem zd_453_5 : decode prog_14_method_112_code 5 = .ok (.invokevirtual 1222, 3) := zsh_g zdk_453 (r := 1) (k := 1) rfl rfl rfl
theorem zd_453_8 : decode prog_14_method_112_code 8 = .ok (.iload_n 1, 1) := zsh_g zdk_453 (r := 2) (k := 0) rfl rfl rfl
theorem zd_453_9 : decode prog_14_method_112_code 9 = .ok (.if_icmp .ne 7, 3) := zsh_g zdk_453 (r := 2) (k := 1) rfl rfl rfl
theorem zd_453_12 : decode prog_14_method_112_code 12 = .ok (.iconst 1, 1) := zsh_g zdk_453 (r := 3) (k := 0) rfl rfl rfl
theorem zd_453_13 : decode prog_14_method_112_code 13 = .ok (.goto 4, 3) := zsh_g zdk_453 (r := 3) (k := 1) rfl rfl rfl
theorem zd_453_16 : decode prog_14_method_112_code 16 = .ok (.iconst 0, 1) := zsh_g zdk_453 (r := 4) (k := 0) rfl rfl rfl
def zdl_454 : List (List (Nat × Instr × Nat)) := [[(0, (.aload_n 0), 1), (1, (.iload_n 1), 1), (2, (.invokevirtual 1456), 3)], [(1, (.istore_n 3), 1), (2, (.iload_n 3), 1), (3, (.ifCond .lt 9), 3)], [(2, (.aload_n 0), 1), (3, (.iload_n 3), 1)], [(0, (.invokevirtual 1474), 3)], [(0, (.iload_n 1), 1), (1, (.bipush 8), 2), (3, .isub, 1)], [(0, (.istore 4), 2), (2, (.iload 4), 2)], [(0, (.iconst 0), 1), (1, (.bipush 84), 2), (3, (.invokestatic 504), 3)], [(2, (.ifCond .eq 14), 3)], [(1, (.iload_n 2), 1), (2, (.ifCond .eq 16), 3)], [(1, (.iload 4), 2), (3, (.bipush 77), 2)], [(1, (.if_icmp .lt 9), 3)], [(0, (.aload_n 0), 1), (1, (.iconst 1), 1), (2, (.invokevirtual 1216), 3)], [(2, (.iload 4), 2)], [(0, (.bipush 64), 2), (2, (.if_icmp .ge 12), 3)], [(1, (.aload_n 0), 1), (2, (.iload 4), 2)], [(0, (.invokevirtual 1477), 3), (3, (.goto 9), 3)], [(2, (.aload_n 0), 1), (3, (.iload 4), 2)], [(1, (.invokevirtual 1480), 3)]]
theorem zdk_454 : zsh_all 8 zdl_454 prog_14_method_171_code.data.toList = true := by decide +kernel
theorem zd_454_0 : decode prog_14_method_171_code 0 = .ok (.aload_n 0, 1) := zsh_g zdk_454 (r := 0) (k := 0) rfl rfl rfl
theorem zd_454_1 : decode prog_14_method_171_code 1 = .ok (.iload_n 1, 1) := zsh_g zdk_454 (r := 0) (k := 1) rfl rfl rfl
theorem zd_454_2 : decode prog_14_method_171_code 2 = .ok (.invokevirtual 1456, 3) := zsh_g zdk_454 (r := 0) (k := 2) rfl rfl rfl
theorem zd_454_5 : decode prog_14_method_171_code 5 = .ok (.istore_n 3, 1) := zsh_g zdk_454 (r := 1) (k := 0) rfl rfl rfl
theorem zd_454_6 : decode prog_14_method_171_code 6 = .ok (.iload_n 3, 1) := zsh_g zdk_454 (r := 1) (k := 1) rfl rfl rfl
theorem zd_454_7 : decode prog_14_method_171_code 7 = .ok (.ifCond .lt 9, 3) := zsh_g zdk_454 (r := 1) (k := 2) rfl rfl rfl
theorem zd_454_10 : decode prog_14_method_171_code 10 = .ok (.aload_n 0, 1) := zsh_g zdk_454 (r := 2) (k := 0) rfl rfl rfl
theorem zd_454_11 : decode prog_14_method_171_code 11 = .ok (.iload_n 3, 1) := zsh_g zdk_454 (r := 2) (k := 1) rfl rfl rfl
theorem zd_454_12 : decode prog_14_method_171_code 12 = .ok (.invokevirtual 1474, 3) := zsh_g zdk_454 (r := 3) (k := 0) rfl rfl rfl
theorem zd_454_16 : decode prog_14_method_171_code 16 = .ok (.iload_n 1, 1) := zsh_g zdk_454 (r := 4) (k := 0) rfl rfl rfl
theorem zd_454_17 : decode prog_14_method_171_code 17 = .ok (.bipush 8, 2) := zsh_g zdk_454 (r := 4) (k := 1) rfl rfl rfl
theorem zd_454_19 : decode prog_14_method_171_code 19 = .ok (.isub, 1) := zsh_g zdk_454 (r := 4) (k := 2) rfl rfl rfl
theorem zd_454_20 : decode prog_14_method_171_code 20 = .ok (.istore 4, 2) := zsh_g zdk_454 (r := 5) (k := 0) rfl rfl rfl
theorem zd_454_22 : decode prog_14_method_171_code 22 = .ok (.iload 4, 2) := zsh_g zdk_454 (r := 5) (k := 1) rfl rfl rfl
theorem zd_454_24 : decode prog_14_method_171_code 24 = .ok (.iconst 0, 1) := zsh_g zdk_454 (r := 6) (k := 0) rfl rfl rfl
theorem zd_454_25 : decode prog_14_method_171_code 25 = .ok (.bipush 84, 2) := zsh_g zdk_454 (r := 6) (k := 1) rfl rfl rfl
theorem zd_454_27 : decode prog_14_method_171_code 27 = .ok (.invokestatic 504, 3) := zsh_g zdk_454 (r := 6) (k := 2) rfl rfl rfl
theorem zd_454_30 : decode prog_14_method_171_code 30 = .ok (.ifCond .eq 14, 3) := zsh_g zdk_454 (r := 7) (k := 0) rfl rfl rfl
theorem zd_454_33 : decode prog_14_method_171_code 33 = .ok (.iload_n 2, 1) := zsh_g zdk_454 (r := 8) (k := 0) rfl rfl rfl
theorem zd_454_34 : decode prog_14_method_171_code 34 = .ok (.ifCond .eq 16, 3) := zsh_g zdk_454 (r := 8) (k := 1) rfl rfl rfl
theorem zd_454_37 : decode prog_14_method_171_code 37 = .ok (.iload 4, 2) := zsh_g zdk_454 (r := 9) (k := 0) rfl rfl rfl
theorem zd_454_39 : decode prog_14_method_171_code 39 = .ok (.bipush 77, 2) := zsh_g zdk_454 (r := 9) (k := 1) rfl rfl rfl
theorem zd_454_41 : decode prog_14_method_171_code 41 = .ok (.if_icmp .lt 9, 3) := zsh_g zdk_454 (r := 10) (k := 0) rfl rfl rfl
theorem zd_454_44 : decode prog_14_method_171_code 44 = .ok (.aload_n 0, 1) := zsh_g zdk_454 (r := 11) (k := 0) rfl rfl rfl
theorem zd_454_45 : decode prog_14_method_171_code 45 = .ok (.iconst 1, 1) := zsh_g zdk_454 (r := 11) (k := 1) rfl rfl rfl
theorem zd_454_46 : decode prog_14_method_171_code 46 = .ok (.invokevirtual 1216, 3) := zsh_g zdk_454 (r := 11) (k := 2) rfl rfl rfl
theorem zd_454_50 : decode prog_14_method_171_code 50 = .ok (.iload 4, 2) := zsh_g zdk_454 (r := 12) (k := 0) rfl rfl rfl
theorem zd_454_52 : decode prog_14_method_171_code 52 = .ok (.bipush 64, 2) := zsh_g zdk_454 (r := 13) (k := 0) rfl rfl rfl
theorem zd_454_54 : decode prog_14_method_171_code 54 = .ok (.if_icmp .ge 12, 3) := zsh_g zdk_454 (r := 13) (k := 1) rfl rfl rfl
theorem zd_454_57 : decode prog_14_method_171_code 57 = .ok (.aload_n 0, 1) := zsh_g zdk_454 (r := 14) (k := 0) rfl rfl rfl
theorem zd_454_58 : decode prog_14_method_171_code 58 = .ok (.iload 4, 2) := zsh_g zdk_454 (r := 14) (k := 1) rfl rfl rfl
theorem zd_454_60 : decode prog_14_method_171_code 60 = .ok (.invokevirtual 1477, 3) := zsh_g zdk_454 (r := 15) (k := 0) rfl rfl rfl
theorem zd_454_63 : decode prog_14_method_171_code 63 = .ok (.goto 9, 3) := zsh_g zdk_454 (r := 15) (k := 1) rfl rfl rfl
theorem zd_454_66 : decode prog_14_method_171_code 66 = .ok (.aload_n 0, 1) := zsh_g zdk_454 (r := 16) (k := 0) rfl rfl rfl
theorem zd_454_67 : decode prog_14_method_171_code 67 = .ok (.iload 4, 2) := zsh_g zdk_454 (r := 16) (k := 1) rfl rfl rfl
theorem zd_454_69 : decode prog_14_method_171_code 69 = .ok (.invokevirtual 1480, 3) := zsh_g zdk_454 (r := 17) (k := 0) rfl rfl rfl
def zdl_455 : List (List (Nat × Instr × Nat)) := [[(0, (.aload_n 0), 1), (1, (.iload_n 1), 1), (2, (.invokevirtual 1299), 3)], [(1, (.ifCond .ge 11), 3)], [(0, (.aload_n 0), 1), (1, (.iload_n 1), 1), (2, (.invokevirtual 1257), 3)], [(1, (.ifCond .lt 9), 3)], [(0, (.aload_n 0), 1), (1, (.iconst 2), 1), (2, (.invokevirtual 1216), 3)], [(2, (.aload_n 0), 1), (3, (.getfield 72), 3)], [(2, (.aload_n 0), 1), (3, (.getfield 1174), 3)], [(2, .iaload, 1), (3, (.sipush 600), 3)], [(2, (.if_icmp .ne 10), 3)], [(1, (.aload_n 0), 1), (2, (.bipush 6), 2)], [(0, (.invokevirtual 1216), 3)], [(0, (.sipush 600), 3), (3, (.aload_n 0), 1)], [(0, (.getfield 1174), 3), (3, .imul, 1)], [(0, (.aload_n 0), 1), (1, (.getfield 72), 3)], [(0, (.aload_n 0), 1), (1, (.getfield 1174), 3)], [(0, .iaload, 1), (1, .iadd, 1), (2, (.istore_n 2), 1), (3, (.aload_n 0), 1)], [(0, (.getfield 75), 3), (3, (.iload_n 2), 1)], [(0, (.iload_n 1), 1), (1, .iastore, 1), (2, (.aload_n 0), 1), (3, (.getfield 78), 3)], [(2, (.iload_n 2), 1), (3, (.aload_n 0), 1)], [(0, (.getfield 1272), 3), (3, .iastore, 1)], [(0, (.aload_n 0), 1), (1, (.getfield 81), 3)], [(0, (.iload_n 2), 1), (1, (.aload_n 0), 1), (2, (.invokevirtual 1290), 3)], [(1, .iastore, 1), (2, (.aload_n 0), 1), (3, (.getfield 84), 3)], [(2, (.iload_n 2), 1), (3, (.aload_n 0), 1)], [(0, (.getfield 1177), 3), (3, .iastore, 1)], [(0, (.aload_n 0), 1), (1, (.getfield 72), 3)], [(0, (.aload_n 0), 1), (1, (.getfield 1174), 3)], [(0, .dup2, 1), (1, .iaload, 1), (2, (.iconst 1), 1), (3, .iadd, 1)], [(0, .iastore, 1), (1, (.aload_n 0), 1), (2, (.getfield 383), 3)], [(1, (.aload_n 0), 1), (2, (.getfield 1272), 3)], [(1, (.aload_n 0), 1), (2, (.invokevirtual 1290), 3)], [(1, .iastore, 1)]]
theorem zdk_455 : zsh_all 8 zdl_455 prog_14_method_131_code.data.toList = true := by decide +kernel
theorem zd_455_0 : decode prog_14_method_131_code 0 = .ok (.aload_n 0, 1) := zsh_g zdk_455 (r := 0) (k := 0) rfl rfl rfl
theorem zd_455_1 : decode prog_14_method_131_code 1 = .ok (.iload_n 1, 1) := zsh_g zdk_455 (r := 0) (k := 1) rfl rfl rfl
theorem zd_455_2 : decode prog_14_method_131_code 2 = .ok (.invokevirtual 1299, 3) := zsh_g zdk_455 (r := 0) (k := 2) rfl rfl rfl
theorem zd_455_5 : decode prog_14_method_131_code 5 = .ok (.ifCond .ge 11, 3) := zsh_g zdk_455 (r := 1) (k := 0) rfl rfl rfl
theorem zd_455_8 : decode prog_14_method_131_code 8 = .ok (.aload_n 0, 1) := zsh_g zdk_455 (r := 2) (k := 0) rfl rfl rfl
theorem zd_455_9 : decode prog_14_method_131_code 9 = .ok (.iload_n 1, 1) := zsh_g zdk_455 (r := 2) (k := 1) rfl rfl rfl
theorem zd_455_10 : decode prog_14_method_131_code 10 = .ok (.invokevirtual 1257, 3) := zsh_g zdk_455 (r := 2) (k := 2) rfl rfl rfl
theorem zd_455_13 : decode prog_14_method_131_code 13 = .ok (.ifCond .lt 9, 3) := zsh_g zdk_455 (r := 3) (k := 0) rfl rfl rfl
theorem zd_455_16 : decode prog_14_method_131_code 16 = .ok (.aload_n 0, 1) := zsh_g zdk_455 (r := 4) (k := 0) rfl rfl rfl
theorem zd_455_17 : decode prog_14_method_131_code 17 = .ok (.iconst 2, 1) := zsh_g zdk_455 (r := 4) (k := 1) rfl rfl rfl
theorem zd_455_18 : decode prog_14_method_131_code 18 = .ok (.invokevirtual 1216, 3) := zsh_g zdk_455 (r := 4) (k := 2) rfl rfl rfl
theorem zd_455_22 : decode prog_14_method_131_code 22 = .ok (.aload_n 0, 1) := zsh_g zdk_455 (r := 5) (k := 0) rfl rfl rfl
theorem zd_455_23 : decode prog_14_method_131_code 23 = .ok (.getfield 72, 3) := zsh_g zdk_455 (r := 5) (k := 1) rfl rfl rfl
theorem zd_455_26 : decode prog_14_method_131_code 26 = .ok (.aload_n 0, 1) := zsh_g zdk_455 (r := 6) (k := 0) rfl rfl rfl
theorem zd_455_27 : decode prog_14_method_131_code 27 = .ok (.getfield 1174, 3) := zsh_g zdk_455 (r := 6) (k := 1) rfl rfl rfl
theorem zd_455_30 : decode prog_14_method_131_code 30 = .ok (.iaload, 1) := zsh_g zdk_455 (r := 7) (k := 0) rfl rfl rfl
theorem zd_455_31 : decode prog_14_method_131_code 31 = .ok (.sipush 600, 3) := zsh_g zdk_455 (r := 7) (k := 1) rfl rfl rfl
theorem zd_455_34 : decode prog_14_method_131_code 34 = .ok (.if_icmp .ne 10, 3) := zsh_g zdk_455 (r := 8) (k := 0) rfl rfl rfl
theorem zd_455_37 : decode prog_14_method_131_code 37 = .ok (.aload_n 0, 1) := zsh_g zdk_455 (r := 9) (k := 0) rfl rfl rfl
theorem zd_455_38 : decode prog_14_method_131_code 38 = .ok (.bipush 6, 2) := zsh_g zdk_455 (r := 9) (k := 1) rfl rfl rfl
theorem zd_455_40 : decode prog_14_method_131_code 40 = .ok (.invokevirtual 1216, 3) := zsh_g zdk_455 (r := 10) (k := 0) rfl rfl rfl
theorem zd_455_44 : decode prog_14_method_131_code 44 = .ok (.sipush 600, 3) := zsh_g zdk_455 (r := 11) (k := 0) rfl rfl rfl
theorem zd_455_47 : decode prog_14_method_131_code 47 = .ok (.aload_n 0, 1) := zsh_g zdk_455 (r := 11) (k := 1) rfl rfl rfl
theorem zd_455_48 : decode prog_14_method_131_code 48 = .ok (.getfield 1174, 3) := zsh_g zdk_455 (r := 12) (k := 0) rfl rfl rfl
theorem zd_455_51 : decode prog_14_method_131_code 51 = .ok (.imul, 1) := zsh_g zdk_455 (r := 12) (k := 1) rfl rfl rfl
theorem zd_455_52 : decode prog_14_method_131_code 52 = .ok (.aload_n 0, 1) := zsh_g zdk_455 (r := 13) (k := 0) rfl rfl rfl
theorem zd_455_53 : decode prog_14_method_131_code 53 = .ok (.getfield 72, 3) := zsh_g zdk_455 (r := 13) (k := 1) rfl rfl rfl
theorem zd_455_56 : decode prog_14_method_131_code 56 = .ok (.aload_n 0, 1) := zsh_g zdk_455 (r := 14) (k := 0) rfl rfl rfl
theorem zd_455_57 : decode prog_14_method_131_code 57 = .ok (.getfield 1174, 3) := zsh_g zdk_455 (r := 14) (k := 1) rfl rfl rfl
theorem zd_455_60 : decode prog_14_method_131_code 60 = .ok (.iaload, 1) := zsh_g zdk_455 (r := 15) (k := 0) rfl rfl rfl
theorem zd_455_61 : decode prog_14_method_131_code 61 = .ok (.iadd, 1) := zsh_g zdk_455 (r := 15) (k := 1) rfl rfl rfl
theorem zd_455_62 : decode prog_14_method_131_code 62 = .ok (.istore_n 2, 1) := zsh_g zdk_455 (r := 15) (k := 2) rfl rfl rfl
theorem zd_455_63 : decode prog_14_method_131_code 63 = .ok (.aload_n 0, 1) := zsh_g zdk_455 (r := 15) (k := 3) rfl rfl rfl
theorem zd_455_64 : decode prog_14_method_131_code 64 = .ok (.getfield 75, 3) := zsh_g zdk_455 (r := 16) (k := 0) rfl rfl rfl
theorem zd_455_67 : decode prog_14_method_131_code 67 = .ok (.iload_n 2, 1) := zsh_g zdk_455 (r := 16) (k := 1) rfl rfl rfl
theorem zd_455_68 : decode prog_14_method_131_code 68 = .ok (.iload_n 1, 1) := zsh_g zdk_455 (r := 17) (k := 0) rfl rfl rfl
theorem zd_455_69 : decode prog_14_method_131_code 69 = .ok (.iastore, 1) := zsh_g zdk_455 (r := 17) (k := 1) rfl rfl rfl
theorem zd_455_70 : decode prog_14_method_131_code 70 = .ok (.aload_n 0, 1) := zsh_g zdk_455 (r := 17) (k := 2) rfl rfl rfl
theorem zd_455_71 : decode prog_14_method_131_code 71 = .ok (.getfield 78, 3) := zsh_g zdk_455 (r := 17) (k := 3) rfl rfl rfl
theorem zd_455_74 : decode prog_14_method_131_code 74 = .ok (.iload_n 2, 1) := zsh_g zdk_455 (r := 18) (k := 0) rfl rfl rfl
theorem zd_455_75 : decode prog_14_method_131_code 75 = .ok (.aload_n 0, 1) := zsh_g zdk_455 (r := 18) (k := 1) rfl rfl rfl
theorem zd_455_76 : decode prog_14_method_131_code 76 = .ok (.getfield 1272, 3) := zsh_g zdk_455 (r := 19) (k := 0) rfl rfl rfl
theorem zd_455_79 : decode prog_14_method_131_code 79 = .ok (.iastore, 1) := zsh_g zdk_455 (r := 19) (k := 1) rfl rfl rfl
theorem zd_455_80 : decode prog_14_method_131_code 80 = .ok (.aload_n 0, 1) := zsh_g zdk_455 (r := 20) (k := 0) rfl rfl rfl
theorem zd_455_81 : decode prog_14_method_131_code 81 = .ok (.getfield 81, 3) := zsh_g zdk_455 (r := 20) (k := 1) rfl rfl rfl
theorem zd_455_84 : decode prog_14_method_131_code 84 = .ok (.iload_n 2, 1) := zsh_g zdk_455 (r := 21) (k := 0) rfl rfl rfl
theorem zd_455_85 : decode prog_14_method_131_code 85 = .ok (.aload_n 0, 1) := zsh_g zdk_455 (r := 21) (k := 1) rfl rfl rfl
theorem zd_455_86 : decode prog_14_method_131_code 86 = .ok (.invokevirtual 1290, 3) := zsh_g zdk_455 (r := 21) (k := 2) rfl rfl rfl
theorem zd_455_89 : decode prog_14_method_131_code 89 = .ok (.iastore, 1) := zsh_g zdk_455 (r := 22) (k := 0) rfl rfl rfl
theorem zd_455_90 : decode prog_14_method_131_code 90 = .ok (.aload_n 0, 1) := zsh_g zdk_455 (r := 22) (k := 1) rfl rfl rfl
theorem zd_455_91 : decode prog_14_method_131_code 91 = .ok (.getfield 84, 3) := zsh_g zdk_455 (r := 22) (k := 2) rfl rfl rfl
theorem zd_455_94 : decode prog_14_method_131_code 94 = .ok (.iload_n 2, 1) := zsh_g zdk_455 (r := 23) (k := 0) rfl rfl rfl
theorem zd_455_95 : decode prog_14_method_131_code 95 = .ok (.aload_n 0, 1) := zsh_g zdk_455 (r := 23) (k := 1) rfl rfl rfl
theorem zd_455_96 : decode prog_14_method_131_code 96 = .ok (.getfield 1177, 3) := zsh_g zdk_455 (r := 24) (k := 0) rfl rfl rfl
theorem zd_455_99 : decode prog_14_method_131_code 99 = .ok (.iastore, 1) := zsh_g zdk_455 (r := 24) (k := 1) rfl rfl rfl
theorem zd_455_100 : decode prog_14_method_131_code 100 = .ok (.aload_n 0, 1) := zsh_g zdk_455 (r := 25) (k := 0) rfl rfl rfl
theorem zd_455_101 : decode prog_14_method_131_code 101 = .ok (.getfield 72, 3) := zsh_g zdk_455 (r := 25) (k := 1) rfl rfl rfl
theorem zd_455_104 : decode prog_14_method_131_code 104 = .ok (.aload_n 0, 1) := zsh_g zdk_455 (r := 26) (k := 0) rfl rfl rfl
theorem zd_455_105 : decode prog_14_method_131_code 105 = .ok (.getfield 1174, 3) := zsh_g zdk_455 (r := 26) (k := 1) rfl rfl rfl
theorem zd_455_108 : decode prog_14_method_131_code 108 = .ok (.dup2, 1) := zsh_g zdk_455 (r := 27) (k := 0) rfl rfl rfl
theorem zd_455_109 : decode prog_14_method_131_code 109 = .ok (.iaload, 1) := zsh_g zdk_455 (r := 27) (k := 1) rfl rfl rfl
theorem zd_455_110 : decode prog_14_method_131_code 110 = .ok (.iconst 1, 1) := zsh_g zdk_455 (r := 27) (k := 2) rfl rfl rfl
theorem zd_455_111 : decode prog_14_method_131_code 111 = .ok (.iadd, 1) := zsh_g zdk_455 (r := 27) (k := 3) rfl rfl rfl
theorem zd_455_112 : decode prog_14_method_131_code 112 = .ok (.iastore, 1) := zsh_g zdk_455 (r := 28) (k := 0) rfl rfl rfl
theorem zd_455_113 : decode prog_14_method_131_code 113 = .ok (.aload_n 0, 1) := zsh_g zdk_455 (r := 28) (k := 1) rfl rfl rfl
theorem zd_455_114 : decode prog_14_method_131_code 114 = .ok (.getfield 383, 3) := zsh_g zdk_455 (r := 28) (k := 2) rfl rfl rfl
theorem zd_455_117 : decode prog_14_method_131_code 117 = .ok (.aload_n 0, 1) := zsh_g zdk_455 (r := 29) (k := 0) rfl rfl rfl
theorem zd_455_118 : decode prog_14_method_131_code 118 = .ok (.getfield 1272, 3) := zsh_g zdk_455 (r := 29) (k := 1) rfl rfl rfl
theorem zd_455_121 : decode prog_14_method_131_code 121 = .ok (.aload_n 0, 1) := zsh_g zdk_455 (r := 30) (k := 0) rfl rfl rfl
theorem zd_455_122 : decode prog_14_method_131_code 122 = .ok (.invokevirtual 1290, 3) := zsh_g zdk_455 (r := 30) (k := 1) rfl rfl rfl
theorem zd_455_125 : decode prog_14_method_131_code 125 = .ok (.iastore, 1) := zsh_g zdk_455 (r := 31) (k := 0) rfl rfl rfl
def zdl_456 : List (List (Nat × Instr × Nat)) := [[(0, (.aload_n 0), 1), (1, (.getfield 401), 3)], [(0, (.iload_n 1), 1), (1, (.aload_n 0), 1), (2, (.getfield 1272), 3)], [(1, .iastore, 1), (2, (.aload_n 0), 1), (3, (.getfield 404), 3)], [(2, (.iload_n 1), 1), (3, (.aload_n 0), 1)], [(0, (.invokevirtual 1290), 3), (3, .iastore, 1)], [(0, (.aload_n 0), 1), (1, (.getfield 383), 3)], [(0, (.aload_n 0), 1), (1, (.getfield 1272), 3)], [(0, (.aload_n 0), 1), (1, (.invokevirtual 1290), 3)], [(0, .iastore, 1), (1, (.iconst 0), 1), (2, (.istore_n 2), 1), (3, (.iload_n 2), 1)], [(0, (.aload_n 0), 1), (1, (.getfield 1281), 3)], [(0, (.if_icmp .ge 63), 3), (3, (.aload_n 0), 1)], [(0, (.getfield 416), 3), (3, (.iload_n 2), 1)], [(0, .iaload, 1), (1, (.iconst 3), 1), (2, (.if_icmp .ne 47), 3)], [(1, (.aload_n 0), 1), (2, (.getfield 419), 3)], [(1, (.iload_n 2), 1), (2, .iaload, 1), (3, (.iload_n 1), 1)], [(0, (.if_icmp .ne 37), 3), (3, (.aload_n 0), 1)], [(0, (.getfield 416), 3), (3, (.iload_n 2), 1)], [(0, (.iconst 2), 1), (1, .iastore, 1), (2, (.aload_n 0), 1), (3, (.getfield 422), 3)], [(2, (.iload_n 2), 1), (3, (.aload_n 0), 1)], [(0, (.getfield 1272), 3), (3, .iastore, 1)], [(0, (.aload_n 0), 1), (1, (.getfield 425), 3)], [(0, (.iload_n 2), 1), (1, (.aload_n 0), 1), (2, (.getfield 425), 3)], [(1, (.iload_n 2), 1), (2, .iaload, 1), (3, (.aload_n 0), 1)], [(0, (.invokevirtual 1290), 3), (3, .iadd, 1)], [(0, .iastore, 1), (1, (.iinc 2 1), 3)], [(0, (.goto (-65)), 3)]]
theorem zdk_456 : zsh_all 8 zdl_456 prog_14_method_132_code.data.toList = true := by decide +kernel
theorem zd_456_0 : decode prog_14_method_132_code 0 = .ok (.aload_n 0, 1) := zsh_g zdk_456 (r := 0) (k := 0) rfl rfl rfl
theorem zd_456_1 : decode prog_14_method_132_code 1 = .ok (.getfield 401, 3) := zsh_g zdk_456 (r := 0) (k := 1) rfl rfl rfl
theorem zd_456_4 : decode prog_14_method_132_code 4 = .ok (.iload_n 1, 1) := zsh_g zdk_456 (r := 1) (k := 0) rfl rfl rfl
theorem zd_456_5 : decode prog_14_method_132_code 5 = .ok (.aload_n 0, 1) := zsh_g zdk_456 (r := 1) (k := 1) rfl rfl rfl
theorem zd_456_6 : decode prog_14_method_132_code 6 = .ok (.getfield 1272, 3) := zsh_g zdk_456 (r := 1) (k := 2) rfl rfl rfl
theorem zd_456_9 : decode prog_14_method_132_code 9 = .ok (.iastore, 1) := zsh_g zdk_456 (r := 2) (k := 0) rfl rfl rfl
theorem zd_456_10 : decode prog_14_method_132_code 10 = .ok (.aload_n 0, 1) := zsh_g zdk_456 (r := 2) (k := 1) rfl rfl rfl
theorem zd_456_11 : decode prog_14_method_132_code 11 = .ok (.getfield 404, 3) := zsh_g zdk_456 (r := 2) (k := 2) rfl rfl rfl
theorem zd_456_14 : decode prog_14_method_132_code 14 = .ok (.iload_n 1, 1) := zsh_g zdk_456 (r := 3) (k := 0) rfl rfl rfl
theorem zd_456_15 : decode prog_14_method_132_code 15 = .ok (.aload_n 0, 1) := zsh_g zdk_456 (r := 3) (k := 1) rfl rfl rfl
theorem zd_456_16 : decode prog_14_method_132_code 16 = .ok (.invokevirtual 1290, 3) := zsh_g zdk_456 (r := 4) (k := 0) rfl rfl rfl
theorem zd_456_19 : decode prog_14_method_132_code 19 = .ok (.iastore, 1) := zsh_g zdk_456 (r := 4) (k := 1) rfl rfl rfl
theorem zd_456_20 : decode prog_14_method_132_code 20 = .ok (.aload_n 0, 1) := zsh_g zdk_456 (r := 5) (k := 0) rfl rfl rfl
theorem zd_456_21 : decode prog_14_method_132_code 21 = .ok (.getfield 383, 3) := zsh_g zdk_456 (r := 5) (k := 1) rfl rfl rfl
theorem zd_456_24 : decode prog_14_method_132_code 24 = .ok (.aload_n 0, 1) := zsh_g zdk_456 (r := 6) (k := 0) rfl rfl rfl
theorem zd_456_25 : decode prog_14_method_132_code 25 = .ok (.getfield 1272, 3) := zsh_g zdk_456 (r := 6) (k := 1) rfl rfl rfl
theorem zd_456_28 : decode prog_14_method_132_code 28 = .ok (.aload_n 0, 1) := zsh_g zdk_456 (r := 7) (k := 0) rfl rfl rfl
theorem zd_456_29 : decode prog_14_method_132_code 29 = .ok (.invokevirtual 1290, 3) := zsh_g zdk_456 (r := 7) (k := 1) rfl rfl rfl
theorem zd_456_32 : decode prog_14_method_132_code 32 = .ok (.iastore, 1) := zsh_g zdk_456 (r := 8) (k := 0) rfl rfl rfl
theorem zd_456_33 : decode prog_14_method_132_code 33 = .ok (.iconst 0, 1) := zsh_g zdk_456 (r := 8) (k := 1) rfl rfl rfl
theorem zd_456_34 : decode prog_14_method_132_code 34 = .ok (.istore_n 2, 1) := zsh_g zdk_456 (r := 8) (k := 2) rfl rfl rfl
theorem zd_456_35 : decode prog_14_method_132_code 35 = .ok (.iload_n 2, 1) := zsh_g zdk_456 (r := 8) (k := 3) rfl rfl rfl
theorem zd_456_36 : decode prog_14_method_132_code 36 = .ok (.aload_n 0, 1) := zsh_g zdk_456 (r := 9) (k := 0) rfl rfl rfl
theorem zd_456_37 : decode prog_14_method_132_code 37 = .ok (.getfield 1281, 3) := zsh_g zdk_456 (r := 9) (k := 1) rfl rfl rfl
theorem zd_456_40 : decode prog_14_method_132_code 40 = .ok (.if_icmp .ge 63, 3) := zsh_g zdk_456 (r := 10) (k := 0) rfl rfl rfl
theorem zd_456_43 : decode prog_14_method_132_code 43 = .ok (.aload_n 0, 1) := zsh_g zdk_456 (r := 10) (k := 1) rfl rfl rfl
theorem zd_456_44 : decode prog_14_method_132_code 44 = .ok (.getfield 416, 3) := zsh_g zdk_456 (r := 11) (k := 0) rfl rfl rfl
theorem zd_456_47 : decode prog_14_method_132_code 47 = .ok (.iload_n 2, 1) := zsh_g zdk_456 (r := 11) (k := 1) rfl rfl rfl
theorem zd_456_48 : decode prog_14_method_132_code 48 = .ok (.iaload, 1) := zsh_g zdk_456 (r := 12) (k := 0) rfl rfl rfl
theorem zd_456_49 : decode prog_14_method_132_code 49 = .ok (.iconst 3, 1) := zsh_g zdk_456 (r := 12) (k := 1) rfl rfl rfl
theorem zd_456_50 : decode prog_14_method_132_code 50 = .ok (.if_icmp .ne 47, 3) := zsh_g zdk_456 (r := 12) (k := 2) rfl rfl rfl
theorem zd_456_53 : decode prog_14_method_132_code 53 = .ok (.aload_n 0, 1) := zsh_g zdk_456 (r := 13) (k := 0) rfl rfl rfl
theorem zd_456_54 : decode prog_14_method_132_code 54 = .ok (.getfield 419, 3) := zsh_g zdk_456 (r := 13) (k := 1) rfl rfl rfl
theorem zd_456_57 : decode prog_14_method_132_code 57 = .ok (.iload_n 2, 1) := zsh_g zdk_456 (r := 14) (k := 0) rfl rfl rfl
theorem zd_456_58 : decode prog_14_method_132_code 58 = .ok (.iaload, 1) := zsh_g zdk_456 (r := 14) (k := 1) rfl rfl rfl
theorem zd_456_59 : decode prog_14_method_132_code 59 = .ok (.iload_n 1, 1) := zsh_g zdk_456 (r := 14) (k := 2) rfl rfl rfl
theorem zd_456_60 : decode prog_14_method_132_code 60 = .ok (.if_icmp .ne 37, 3) := zsh_g zdk_456 (r := 15) (k := 0) rfl rfl rfl
theorem zd_456_63 : decode prog_14_method_132_code 63 = .ok (.aload_n 0, 1) := zsh_g zdk_456 (r := 15) (k := 1) rfl rfl rfl
theorem zd_456_64 : decode prog_14_method_132_code 64 = .ok (.getfield 416, 3) := zsh_g zdk_456 (r := 16) (k := 0) rfl rfl rfl
theorem zd_456_67 : decode prog_14_method_132_code 67 = .ok (.iload_n 2, 1) := zsh_g zdk_456 (r := 16) (k := 1) rfl rfl rfl
theorem zd_456_68 : decode prog_14_method_132_code 68 = .ok (.iconst 2, 1) := zsh_g zdk_456 (r := 17) (k := 0) rfl rfl rfl
theorem zd_456_69 : decode prog_14_method_132_code 69 = .ok (.iastore, 1) := zsh_g zdk_456 (r := 17) (k := 1) rfl rfl rfl
theorem zd_456_70 : decode prog_14_method_132_code 70 = .ok (.aload_n 0, 1) := zsh_g zdk_456 (r := 17) (k := 2) rfl rfl rfl
theorem zd_456_71 : decode prog_14_method_132_code 71 = .ok (.getfield 422, 3) := zsh_g zdk_456 (r := 17) (k := 3) rfl rfl rfl
theorem zd_456_74 : decode prog_14_method_132_code 74 = .ok (.iload_n 2, 1) := zsh_g zdk_456 (r := 18) (k := 0) rfl rfl rfl
theorem zd_456_75 : decode prog_14_method_132_code 75 = .ok (.aload_n 0, 1) := zsh_g zdk_456 (r := 18) (k := 1) rfl rfl rfl
theorem zd_456_76 : decode prog_14_method_132_code 76 = .ok (.getfield 1272, 3) := zsh_g zdk_456 (r := 19) (k := 0) rfl rfl rfl
theorem zd_456_79 : decode prog_14_method_132_code 79 = .ok (.iastore, 1) := zsh_g zdk_456 (r := 19) (k := 1) rfl rfl rfl
theorem zd_456_80 : decode prog_14_method_132_code 80 = .ok (.aload_n 0, 1) := zsh_g zdk_456 (r := 20) (k := 0) rfl rfl rfl
theorem zd_456_81 : decode prog_14_method_132_code 81 = .ok (.getfield 425, 3) := zsh_g zdk_456 (r := 20) (k := 1) rfl rfl rfl
theorem zd_456_84 : decode prog_14_method_132_code 84 = .ok (.iload_n 2, 1) := zsh_g zdk_456 (r := 21) (k := 0) rfl rfl rfl
theorem zd_456_85 : decode prog_14_method_132_code 85 = .ok (.aload_n 0, 1) := zsh_g zdk_456 (r := 21) (k := 1) rfl rfl rfl
theorem zd_456_86 : decode prog_14_method_132_code 86 = .ok (.getfield 425, 3) := zsh_g zdk_456 (r := 21) (k := 2) rfl rfl rfl
theorem zd_456_89 : decode prog_14_method_132_code 89 = .ok (.iload_n 2, 1) := zsh_g zdk_456 (r := 22) (k := 0) rfl rfl rfl
theorem zd_456_90 : decode prog_14_method_132_code 90 = .ok (.iaload, 1) := zsh_g zdk_456 (r := 22) (k := 1) rfl rfl rfl
theorem zd_456_91 : decode prog_14_method_132_code 91 = .ok (.aload_n 0, 1) := zsh_g zdk_456 (r := 22) (k := 2) rfl rfl rfl
theorem zd_456_92 : decode prog_14_method_132_code 92 = .ok (.invokevirtual 1290, 3) := zsh_g zdk_456 (r := 23) (k := 0) rfl rfl rfl
theorem zd_456_95 : decode prog_14_method_132_code 95 = .ok (.iadd, 1) := zsh_g zdk_456 (r := 23) (k := 1) rfl rfl rfl
theorem zd_456_96 : decode prog_14_method_132_code 96 = .ok (.iastore, 1) := zsh_g zdk_456 (r := 24) (k := 0) rfl rfl rfl
theorem zd_456_97 : decode prog_14_method_132_code 97 = .ok (.iinc 2 1, 3) := zsh_g zdk_456 (r := 24) (k := 1) rfl rfl rfl
theorem zd_456_100 : decode prog_14_method_132_code 100 = .ok (.goto (-65), 3) := zsh_g zdk_456 (r := 25) (k := 0) rfl rfl rfl
def zdl_457 : List (List (Nat × Instr × Nat)) := [[(0, (.iconst (-1)), 1), (1, (.istore_n 2), 1), (2, (.iconst 0), 1), (3, (.istore_n 3), 1)], [(0, (.iload_n 3), 1), (1, (.aload_n 0), 1), (2, (.getfield 72), 3)], [(1, (.aload_n 0), 1), (2, (.getfield 1174), 3)], [(1, .iaload, 1), (2, (.if_icmp .ge 34), 3)], [(1, (.aload_n 0), 1), (2, (.getfield 75), 3)], [(1, (.sipush 600), 3)], [(0, (.aload_n 0), 1), (1, (.getfield 1174), 3)], [(0, .imul, 1), (1, (.iload_n 3), 1), (2, .iadd, 1), (3, .iaload, 1)], [(0, (.iload_n 1), 1), (1, (.if_icmp .ne 7), 3)], [(0, (.iload_n 3), 1), (1, (.goto 4), 3)], [(0, (.iload_n 2), 1), (1, (.istore_n 2), 1), (2, (.iinc 3 1), 3)], [(1, (.goto (-41)), 3)], [(0, (.iload_n 2), 1)]]
theorem zdk_457 : zsh_all 8 zdl_457 prog_14_method_130_code.data.toList = true := by decide +kernel
theorem zd_457_0 : decode prog_14_method_130_code 0 = .ok (.iconst (-1), 1) := zsh_g zdk_457 (r := 0) (k := 0) rfl rfl rfl
theorem zd_457_1 : decode prog_14_method_130_code 1 = .ok (.istore_n 2, 1) := zsh_g zdk_457 (r := 0) (k := 1) rfl rfl rfl
theorem zd_457_2 : decode prog_14_method_130_code 2 = .ok (.iconst 0, 1) := zsh_g zdk_457 (r := 0) (k := 2) rfl rfl rfl
theorem zd_457_3 : decode prog_14_method_130_code 3 = .ok (.istore_n 3, 1) := zsh_g zdk_457 (r := 0) (k := 3) rfl rfl rfl
theorem zd_457_4 : decode prog_14_method_130_code 4 = .ok (.iload_n 3, 1) := zsh_g zdk_457 (r := 1) (k := 0) rfl rfl rfl
theorem zd_457_5 : decode prog_14_method_130_code 5 = .ok (.aload_n 0, 1) := zsh_g zdk_457 (r := 1) (k := 1) rfl rfl rfl
theorem zd_457_6 : decode prog_14_method_130_code 6 = .ok (.getfield 72, 3) := zsh_g zdk_457 (r := 1) (k := 2) rfl rfl rfl
theorem zd_457_9 : decode prog_14_method_130_code 9 = .ok (.aload_n 0, 1) := zsh_g zdk_457 (r := 2) (k := 0) rfl rfl rfl
theorem zd_457_10 : decode prog_14_method_130_code 10 = .ok (.getfield 1174, 3) := zsh_g zdk_457 (r := 2) (k := 1) rfl rfl rfl
theorem zd_457_13 : decode prog_14_method_130_code 13 = .ok (.iaload, 1) := zsh_g zdk_457 (r := 3) (k := 0) rfl rfl rfl
theorem zd_457_14 : decode prog_14_method_130_code 14 = .ok (.if_icmp .ge 34, 3) := zsh_g zdk_457 (r := 3) (k := 1) rfl rfl rfl
theorem zd_457_17 : decode prog_14_method_130_code 17 = .ok (.aload_n 0, 1) := zsh_g zdk_457 (r := 4) (k := 0) rfl rfl rfl
theorem zd_457_18 : decode prog_14_method_130_code 18 = .ok (.getfield 75, 3) := zsh_g zdk_457 (r := 4) (k := 1) rfl rfl rfl
theorem zd_457_21 : decode prog_14_method_130_code 21 = .ok (.sipush 600, 3) := zsh_g zdk_457 (r := 5) (k := 0) rfl rfl rfl
theorem zd_457_24 : decode prog_14_method_130_code 24 = .ok (.aload_n 0, 1) := zsh_g zdk_457 (r := 6) (k := 0) rfl rfl rfl
theorem zd_457_25 : decode prog_14_method_130_code 25 = .ok (.getfield 1174, 3) := zsh_g zdk_457 (r := 6) (k := 1) rfl rfl rfl
theorem zd_457_28 : decode prog_14_method_130_code 28 = .ok (.imul, 1) := zsh_g zdk_457 (r := 7) (k := 0) rfl rfl rfl
theorem zd_457_29 : decode prog_14_method_130_code 29 = .ok (.iload_n 3, 1) := zsh_g zdk_457 (r := 7) (k := 1) rfl rfl rfl
theorem zd_457_30 : decode prog_14_method_130_code 30 = .ok (.iadd, 1) := zsh_g zdk_457 (r := 7) (k := 2) rfl rfl rfl
theorem zd_457_31 : decode prog_14_method_130_code 31 = .ok (.iaload, 1) := zsh_g zdk_457 (r := 7) (k := 3) rfl rfl rfl
theorem zd_457_32 : decode prog_14_method_130_code 32 = .ok (.iload_n 1, 1) := zsh_g zdk_457 (r := 8) (k := 0) rfl rfl rfl
theorem zd_457_33 : decode prog_14_method_130_code 33 = .ok (.if_icmp .ne 7, 3) := zsh_g zdk_457 (r := 8) (k := 1) rfl rfl rfl
theorem zd_457_36 : decode prog_14_method_130_code 36 = .ok (.iload_n 3, 1) := zsh_g zdk_457 (r := 9) (k := 0) rfl rfl rfl
theorem zd_457_37 : decode prog_14_method_130_code 37 = .ok (.goto 4, 3) := zsh_g zdk_457 (r := 9) (k := 1) rfl rfl rfl
theorem zd_457_40 : decode prog_14_method_130_code 40 = .ok (.iload_n 2, 1) := zsh_g zdk_457 (r := 10) (k := 0) rfl rfl rfl
theorem zd_457_41 : decode prog_14_method_130_code 41 = .ok (.istore_n 2, 1) := zsh_g zdk_457 (r := 10) (k := 1) rfl rfl rfl
theorem zd_457_42 : decode prog_14_method_130_code 42 = .ok (.iinc 3 1, 3) := zsh_g zdk_457 (r := 10) (k := 2) rfl rfl rfl
theorem zd_457_45 : decode prog_14_method_130_code 45 = .ok (.goto (-41), 3) := zsh_g zdk_457 (r := 11) (k := 0) rfl rfl rfl
theorem zd_457_48 : decode prog_14_method_130_code 48 = .ok (.iload_n 2, 1) := zsh_g zdk_457 (r := 12) (k := 0) rfl rfl rfl
def zdl_458 : List (List (Nat × Instr × Nat)) := [[(0, (.iload_n 3), 1), (1, (.ifCond .eq 12), 3)], [(0, (.iload_n 1), 1), (1, .i2l, 1), (2, (.ldc2_w 1245), 3)], [(1, .land, 1), (2, (.goto 5), 3)], [(1, (.iload_n 1), 1), (2, .i2l, 1), (3, (.lstore 4), 2)], [(1, (.iload_n 3), 1), (2, (.ifCond .eq 12), 3)], [(1, (.iload_n 2), 1), (2, .i2l, 1), (3, (.ldc2_w 1245), 3)], [(2, .land, 1), (3, (.goto 5), 3)], [(2, (.iload_n 2), 1), (3, .i2l, 1)], [(0, (.lstore 6), 2), (2, (.lload 4), 2)], [(0, (.lload 6), 2), (2, .lmul, 1), (3, (.lstore 8), 2)], [(1, (.aload_n 0), 1), (2, (.lload 8), 2)], [(0, (.bipush 32), 2), (2, .lushr, 1), (3, .l2i, 1)], [(0, (.putfield 1644), 3), (3, (.aload_n 0), 1)], [(0, (.lload 8), 2), (2, .l2i, 1), (3, (.putfield 1647), 3)]]
theorem zdk_458 : zsh_all 8 zdl_458 prog_14_method_217_code.data.toList = true := by decide +kernel
theorem zd_458_0 : decode prog_14_method_217_code 0 = .ok (.iload_n 3, 1) := zsh_g zdk_458 (r := 0) (k := 0) rfl rfl rfl
theorem zd_458_1 : decode prog_14_method_217_code 1 = .ok (.ifCond .eq 12, 3) := zsh_g zdk_458 (r := 0) (k := 1) rfl rfl rfl
theorem zd_458_4 : decode prog_14_method_217_code 4 = .ok (.iload_n 1, 1) := zsh_g zdk_458 (r := 1) (k := 0) rfl rfl rfl
theorem zd_458_5 : decode prog_14_method_217_code 5 = .ok (.i2l, 1) := zsh_g zdk_458 (r := 1) (k := 1) rfl rfl rfl
theorem zd_458_6 : decode prog_14_method_217_code 6 = .ok (.ldc2_w 1245, 3) := zsh_g zdk_458 (r := 1) (k := 2) rfl rfl rfl
theorem zd_458_9 : decode prog_14_method_217_code 9 = .ok (.land, 1) := zsh_g zdk_458 (r := 2) (k := 0) rfl rfl rfl
theorem zd_458_10 : decode prog_14_method_217_code 10 = .ok (.goto 5, 3) := zsh_g zdk_458 (r := 2) (k := 1) rfl rfl rfl
theorem zd_458_13 : decode prog_14_method_217_code 13 = .ok (.iload_n 1, 1) := zsh_g zdk_458 (r := 3) (k := 0) rfl rfl rfl
theorem zd_458_14 : decode prog_14_method_217_code 14 = .ok (.i2l, 1) := zsh_g zdk_458 (r := 3) (k := 1) rfl rfl rfl
theorem zd_458_15 : decode prog_14_method_217_code 15 = .ok (.lstore 4, 2) := zsh_g zdk_458 (r := 3) (k := 2) rfl rfl rfl
theorem zd_458_17 : decode prog_14_method_217_code 17 = .ok (.iload_n 3, 1) := zsh_g zdk_458 (r := 4) (k := 0) rfl rfl rfl
theorem zd_458_18 : decode prog_14_method_217_code 18 = .ok (.ifCond .eq 12, 3) := zsh_g zdk_458 (r := 4) (k := 1) rfl rfl rfl
theorem zd_458_21 : decode prog_14_method_217_code 21 = .ok (.iload_n 2, 1) := zsh_g zdk_458 (r := 5) (k := 0) rfl rfl rfl
theorem zd_458_22 : decode prog_14_method_217_code 22 = .ok (.i2l, 1) := zsh_g zdk_458 (r := 5) (k := 1) rfl rfl rfl
theorem zd_458_23 : decode prog_14_method_217_code 23 = .ok (.ldc2_w 1245, 3) := zsh_g zdk_458 (r := 5) (k := 2) rfl rfl rfl
theorem zd_458_26 : decode prog_14_method_217_code 26 = .ok (.land, 1) := zsh_g zdk_458 (r := 6) (k := 0) rfl rfl rfl
theorem zd_458_27 : decode prog_14_method_217_code 27 = .ok (.goto 5, 3) := zsh_g zdk_458 (r := 6) (k := 1) rfl rfl rfl
theorem zd_458_30 : decode prog_14_method_217_code 30 = .ok (.iload_n 2, 1) := zsh_g zdk_458 (r := 7) (k := 0) rfl rfl rfl
theorem zd_458_31 : decode prog_14_method_217_code 31 = .ok (.i2l, 1) := zsh_g zdk_458 (r := 7) (k := 1) rfl rfl rfl
theorem zd_458_32 : decode prog_14_method_217_code 32 = .ok (.lstore 6, 2) := zsh_g zdk_458 (r := 8) (k := 0) rfl rfl rfl
theorem zd_458_34 : decode prog_14_method_217_code 34 = .ok (.lload 4, 2) := zsh_g zdk_458 (r := 8) (k := 1) rfl rfl rfl
theorem zd_458_36 : decode prog_14_method_217_code 36 = .ok (.lload 6, 2) := zsh_g zdk_458 (r := 9) (k := 0) rfl rfl rfl
theorem zd_458_38 : decode prog_14_method_217_code 38 = .ok (.lmul, 1) := zsh_g zdk_458 (r := 9) (k := 1) rfl rfl rfl
theorem zd_458_39 : decode prog_14_method_217_code 39 = .ok (.lstore 8, 2) := zsh_g zdk_458 (r := 9) (k := 2) rfl rfl rfl
theorem zd_458_41 : decode prog_14_method_217_code 41 = .ok (.aload_n 0, 1) := zsh_g zdk_458 (r := 10) (k := 0) rfl rfl rfl
theorem zd_458_42 : decode prog_14_method_217_code 42 = .ok (.lload 8, 2) := zsh_g zdk_458 (r := 10) (k := 1) rfl rfl rfl
theorem zd_458_44 : decode prog_14_method_217_code 44 = .ok (.bipush 32, 2) := zsh_g zdk_458 (r := 11) (k := 0) rfl rfl rfl
theorem zd_458_46 : decode prog_14_method_217_code 46 = .ok (.lushr, 1) := zsh_g zdk_458 (r := 11) (k := 1) rfl rfl rfl
theorem zd_458_47 : decode prog_14_method_217_code 47 = .ok (.l2i, 1) := zsh_g zdk_458 (r := 11) (k := 2) rfl rfl rfl
theorem zd_458_48 : decode prog_14_method_217_code 48 = .ok (.putfield 1644, 3) := zsh_g zdk_458 (r := 12) (k := 0) rfl rfl rfl
theorem zd_458_51 : decode prog_14_method_217_code 51 = .ok (.aload_n 0, 1) := zsh_g zdk_458 (r := 12) (k := 1) rfl rfl rfl
theorem zd_458_52 : decode prog_14_method_217_code 52 = .ok (.lload 8, 2) := zsh_g zdk_458 (r := 13) (k := 0) rfl rfl rfl
theorem zd_458_54 : decode prog_14_method_217_code 54 = .ok (.l2i, 1) := zsh_g zdk_458 (r := 13) (k := 1) rfl rfl rfl
theorem zd_458_55 : decode prog_14_method_217_code 55 = .ok (.putfield 1647, 3) := zsh_g zdk_458 (r := 13) (k := 2) rfl rfl rfl
def zdl_459 : List (List (Nat × Instr × Nat)) := [[(0, (.iload_n 2), 1), (1, (.ifCond .ne 4), 3)], [(1, (.iload_n 3), 1), (2, (.ifCond .eq 12), 3)], [(1, (.iload_n 1), 1), (2, .i2l, 1), (3, (.ldc2_w 1245), 3)], [(2, .land, 1), (3, (.goto 5), 3)], [(2, (.iload_n 1), 1), (3, .i2l, 1)], [(0, (.lstore 4), 2), (2, (.iload_n 3), 1), (3, (.ifCond .eq 12), 3)], [(2, (.iload_n 2), 1), (3, .i2l, 1)], [(0, (.ldc2_w 1245), 3), (3, .land, 1)], [(0, (.goto 5), 3), (3, (.iload_n 2), 1)], [(0, .i2l, 1), (1, (.lstore 6), 2), (3, (.aload_n 0), 1)], [(0, (.lload 4), 2), (2, (.lload 6), 2)], [(0, .ldiv, 1), (1, .l2i, 1), (2, (.putfield 1647), 3)], [(1, (.aload_n 0), 1), (2, (.lload 4), 2)], [(0, (.lload 6), 2), (2, .lrem, 1), (3, .l2i, 1)], [(0, (.putfield 1644), 3)]]
theorem zdk_459 : zsh_all 8 zdl_459 prog_14_method_218_code.data.toList = true := by decide +kernel
theorem zd_459_0 : decode prog_14_method_218_code 0 = .ok (.iload_n 2, 1) := zsh_g zdk_459 (r := 0) (k := 0) rfl rfl rfl
theorem zd_459_1 : decode prog_14_method_218_code 1 = .ok (.ifCond .ne 4, 3) := zsh_g zdk_459 (r := 0) (k := 1) rfl rfl rfl
theorem zd_459_5 : decode prog_14_method_218_code 5 = .ok (.iload_n 3, 1) := zsh_g zdk_459 (r := 1) (k := 0) rfl rfl rfl
theorem zd_459_6 : decode prog_14_method_218_code 6 = .ok (.ifCond .eq 12, 3) := zsh_g zdk_459 (r := 1) (k := 1) rfl rfl rfl
theorem zd_459_9 : decode prog_14_method_218_code 9 = .ok (.iload_n 1, 1) := zsh_g zdk_459 (r := 2) (k := 0) rfl rfl rfl
theorem zd_459_10 : decode prog_14_method_218_code 10 = .ok (.i2l, 1) := zsh_g zdk_459 (r := 2) (k := 1) rfl rfl rfl
theorem zd_459_11 : decode prog_14_method_218_code 11 = .ok (.ldc2_w 1245, 3) := zsh_g zdk_459 (r := 2) (k := 2) rfl rfl rfl
theorem zd_459_14 : decode prog_14_method_218_code 14 = .ok (.land, 1) := zsh_g zdk_459 (r := 3) (k := 0) rfl rfl rfl
theorem zd_459_15 : decode prog_14_method_218_code 15 = .ok (.goto 5, 3) := zsh_g zdk_459 (r := 3) (k := 1) rfl rfl rfl
theorem zd_459_18 : decode prog_14_method_218_code 18 = .ok (.iload_n 1, 1) := zsh_g zdk_459 (r := 4) (k := 0) rfl rfl rfl
theorem zd_459_19 : decode prog_14_method_218_code 19 = .ok (.i2l, 1) := zsh_g zdk_459 (r := 4) (k := 1) rfl rfl rfl
theorem zd_459_20 : decode prog_14_method_218_code 20 = .ok (.lstore 4, 2) := zsh_g zdk_459 (r := 5) (k := 0) rfl rfl rfl
theorem zd_459_22 : decode prog_14_method_218_code 22 = .ok (.iload_n 3, 1) := zsh_g zdk_459 (r := 5) (k := 1) rfl rfl rfl
theorem zd_459_23 : decode prog_14_method_218_code 23 = .ok (.ifCond .eq 12, 3) := zsh_g zdk_459 (r := 5) (k := 2) rfl rfl rfl
theorem zd_459_26 : decode prog_14_method_218_code 26 = .ok (.iload_n 2, 1) := zsh_g zdk_459 (r := 6) (k := 0) rfl rfl rfl
theorem zd_459_27 : decode prog_14_method_218_code 27 = .ok (.i2l, 1) := zsh_g zdk_459 (r := 6) (k := 1) rfl rfl rfl
theorem zd_459_28 : decode prog_14_method_218_code 28 = .ok (.ldc2_w 1245, 3) := zsh_g zdk_459 (r := 7) (k := 0) rfl rfl rfl
theorem zd_459_31 : decode prog_14_method_218_code 31 = .ok (.land, 1) := zsh_g zdk_459 (r := 7) (k := 1) rfl rfl rfl
theorem zd_459_32 : decode prog_14_method_218_code 32 = .ok (.goto 5, 3) := zsh_g zdk_459 (r := 8) (k := 0) rfl rfl rfl
theorem zd_459_35 : decode prog_14_method_218_code 35 = .ok (.iload_n 2, 1) := zsh_g zdk_459 (r := 8) (k := 1) rfl rfl rfl
theorem zd_459_36 : decode prog_14_method_218_code 36 = .ok (.i2l, 1) := zsh_g zdk_459 (r := 9) (k := 0) rfl rfl rfl
theorem zd_459_37 : decode prog_14_method_218_code 37 = .ok (.lstore 6, 2) := zsh_g zdk_459 (r := 9) (k := 1) rfl rfl rfl
theorem zd_459_39 : decode prog_14_method_218_code 39 = .ok (.aload_n 0, 1) := zsh_g zdk_459 (r := 9) (k := 2) rfl rfl rfl
theorem zd_459_40 : decode prog_14_method_218_code 40 = .ok (.lload 4, 2) := zsh_g zdk_459 (r := 10) (k := 0) rfl rfl rfl
theorem zd_459_42 : decode prog_14_method_218_code 42 = .ok (.lload 6, 2) := zsh_g zdk_459 (r := 10) (k := 1) rfl rfl rfl
theorem zd_459_44 : decode prog_14_method_218_code 44 = .ok (.ldiv, 1) := zsh_g zdk_459 (r := 11) (k := 0) rfl rfl rfl
theorem zd_459_45 : decode prog_14_method_218_code 45 = .ok (.l2i, 1) := zsh_g zdk_459 (r := 11) (k := 1) rfl rfl rfl
theorem zd_459_46 : decode prog_14_method_218_code 46 = .ok (.putfield 1647, 3) := zsh_g zdk_459 (r := 11) (k := 2) rfl rfl rfl
theorem zd_459_49 : decode prog_14_method_218_code 49 = .ok (.aload_n 0, 1) := zsh_g zdk_459 (r := 12) (k := 0) rfl rfl rfl
theorem zd_459_50 : decode prog_14_method_218_code 50 = .ok (.lload 4, 2) := zsh_g zdk_459 (r := 12) (k := 1) rfl rfl rfl
theorem zd_459_52 : decode prog_14_method_218_code 52 = .ok (.lload 6, 2) := zsh_g zdk_459 (r := 13) (k := 0) rfl rfl rfl
theorem zd_459_54 : decode prog_14_method_218_code 54 = .ok (.lrem, 1) := zsh_g zdk_459 (r := 13) (k := 1) rfl rfl rfl
theorem zd_459_55 : decode prog_14_method_218_code 55 = .ok (.l2i, 1) := zsh_g zdk_459 (r := 13) (k := 2) rfl rfl rfl
theorem zd_459_56 : decode prog_14_method_218_code 56 = .ok (.putfield 1644, 3) := zsh_g zdk_459 (r := 14) (k := 0) rfl rfl rfl
def zdl_460 : List (List (Nat × Instr × Nat)) := [[(0, (.iload_n 0), 1), (1, (.ifCond .ge 11), 3)], [], [], [(0, (.iload_n 0), 1), (1, (.ldc 20), 2), (3, (.if_icmp .lt 40), 3)], [], [], [], [], [], [], [], [], [], [(3, (.iload_n 0), 1)], [(0, (.iconst 1), 1), (1, .ishl, 1)]]
theorem zdk_460 : zsh_all 8 zdl_460 prog_30_method_3_code.data.toList = true := by decide +kernel
theorem zd_460_0 : decode prog_30_method_3_code 0 = .ok (.iload_n 0, 1) := zsh_g zdk_460 (r := 0) (k := 0) rfl rfl rfl
theorem zd_460_1 : decode prog_30_method_3_code 1 = .ok (.ifCond .ge 11, 3) := zsh_g zdk_460 (r := 0) (k := 1) rfl rfl rfl
theorem zd_460_12 : decode prog_30_method_3_code 12 = .ok (.iload_n 0, 1) := zsh_g zdk_460 (r := 3) (k := 0) rfl rfl rfl
theorem zd_460_13 : decode prog_30_method_3_code 13 = .ok (.ldc 20, 2) := zsh_g zdk_460 (r := 3) (k := 1) rfl rfl rfl
theorem zd_460_15 : decode prog_30_method_3_code 15 = .ok (.if_icmp .lt 40, 3) := zsh_g zdk_460 (r := 3) (k := 2) rfl rfl rfl
theorem zd_460_55 : decode prog_30_method_3_code 55 = .ok (.iload_n 0, 1) := zsh_g zdk_460 (r := 13) (k := 0) rfl rfl rfl
theorem zd_460_56 : decode prog_30_method_3_code 56 = .ok (.iconst 1, 1) := zsh_g zdk_460 (r := 14) (k := 0) rfl rfl rfl
theorem zd_460_57 : decode prog_30_method_3_code 57 = .ok (.ishl, 1) := zsh_g zdk_460 (r := 14) (k := 1) rfl rfl rfl
def zdl_461 : List (List (Nat × Instr × Nat)) := [[(0, (.aload_n 0), 1), (1, (.iload_n 2), 1), (2, (.invokevirtual 65), 3)], [(1, (.istore_n 3), 1), (2, (.aload_n 0), 1), (3, (.getfield 32), 3)], [(2, (.iload_n 3), 1), (3, (.iconst 1), 1)], [(0, .isub, 1), (1, .baload, 1), (2, (.istore 4), 2)], [(0, (.aload_n 0), 1), (1, (.getfield 21), 3)], [(0, (.iload_n 1), 1), (1, (.iload_n 3), 1), (2, (.iload_n 2), 1), (3, .isub, 1)], [(0, .i2l, 1), (1, .lastore, 1), (2, (.iload_n 3), 1), (3, (.iload_n 2), 1)], [(0, .isub, 1), (1, (.iconst 2), 1), (2, (.if_icmp .ne 52), 3)], [(1, (.iload 4), 2), (3, (.bipush 98), 2)], [(1, (.if_icmp .eq 10), 3)], [(0, (.iload 4), 2), (2, (.bipush 102), 2)], [(0, (.if_icmp .ne 38), 3), (3, (.aload_n 0), 1)], [(0, (.getfield 9), 3), (3, (.iload_n 1), 1)], [(0, (.iload 4), 2), (2, (.bipush 98), 2)], [(0, (.if_icmp .ne 7), 3), (3, (.iconst 4), 1)], [(0, (.goto 4), 3), (3, (.iconst 5), 1)], [(0, .iastore, 1), (1, (.aload_n 0), 1), (2, (.getfield 15), 3)], [(1, (.iload_n 1), 1), (2, (.aload_n 0), 1), (3, (.getfield 32), 3)], [(2, (.iload_n 2), 1), (3, .baload, 1)], [(0, (.bipush 48), 2), (2, .isub, 1), (3, .iastore, 1)], [(0, (.iload_n 3), 1), (2, (.iload_n 3), 1), (3, (.iload_n 2), 1)], [(0, .isub, 1), (1, (.iconst 2), 1), (2, (.if_icmp .le 31), 3)], [(1, (.aload_n 0), 1), (2, (.getfield 32), 3)], [(1, (.iload_n 2), 1), (2, .baload, 1), (3, (.bipush 48), 2)], [(1, (.if_icmp .ne 20), 3)], [(0, (.aload_n 0), 1), (1, (.getfield 32), 3)], [(0, (.iload_n 2), 1), (1, (.iconst 1), 1), (2, .iadd, 1), (3, .baload, 1)], [(0, (.bipush 120), 2), (2, (.if_icmp .ne 7), 3)], [(1, (.iconst 1), 1), (2, (.goto 4), 3)], [(1, (.iconst 0), 1), (2, (.istore 5), 2)], [(0, (.lconst 0), 1), (1, (.lstore 6), 2), (3, (.aload_n 0), 1)], [(0, (.getfield 9), 3), (3, (.iload_n 1), 1)], [(0, (.iload_n 3), 1), (1, (.iload_n 2), 1), (2, .isub, 1), (3, (.bipush 10), 2)], [(1, (.if_icmp .le 7), 3)], [(0, (.iconst 1), 1), (1, (.goto 4), 3)], [(0, (.iconst 3), 1), (1, .iastore, 1), (2, (.iload 5), 2)], [(0, (.ifCond .eq 9), 3), (3, (.iload_n 2), 1)], [(0, (.iconst 2), 1), (1, .iadd, 1), (2, (.goto 4), 3)], [(1, (.iload_n 2), 1), (2, (.istore 8), 2)], [(0, (.iload 8), 2), (2, (.iload_n 3), 1), (3, (.if_icmp .ge 114), 3)], [(2, (.aload_n 0), 1), (3, (.getfield 9), 3)], [(2, (.iload_n 1), 1), (3, .iaload, 1)], [(0, (.iconst 3), 1), (1, (.if_icmp .ne 104), 3)], [(0, (.aload_n 0), 1), (1, (.getfield 32), 3)], [(0, (.iload 8), 2), (2, .baload, 1), (3, (.istore 9), 2)], [(1, (.iload 9), 2), (3, (.invokestatic 55), 3)], [(2, (.ifCond .eq 32), 3)], [(1, (.lload 6), 2), (3, (.iload 5), 2)], [(1, (.ifCond .eq 8), 3)], [(0, (.bipush 16), 2), (2, (.goto 5), 3)], [(1, (.bipush 10), 2), (3, .i2l, 1)], [(0, .lmul, 1), (1, (.iload 9), 2), (3, .i2l, 1)], [(0, .ladd, 1), (1, (.ldc2_w 89), 3)], [(0, .lsub, 1), (1, (.lstore 6), 2), (3, (.goto 52), 3)], [(2, (.iload 5), 2)], [(0, (.ifCond .eq 40), 3), (3, (.iload 9), 2)], [(1, (.bipush 97), 2), (3, (.if_icmp .lt 33), 3)], [(2, (.iload 9), 2)], [(0, (.bipush 102), 2), (2, (.if_icmp .gt 26), 3)], [(1, (.lload 6), 2), (3, (.ldc2_w 91), 3)], [(2, .lmul, 1), (3, (.iload 9), 2)], [(1, .i2l, 1), (2, .ladd, 1), (3, (.ldc2_w 93), 3)], [(2, .lsub, 1), (3, (.ldc2_w 95), 3)], [(2, .ladd, 1), (3, (.lstore 6), 2)], [(1, (.goto 10), 3)], [(0, (.aload_n 0), 1), (1, (.getfield 9), 3)], [(0, (.iload_n 1), 1), (1, (.iconst 1), 1), (2, .iastore, 1), (3, (.iinc 8 1), 3)], [(2, (.goto (-114)), 3)], [(1, (.lload 6), 2), (3, (.ldc2_w 97), 3)], [(2, .lcmp, 1), (3, (.ifCond .le 10), 3)], [(2, (.aload_n 0), 1), (3, (.getfield 9), 3)], [(2, (.iload_n 1), 1), (3, (.iconst 1), 1)], [(0, .iastore, 1), (1, (.aload_n 0), 1), (2, (.getfield 15), 3)], [(1, (.iload_n 1), 1), (2, (.lload 6), 2)], [(0, .l2i, 1), (1, .iastore, 1), (2, (.iload_n 3), 1)]]
theorem zdk_461 : zsh_all 8 zdl_461 prog_11_method_5_code.data.toList = true := by decide +kernel
theorem zd_461_0 : decode prog_11_method_5_code 0 = .ok (.aload_n 0, 1) := zsh_g zdk_461 (r := 0) (k := 0) rfl rfl rfl
theorem zd_461_1 : decode prog_11_method_5_code 1 = .ok (.iload_n 2, 1) := zsh_g zdk_461 (r := 0) (k := 1) rfl rfl rfl
theorem zd_461_2 : decode prog_11_method_5_code 2 = .ok (.invokevirtual 65, 3) := zsh_g zdk_461 (r := 0) (k := 2) rfl rfl rfl
theorem zd_461_5 : decode prog_11_method_5_code 5 = .ok (.istore_n 3, 1) := zsh_g zdk_461 (r := 1) (k := 0) rfl rfl rfl
theorem zd_461_6 : decode prog_11_method_5_code 6 = .ok (.aload_n 0, 1) := zsh_g zdk_461 (r := 1) (k := 1) rfl rfl rfl
theorem zd_461_7 : decode prog_11_method_5_code 7 = .ok (.getfield 32, 3) := zsh_g zdk_461 (r := 1) (k := 2) rfl rfl rfl
theorem zd_461_10 : decode prog_11_method_5_code 10 = .ok (.iload_n 3, 1) := zsh_g zdk_461 (r := 2) (k := 0) rfl rfl rfl
theorem zd_461_11 : decode prog_11_method_5_code 11 = .ok (.iconst 1, 1) := zsh_g zdk_461 (r := 2) (k := 1) rfl rfl rfl
theorem zd_461_12 : decode prog_11_method_5_code 12 = .ok (.isub, 1) := zsh_g zdk_461 (r := 3) (k := 0) rfl rfl rfl
theorem zd_461_13 : decode prog_11_method_5_code 13 = .ok (.baload, 1) := zsh_g zdk_461 (r := 3) (k := 1) rfl rfl rfl
theorem zd_461_14 : decode prog_11_method_5_code 14 = .ok (.istore 4, 2) := zsh_g zdk_461 (r := 3) (k := 2) rfl rfl rfl
theorem zd_461_16 : decode prog_11_method_5_code 16 = .ok (.aload_n 0, 1) := zsh_g zdk_461 (r := 4) (k := 0) rfl rfl rfl
theorem zd_461_17 : decode prog_11_method_5_code 17 = .ok (.getfield 21, 3) := zsh_g zdk_461 (r := 4) (k := 1) rfl rfl rfl
theorem zd_461_20 : decode prog_11_method_5_code 20 = .ok (.iload_n 1, 1) := zsh_g zdk_461 (r := 5) (k := 0) rfl rfl rfl
theorem zd_461_21 : decode prog_11_method_5_code 21 = .ok (.iload_n 3, 1) := zsh_g zdk_461 (r := 5) (k := 1) rfl rfl rfl
theorem zd_461_22 : decode prog_11_method_5_code 22 = .ok (.iload_n 2, 1) := zsh_g zdk_461 (r := 5) (k := 2) rfl rfl rfl
theorem zd_461_23 : decode prog_11_method_5_code 23 = .ok (.isub, 1) := zsh_g zdk_461 (r := 5) (k := 3) rfl rfl rfl
theorem zd_461_24 : decode prog_11_method_5_code 24 = .ok (.i2l, 1) := zsh_g zdk_461 (r := 6) (k := 0) rfl rfl rfl
theorem zd_461_25 : decode prog_11_method_5_code 25 = .ok (.lastore, 1) := zsh_g zdk_461 (r := 6) (k := 1) rfl rfl rfl
theorem zd_461_26 : decode prog_11_method_5_code 26 = .ok (.iload_n 3, 1) := zsh_g zdk_461 (r := 6) (k := 2) rfl rfl rfl
theorem zd_461_27 : decode prog_11_method_5_code 27 = .ok (.iload_n 2, 1) := zsh_g zdk_461 (r := 6) (k := 3) rfl rfl rfl
theorem zd_461_28 : decode prog_11_method_5_code 28 = .ok (.isub, 1) := zsh_g zdk_461 (r := 7) (k := 0) rfl rfl rfl
theorem zd_461_29 : decode prog_11_method_5_code 29 = .ok (.iconst 2, 1) := zsh_g zdk_461 (r := 7) (k := 1) rfl rfl rfl
theorem zd_461_30 : decode prog_11_method_5_code 30 = .ok (.if_icmp .ne 52, 3) := zsh_g zdk_461 (r := 7) (k := 2) rfl rfl rfl
theorem zd_461_33 : decode prog_11_method_5_code 33 = .ok (.iload 4, 2) := zsh_g zdk_461 (r := 8) (k := 0) rfl rfl rfl
theorem zd_461_35 : decode prog_11_method_5_code 35 = .ok (.bipush 98, 2) := zsh_g zdk_461 (r := 8) (k := 1) rfl rfl rfl
theorem zd_461_37 : decode prog_11_method_5_code 37 = .ok (.if_icmp .eq 10, 3) := zsh_g zdk_461 (r := 9) (k := 0) rfl rfl rfl
theorem zd_461_40 : decode prog_11_method_5_code 40 = .ok (.iload 4, 2) := zsh_g zdk_461 (r := 10) (k := 0) rfl rfl rfl
theorem zd_461_42 : decode prog_11_method_5_code 42 = .ok (.bipush 102, 2) := zsh_g zdk_461 (r := 10) (k := 1) rfl rfl rfl
theorem zd_461_44 : decode prog_11_method_5_code 44 = .ok (.if_icmp .ne 38, 3) := zsh_g zdk_461 (r := 11) (k := 0) rfl rfl rfl
theorem zd_461_47 : decode prog_11_method_5_code 47 = .ok (.aload_n 0, 1) := zsh_g zdk_461 (r := 11) (k := 1) rfl rfl rfl
theorem zd_461_48 : decode prog_11_method_5_code 48 = .ok (.getfield 9, 3) := zsh_g zdk_461 (r := 12) (k := 0) rfl rfl rfl
theorem zd_461_51 : decode prog_11_method_5_code 51 = .ok (.iload_n 1, 1) := zsh_g zdk_461 (r := 12) (k := 1) rfl rfl rfl
theorem zd_461_52 : decode prog_11_method_5_code 52 = .ok (.iload 4, 2) := zsh_g zdk_461 (r := 13) (k := 0) rfl rfl rfl
theorem zd_461_54 : decode prog_11_method_5_code 54 = .ok (.bipush 98, 2) := zsh_g zdk_461 (r := 13) (k := 1) rfl rfl rfl
theorem zd_461_56 : decode prog_11_method_5_code 56 = .ok (.if_icmp .ne 7, 3) := zsh_g zdk_461 (r := 14) (k := 0) rfl rfl rfl
theorem zd_461_59 : decode prog_11_method_5_code 59 = .ok (.iconst 4, 1) := zsh_g zdk_461 (r := 14) (k := 1) rfl rfl rfl
theorem zd_461_60 : decode prog_11_method_5_code 60 = .ok (.goto 4, 3) := zsh_g zdk_461 (r := 15) (k := 0) rfl rfl rfl
theorem zd_461_63 : decode prog_11_method_5_code 63 = .ok (.iconst 5, 1) := zsh_g zdk_461 (r := 15) (k := 1) rfl rfl rfl
theorem zd_461_64 : decode prog_11_method_5_code 64 = .ok (.iastore, 1) := zsh_g zdk_461 (r := 16) (k := 0) rfl rfl rfl
theorem zd_461_65 : decode prog_11_method_5_code 65 = .ok (.aload_n 0, 1) := zsh_g zdk_461 (r := 16) (k := 1) rfl rfl rfl
theorem zd_461_66 : decode prog_11_method_5_code 66 = .ok (.getfield 15, 3) := zsh_g zdk_461 (r := 16) (k := 2) rfl rfl rfl
theorem zd_461_69 : decode prog_11_method_5_code 69 = .ok (.iload_n 1, 1) := zsh_g zdk_461 (r := 17) (k := 0) rfl rfl rfl
theorem zd_461_70 : decode prog_11_method_5_code 70 = .ok (.aload_n 0, 1) := zsh_g zdk_461 (r := 17) (k := 1) rfl rfl rfl
theorem zd_461_71 : decode prog_11_method_5_code 71 = .ok (.getfield 32, 3) := zsh_g zdk_461 (r := 17) (k := 2) rfl rfl rfl
theorem zd_461_74 : decode prog_11_method_5_code 74 = .ok (.iload_n 2, 1) := zsh_g zdk_461 (r := 18) (k := 0) rfl rfl rfl
theorem zd_461_75 : decode prog_11_method_5_code 75 = .ok (.baload, 1) := zsh_g zdk_461 (r := 18) (k := 1) rfl rfl rfl
theorem zd_461_76 : decode prog_11_method_5_code 76 = .ok (.bipush 48, 2) := zsh_g zdk_461 (r := 19) (k := 0) rfl rfl rfl
theorem zd_461_78 : decode prog_11_method_5_code 78 = .ok (.isub, 1) := zsh_g zdk_461 (r := 19) (k := 1) rfl rfl rfl
theorem zd_461_79 : decode prog_11_method_5_code 79 = .ok (.iastore, 1) := zsh_g zdk_461 (r := 19) (k := 2) rfl rfl rfl
theorem zd_461_80 : decode prog_11_method_5_code 80 = .ok (.iload_n 3, 1) := zsh_g zdk_461 (r := 20) (k := 0) rfl rfl rfl
theorem zd_461_82 : decode prog_11_method_5_code 82 = .ok (.iload_n 3, 1) := zsh_g zdk_461 (r := 20) (k := 1) rfl rfl rfl
theorem zd_461_83 : decode prog_11_method_5_code 83 = .ok (.iload_n 2, 1) := zsh_g zdk_461 (r := 20) (k := 2) rfl rfl rfl
theorem zd_461_84 : decode prog_11_method_5_code 84 = .ok (.isub, 1) := zsh_g zdk_461 (r := 21) (k := 0) rfl rfl rfl
theorem zd_461_85 : decode prog_11_method_5_code 85 = .ok (.iconst 2, 1) := zsh_g zdk_461 (r := 21) (k := 1) rfl rfl rfl
theorem zd_461_86 : decode prog_11_method_5_code 86 = .ok (.if_icmp .le 31, 3) := zsh_g zdk_461 (r := 21) (k := 2) rfl rfl rfl
theorem zd_461_89 : decode prog_11_method_5_code 89 = .ok (.aload_n 0, 1) := zsh_g zdk_461 (r := 22) (k := 0) rfl rfl rfl
theorem zd_461_90 : decode prog_11_method_5_code 90 = .ok (.getfield 32, 3) := zsh_g zdk_461 (r := 22) (k := 1) rfl rfl rfl
theorem zd_461_93 : decode prog_11_method_5_code 93 = .ok (.iload_n 2, 1) := zsh_g zdk_461 (r := 23) (k := 0) rfl rfl rfl
theorem zd_461_94 : decode prog_11_method_5_code 94 = .ok (.baload, 1) := zsh_g zdk_461 (r := 23) (k := 1) rfl rfl rfl
theorem zd_461_95 : decode prog_11_method_5_code 95 = .ok (.bipush 48, 2) := zsh_g zdk_461 (r := 23) (k := 2) rfl rfl rfl
theorem zd_461_97 : decode prog_11_method_5_code 97 = .ok (.if_icmp .ne 20, 3) := zsh_g zdk_461 (r := 24) (k := 0) rfl rfl rfl
theorem zd_461_100 : decode prog_11_method_5_code 100 = .ok (.aload_n 0, 1) := zsh_g zdk_461 (r := 25) (k := 0) rfl rfl rfl
theorem zd_461_101 : decode prog_11_method_5_code 101 = .ok (.getfield 32, 3) := zsh_g zdk_461 (r := 25) (k := 1) rfl rfl rfl
theorem zd_461_104 : decode prog_11_method_5_code 104 = .ok (.iload_n 2, 1) := zsh_g zdk_461 (r := 26) (k := 0) rfl rfl rfl
theorem zd_461_105 : decode prog_11_method_5_code 105 = .ok (.iconst 1, 1) := zsh_g zdk_461 (r := 26) (k := 1) rfl rfl rfl
theorem zd_461_106 : decode prog_11_method_5_code 106 = .ok (.iadd, 1) := zsh_g zdk_461 (r := 26) (k := 2) rfl rfl rfl
theorem zd_461_107 : decode prog_11_method_5_code 107 = .ok (.baload, 1) := zsh_g zdk_461 (r := 26) (k := 3) rfl rfl rfl
theorem zd_461_108 : decode prog_11_method_5_code 108 = .ok (.bipush 120, 2) := zsh_g zdk_461 (r := 27) (k := 0) rfl rfl rfl
theorem zd_461_110 : decode prog_11_method_5_code 110 = .ok (.if_icmp .ne 7, 3) := zsh_g zdk_461 (r := 27) (k := 1) rfl rfl rfl
theorem zd_461_113 : decode prog_11_method_5_code 113 = .ok (.iconst 1, 1) := zsh_g zdk_461 (r := 28) (k := 0) rfl rfl rfl
theorem zd_461_114 : decode prog_11_method_5_code 114 = .ok (.goto 4, 3) := zsh_g zdk_461 (r := 28) (k := 1) rfl rfl rfl
theorem zd_461_117 : decode prog_11_method_5_code 117 = .ok (.iconst 0, 1) := zsh_g zdk_461 (r := 29) (k := 0) rfl rfl rfl
theorem zd_461_118 : decode prog_11_method_5_code 118 = .ok (.istore 5, 2) := zsh_g zdk_461 (r := 29) (k := 1) rfl rfl rfl
theorem zd_461_120 : decode prog_11_method_5_code 120 = .ok (.lconst 0, 1) := zsh_g zdk_461 (r := 30) (k := 0) rfl rfl rfl
theorem zd_461_121 : decode prog_11_method_5_code 121 = .ok (.lstore 6, 2) := zsh_g zdk_461 (r := 30) (k := 1) rfl rfl rfl
theorem zd_461_123 : decode prog_11_method_5_code 123 = .ok (.aload_n 0, 1) := zsh_g zdk_461 (r := 30) (k := 2) rfl rfl rfl
theorem zd_461_124 : decode prog_11_method_5_code 124 = .ok (.getfield 9, 3) := zsh_g zdk_461 (r := 31) (k := 0) rfl rfl rfl
theorem zd_461_127 : decode prog_11_method_5_code 127 = .ok (.iload_n 1, 1) := zsh_g zdk_461 (r := 31) (k := 1) rfl rfl rfl
theorem zd_461_128 : decode prog_11_method_5_code 128 = .ok (.iload_n 3, 1) := zsh_g zdk_461 (r := 32) (k := 0) rfl rfl rfl
theorem zd_461_129 : decode prog_11_method_5_code 129 = .ok (.iload_n 2, 1) := zsh_g zdk_461 (r := 32) (k := 1) rfl rfl rfl
theorem zd_461_130 : decode prog_11_method_5_code 130 = .ok (.isub, 1) := zsh_g zdk_461 (r := 32) (k := 2) rfl rfl rfl
theorem zd_461_131 : decode prog_11_method_5_code 131 = .ok (.bipush 10, 2) := zsh_g zdk_461 (r := 32) (k := 3) rfl rfl rfl
theorem zd_461_133 : decode prog_11_method_5_code 133 = .ok (.if_icmp .le 7, 3) := zsh_g zdk_461 (r := 33) (k := 0) rfl rfl rfl
theorem zd_461_136 : decode prog_11_method_5_code 136 = .ok (.iconst 1, 1) := zsh_g zdk_461 (r := 34) (k := 0) rfl rfl rfl
theorem zd_461_137 : decode prog_11_method_5_code 137 = .ok (.goto 4, 3) := zsh_g zdk_461 (r := 34) (k := 1) rfl rfl rfl
theorem zd_461_140 : decode prog_11_method_5_code 140 = .ok (.iconst 3, 1) := zsh_g zdk_461 (r := 35) (k := 0) rfl rfl rfl
theorem zd_461_141 : decode prog_11_method_5_code 141 = .ok (.iastore, 1) := zsh_g zdk_461 (r := 35) (k := 1) rfl rfl rfl
theorem zd_461_142 : decode prog_11_method_5_code 142 = .ok (.iload 5, 2) := zsh_g zdk_461 (r := 35) (k := 2) rfl rfl rfl
theorem zd_461_144 : decode prog_11_method_5_code 144 = .ok (.ifCond .eq 9, 3) := zsh_g zdk_461 (r := 36) (k := 0) rfl rfl rfl
theorem zd_461_147 : decode prog_11_method_5_code 147 = .ok (.iload_n 2, 1) := zsh_g zdk_461 (r := 36) (k := 1) rfl rfl rfl
theorem zd_461_148 : decode prog_11_method_5_code 148 = .ok (.iconst 2, 1) := zsh_g zdk_461 (r := 37) (k := 0) rfl rfl rfl
theorem zd_461_149 : decode prog_11_method_5_code 149 = .ok (.iadd, 1) := zsh_g zdk_461 (r := 37) (k := 1) rfl rfl rfl
theorem zd_461_150 : decode prog_11_method_5_code 150 = .ok (.goto 4, 3) := zsh_g zdk_461 (r := 37) (k := 2) rfl rfl rfl
theorem zd_461_153 : decode prog_11_method_5_code 153 = .ok (.iload_n 2, 1) := zsh_g zdk_461 (r := 38) (k := 0) rfl rfl rfl
theorem zd_461_154 : decode prog_11_method_5_code 154 = .ok (.istore 8, 2) := zsh_g zdk_461 (r := 38) (k := 1) rfl rfl rfl
theorem zd_461_156 : decode prog_11_method_5_code 156 = .ok (.iload 8, 2) := zsh_g zdk_461 (r := 39) (k := 0) rfl rfl rfl
theorem zd_461_158 : decode prog_11_method_5_code 158 = .ok (.iload_n 3, 1) := zsh_g zdk_461 (r := 39) (k := 1) rfl rfl rfl
theorem zd_461_159 : decode prog_11_method_5_code 159 = .ok (.if_icmp .ge 114, 3) := zsh_g zdk_461 (r := 39) (k := 2) rfl rfl rfl
theorem zd_461_162 : decode prog_11_method_5_code 162 = .ok (.aload_n 0, 1) := zsh_g zdk_461 (r := 40) (k := 0) rfl rfl rfl
theorem zd_461_163 : decode prog_11_method_5_code 163 = .ok (.getfield 9, 3) := zsh_g zdk_461 (r := 40) (k := 1) rfl rfl rfl
theorem zd_461_166 : decode prog_11_method_5_code 166 = .ok (.iload_n 1, 1) := zsh_g zdk_461 (r := 41) (k := 0) rfl rfl rfl
theorem zd_461_167 : decode prog_11_method_5_code 167 = .ok (.iaload, 1) := zsh_g zdk_461 (r := 41) (k := 1) rfl rfl rfl
theorem zd_461_168 : decode prog_11_method_5_code 168 = .ok (.iconst 3, 1) := zsh_g zdk_461 (r := 42) (k := 0) rfl rfl rfl
theorem zd_461_169 : decode prog_11_method_5_code 169 = .ok (.if_icmp .ne 104, 3) := zsh_g zdk_461 (r := 42) (k := 1) rfl rfl rfl
theorem zd_461_172 : decode prog_11_method_5_code 172 = .ok (.aload_n 0, 1) := zsh_g zdk_461 (r := 43) (k := 0) rfl rfl rfl
theorem zd_461_173 : decode prog_11_method_5_code 173 = .ok (.getfield 32, 3) := zsh_g zdk_461 (r := 43) (k := 1) rfl rfl rfl
theorem zd_461_176 : decode prog_11_method_5_code 176 = .ok (.iload 8, 2) := zsh_g zdk_461 (r := 44) (k := 0) rfl rfl rfl
theorem zd_461_178 : decode prog_11_method_5_code 178 = .ok (.baload, 1) := zsh_g zdk_461 (r := 44) (k := 1) rfl rfl rfl
theorem zd_461_179 : decode prog_11_method_5_code 179 = .ok (.istore 9, 2) := zsh_g zdk_461 (r := 44) (k := 2) rfl rfl rfl
theorem zd_461_181 : decode prog_11_method_5_code 181 = .ok (.iload 9, 2) := zsh_g zdk_461 (r := 45) (k := 0) rfl rfl rfl
theorem zd_461_183 : decode prog_11_method_5_code 183 = .ok (.invokestatic 55, 3) := zsh_g zdk_461 (r := 45) (k := 1) rfl rfl rfl
theorem zd_461_186 : decode prog_11_method_5_code 186 = .ok (.ifCond .eq 32, 3) := zsh_g zdk_461 (r := 46) (k := 0) rfl rfl rfl
theorem zd_461_189 : decode prog_11_method_5_code 189 = .ok (.lload 6, 2) := zsh_g zdk_461 (r := 47) (k := 0) rfl rfl rfl
theorem zd_461_191 : decode prog_11_method_5_code 191 = .ok (.iload 5, 2) := zsh_g zdk_461 (r := 47) (k := 1) rfl rfl rfl
theorem zd_461_193 : decode prog_11_method_5_code 193 = .ok (.ifCond .eq 8, 3) := zsh_g zdk_461 (r := 48) (k := 0) rfl rfl rfl
theorem zd_461_196 : decode prog_11_method_5_code 196 = .ok (.bipush 16, 2) := zsh_g zdk_461 (r := 49) (k := 0) rfl rfl rfl
theorem zd_461_198 : decode prog_11_method_5_code 198 = .ok (.goto 5, 3) := zsh_g zdk_461 (r := 49) (k := 1) rfl rfl rfl
theorem zd_461_201 : decode prog_11_method_5_code 201 = .ok (.bipush 10, 2) := zsh_g zdk_461 (r := 50) (k := 0) rfl rfl rfl
theorem zd_461_203 : decode prog_11_method_5_code 203 = .ok (.i2l, 1) := zsh_g zdk_461 (r := 50) (k := 1) rfl rfl rfl
theorem zd_461_204 : decode prog_11_method_5_code 204 = .ok (.lmul, 1) := zsh_g zdk_461 (r := 51) (k := 0) rfl rfl rfl
theorem zd_461_205 : decode prog_11_method_5_code 205 = .ok (.iload 9, 2) := zsh_g zdk_461 (r := 51) (k := 1) rfl rfl rfl
theorem zd_461_207 : decode prog_11_method_5_code 207 = .ok (.i2l, 1) := zsh_g zdk_461 (r := 51) (k := 2) rfl rfl rfl
theorem zd_461_208 : decode prog_11_method_5_code 208 = .ok (.ladd, 1) := zsh_g zdk_461 (r := 52) (k := 0) rfl rfl rfl
theorem zd_461_209 : decode prog_11_method_5_code 209 = .ok (.ldc2_w 89, 3) := zsh_g zdk_461 (r := 52) (k := 1) rfl rfl rfl
theorem zd_461_212 : decode prog_11_method_5_code 212 = .ok (.lsub, 1) := zsh_g zdk_461 (r := 53) (k := 0) rfl rfl rfl
theorem zd_461_213 : decode prog_11_method_5_code 213 = .ok (.lstore 6, 2) := zsh_g zdk_461 (r := 53) (k := 1) rfl rfl rfl
theorem zd_461_215 : decode prog_11_method_5_code 215 = .ok (.goto 52, 3) := zsh_g zdk_461 (r := 53) (k := 2) rfl rfl rfl
theorem zd_461_218 : decode prog_11_method_5_code 218 = .ok (.iload 5, 2) := zsh_g zdk_461 (r := 54) (k := 0) rfl rfl rfl
theorem zd_461_220 : decode prog_11_method_5_code 220 = .ok (.ifCond .eq 40, 3) := zsh_g zdk_461 (r := 55) (k := 0) rfl rfl rfl
theorem zd_461_223 : decode prog_11_method_5_code 223 = .ok (.iload 9, 2) := zsh_g zdk_461 (r := 55) (k := 1) rfl rfl rfl
theorem zd_461_225 : decode prog_11_method_5_code 225 = .ok (.bipush 97, 2) := zsh_g zdk_461 (r := 56) (k := 0) rfl rfl rfl
theorem zd_461_227 : decode prog_11_method_5_code 227 = .ok (.if_icmp .lt 33, 3) := zsh_g zdk_461 (r := 56) (k := 1) rfl rfl rfl
theorem zd_461_230 : decode prog_11_method_5_code 230 = .ok (.iload 9, 2) := zsh_g zdk_461 (r := 57) (k := 0) rfl rfl rfl
theorem zd_461_232 : decode prog_11_method_5_code 232 = .ok (.bipush 102, 2) := zsh_g zdk_461 (r := 58) (k := 0) rfl rfl rfl
theorem zd_461_234 : decode prog_11_method_5_code 234 = .ok (.if_icmp .gt 26, 3) := zsh_g zdk_461 (r := 58) (k := 1) rfl rfl rfl
theorem zd_461_237 : decode prog_11_method_5_code 237 = .ok (.lload 6, 2) := zsh_g zdk_461 (r := 59) (k := 0) rfl rfl rfl
theorem zd_461_239 : decode prog_11_method_5_code 239 = .ok (.ldc2_w 91, 3) := zsh_g zdk_461 (r := 59) (k := 1) rfl rfl rfl
theorem zd_461_242 : decode prog_11_method_5_code 242 = .ok (.lmul, 1) := zsh_g zdk_461 (r := 60) (k := 0) rfl rfl rfl
theorem zd_461_243 : decode prog_11_method_5_code 243 = .ok (.iload 9, 2) := zsh_g zdk_461 (r := 60) (k := 1) rfl rfl rfl
theorem zd_461_245 : decode prog_11_method_5_code 245 = .ok (.i2l, 1) := zsh_g zdk_461 (r := 61) (k := 0) rfl rfl rfl
theorem zd_461_246 : decode prog_11_method_5_code 246 = .ok (.ladd, 1) := zsh_g zdk_461 (r := 61) (k := 1) rfl rfl rfl
theorem zd_461_247 : decode prog_11_method_5_code 247 = .ok (.ldc2_w 93, 3) := zsh_g zdk_461 (r := 61) (k := 2) rfl rfl rfl
theorem zd_461_250 : decode prog_11_method_5_code 250 = .ok (.lsub, 1) := zsh_g zdk_461 (r := 62) (k := 0) rfl rfl rfl
theorem zd_461_251 : decode prog_11_method_5_code 251 = .ok (.ldc2_w 95, 3) := zsh_g zdk_461 (r := 62) (k := 1) rfl rfl rfl
theorem zd_461_254 : decode prog_11_method_5_code 254 = .ok (.ladd, 1) := zsh_g zdk_461 (r := 63) (k := 0) rfl rfl rfl
theorem zd_461_255 : decode prog_11_method_5_code 255 = .ok (.lstore 6, 2) := zsh_g zdk_461 (r := 63) (k := 1) rfl rfl rfl
theorem zd_461_257 : decode prog_11_method_5_code 257 = .ok (.goto 10, 3) := zsh_g zdk_461 (r := 64) (k := 0) rfl rfl rfl
theorem zd_461_260 : decode prog_11_method_5_code 260 = .ok (.aload_n 0, 1) := zsh_g zdk_461 (r := 65) (k := 0) rfl rfl rfl
theorem zd_461_261 : decode prog_11_method_5_code 261 = .ok (.getfield 9, 3) := zsh_g zdk_461 (r := 65) (k := 1) rfl rfl rfl
theorem zd_461_264 : decode prog_11_method_5_code 264 = .ok (.iload_n 1, 1) := zsh_g zdk_461 (r := 66) (k := 0) rfl rfl rfl
theorem zd_461_265 : decode prog_11_method_5_code 265 = .ok (.iconst 1, 1) := zsh_g zdk_461 (r := 66) (k := 1) rfl rfl rfl
theorem zd_461_266 : decode prog_11_method_5_code 266 = .ok (.iastore, 1) := zsh_g zdk_461 (r := 66) (k := 2) rfl rfl rfl
theorem zd_461_267 : decode prog_11_method_5_code 267 = .ok (.iinc 8 1, 3) := zsh_g zdk_461 (r := 66) (k := 3) rfl rfl rfl
theorem zd_461_270 : decode prog_11_method_5_code 270 = .ok (.goto (-114), 3) := zsh_g zdk_461 (r := 67) (k := 0) rfl rfl rfl
theorem zd_461_273 : decode prog_11_method_5_code 273 = .ok (.lload 6, 2) := zsh_g zdk_461 (r := 68) (k := 0) rfl rfl rfl
theorem zd_461_275 : decode prog_11_method_5_code 275 = .ok (.ldc2_w 97, 3) := zsh_g zdk_461 (r := 68) (k := 1) rfl rfl rfl
theorem zd_461_278 : decode prog_11_method_5_code 278 = .ok (.lcmp, 1) := zsh_g zdk_461 (r := 69) (k := 0) rfl rfl rfl
theorem zd_461_279 : decode prog_11_method_5_code 279 = .ok (.ifCond .le 10, 3) := zsh_g zdk_461 (r := 69) (k := 1) rfl rfl rfl
theorem zd_461_282 : decode prog_11_method_5_code 282 = .ok (.aload_n 0, 1) := zsh_g zdk_461 (r := 70) (k := 0) rfl rfl rfl
theorem zd_461_283 : decode prog_11_method_5_code 283 = .ok (.getfield 9, 3) := zsh_g zdk_461 (r := 70) (k := 1) rfl rfl rfl
theorem zd_461_286 : decode prog_11_method_5_code 286 = .ok (.iload_n 1, 1) := zsh_g zdk_461 (r := 71) (k := 0) rfl rfl rfl
theorem zd_461_287 : decode prog_11_method_5_code 287 = .ok (.iconst 1, 1) := zsh_g zdk_461 (r := 71) (k := 1) rfl rfl rfl
theorem zd_461_288 : decode prog_11_method_5_code 288 = .ok (.iastore, 1) := zsh_g zdk_461 (r := 72) (k := 0) rfl rfl rfl
theorem zd_461_289 : decode prog_11_method_5_code 289 = .ok (.aload_n 0, 1) := zsh_g zdk_461 (r := 72) (k := 1) rfl rfl rfl
theorem zd_461_290 : decode prog_11_method_5_code 290 = .ok (.getfield 15, 3) := zsh_g zdk_461 (r := 72) (k := 2) rfl rfl rfl
theorem zd_461_293 : decode prog_11_method_5_code 293 = .ok (.iload_n 1, 1) := zsh_g zdk_461 (r := 73) (k := 0) rfl rfl rfl
theorem zd_461_294 : decode prog_11_method_5_code 294 = .ok (.lload 6, 2) := zsh_g zdk_461 (r := 73) (k := 1) rfl rfl rfl
theorem zd_461_296 : decode prog_11_method_5_code 296 = .ok (.l2i, 1) := zsh_g zdk_461 (r := 74) (k := 0) rfl rfl rfl
theorem zd_461_297 : decode prog_11_method_5_code 297 = .ok (.iastore, 1) := zsh_g zdk_461 (r := 74) (k := 1) rfl rfl rfl
theorem zd_461_298 : decode prog_11_method_5_code 298 = .ok (.iload_n 3, 1) := zsh_g zdk_461 (r := 74) (k := 2) rfl rfl rfl
def zdl_462 : List (List (Nat × Instr × Nat)) := [[(0, (.iload_n 1), 1), (1, (.istore_n 2), 1), (2, (.iload_n 2), 1), (3, (.aload_n 0), 1)], [(0, (.getfield 42), 3), (3, (.if_icmp .ge 21), 3)], [(2, (.aload_n 0), 1), (3, (.getfield 32), 3)], [(2, (.iload_n 2), 1), (3, .baload, 1)], [(0, (.invokestatic 62), 3), (3, (.ifCond .eq 9), 3)], [(2, (.iinc 2 1), 3)], [(1, (.goto (-23)), 3)], [(0, (.iload_n 2), 1)]]
theorem zdk_462 : zsh_all 8 zdl_462 prog_11_method_4_code.data.toList = true := by decide +kernel
theorem zd_462_0 : decode prog_11_method_4_code 0 = .ok (.iload_n 1, 1) := zsh_g zdk_462 (r := 0) (k := 0) rfl rfl rfl
theorem zd_462_1 : decode prog_11_method_4_code 1 = .ok (.istore_n 2, 1) := zsh_g zdk_462 (r := 0) (k := 1) rfl rfl rfl
theorem zd_462_2 : decode prog_11_method_4_code 2 = .ok (.iload_n 2, 1) := zsh_g zdk_462 (r := 0) (k := 2) rfl rfl rfl
theorem zd_462_3 : decode prog_11_method_4_code 3 = .ok (.aload_n 0, 1) := zsh_g zdk_462 (r := 0) (k := 3) rfl rfl rfl
theorem zd_462_4 : decode prog_11_method_4_code 4 = .ok (.getfield 42, 3) := zsh_g zdk_462 (r := 1) (k := 0) rfl rfl rfl
theorem zd_462_7 : decode prog_11_method_4_code 7 = .ok (.if_icmp .ge 21, 3) := zsh_g zdk_462 (r := 1) (k := 1) rfl rfl rfl
theorem zd_462_10 : decode prog_11_method_4_code 10 = .ok (.aload_n 0, 1) := zsh_g zdk_462 (r := 2) (k := 0) rfl rfl rfl
theorem zd_462_11 : decode prog_11_method_4_code 11 = .ok (.getfield 32, 3) := zsh_g zdk_462 (r := 2) (k := 1) rfl rfl rfl
theorem zd_462_14 : decode prog_11_method_4_code 14 = .ok (.iload_n 2, 1) := zsh_g zdk_462 (r := 3) (k := 0) rfl rfl rfl
theorem zd_462_15 : decode prog_11_method_4_code 15 = .ok (.baload, 1) := zsh_g zdk_462 (r := 3) (k := 1) rfl rfl rfl
theorem zd_462_16 : decode prog_11_method_4_code 16 = .ok (.invokestatic 62, 3) := zsh_g zdk_462 (r := 4) (k := 0) rfl rfl rfl
theorem zd_462_19 : decode prog_11_method_4_code 19 = .ok (.ifCond .eq 9, 3) := zsh_g zdk_462 (r := 4) (k := 1) rfl rfl rfl
theorem zd_462_22 : decode prog_11_method_4_code 22 = .ok (.iinc 2 1, 3) := zsh_g zdk_462 (r := 5) (k := 0) rfl rfl rfl
theorem zd_462_25 : decode prog_11_method_4_code 25 = .ok (.goto (-23), 3) := zsh_g zdk_462 (r := 6) (k := 0) rfl rfl rfl
theorem zd_462_28 : decode prog_11_method_4_code 28 = .ok (.iload_n 2, 1) := zsh_g zdk_462 (r := 7) (k := 0) rfl rfl rfl
def zdl_463 : List (List (Nat × Instr × Nat)) := [[(0, (.iload_n 2), 1), (1, (.iconst 1), 1), (2, .iadd, 1), (3, (.istore_n 3), 1)], [(0, (.iload_n 3), 1), (1, (.aload_n 0), 1), (2, (.getfield 42), 3)], [(1, (.if_icmp .ge 33), 3)], [(0, (.aload_n 0), 1), (1, (.getfield 32), 3)], [(0, (.iload_n 3), 1), (1, .baload, 1), (2, (.invokestatic 99), 3)], [(1, (.ifCond .ne 15), 3)], [(0, (.aload_n 0), 1), (1, (.getfield 32), 3)], [(0, (.iload_n 3), 1), (1, .baload, 1), (2, (.invokestatic 55), 3)], [(1, (.ifCond .eq 9), 3)], [(0, (.iinc 3 1), 3), (3, (.goto (-35)), 3)], [(2, (.iload_n 3), 1), (3, (.iload_n 2), 1)], [(0, .isub, 1), (1, (.iconst 5), 1), (2, (.if_icmp .le 7), 3)], [(1, (.iconst (-1)), 1), (2, (.goto 20), 3)], [(1, (.aload_n 0), 1), (2, (.getfield 28), 3)], [(1, (.aload_n 0), 1), (2, (.getfield 32), 3)], [(1, (.iload_n 2), 1), (2, (.iload_n 3), 1), (3, (.invokestatic 69), 3)], [(2, (.lconst 0), 1), (3, (.invokevirtual 75), 3)], [(2, (.istore 4), 2)], [(0, (.aload_n 0), 1), (1, (.getfield 9), 3)], [(0, (.iload_n 1), 1), (1, (.iload 4), 2), (3, (.bipush 93), 2)], [(1, (.if_icmp .lt 16), 3)], [(0, (.iload 4), 2), (2, (.sipush 157), 3)], [(1, (.if_icmp .ge 8), 3)], [(0, (.bipush 6), 2), (2, (.goto 4), 3)], [(1, (.iconst 1), 1), (2, .iastore, 1), (3, (.aload_n 0), 1)], [(0, (.getfield 15), 3), (3, (.iload_n 1), 1)], [(0, (.iload 4), 2), (2, (.bipush 93), 2)], [(0, .isub, 1), (1, (.bipush 31), 2), (3, .iand, 1)], [(0, .iastore, 1), (1, (.iload_n 3), 1)]]
theorem zdk_463 : zsh_all 8 zdl_463 prog_11_method_6_code.data.toList = true := by decide +kernel
theorem zd_463_0 : decode prog_11_method_6_code 0 = .ok (.iload_n 2, 1) := zsh_g zdk_463 (r := 0) (k := 0) rfl rfl rfl
theorem zd_463_1 : decode prog_11_method_6_code 1 = .ok (.iconst 1, 1) := zsh_g zdk_463 (r := 0) (k := 1) rfl rfl rfl
theorem zd_463_2 : decode prog_11_method_6_code 2 = .ok (.iadd, 1) := zsh_g zdk_463 (r := 0) (k := 2) rfl rfl rfl
theorem zd_463_3 : decode prog_11_method_6_code 3 = .ok (.istore_n 3, 1) := zsh_g zdk_463 (r := 0) (k := 3) rfl rfl rfl
theorem zd_463_4 : decode prog_11_method_6_code 4 = .ok (.iload_n 3, 1) := zsh_g zdk_463 (r := 1) (k := 0) rfl rfl rfl
theorem zd_463_5 : decode prog_11_method_6_code 5 = .ok (.aload_n 0, 1) := zsh_g zdk_463 (r := 1) (k := 1) rfl rfl rfl
theorem zd_463_6 : decode prog_11_method_6_code 6 = .ok (.getfield 42, 3) := zsh_g zdk_463 (r := 1) (k := 2) rfl rfl rfl
theorem zd_463_9 : decode prog_11_method_6_code 9 = .ok (.if_icmp .ge 33, 3) := zsh_g zdk_463 (r := 2) (k := 0) rfl rfl rfl
theorem zd_463_12 : decode prog_11_method_6_code 12 = .ok (.aload_n 0, 1) := zsh_g zdk_463 (r := 3) (k := 0) rfl rfl rfl
theorem zd_463_13 : decode prog_11_method_6_code 13 = .ok (.getfield 32, 3) := zsh_g zdk_463 (r := 3) (k := 1) rfl rfl rfl
theorem zd_463_16 : decode prog_11_method_6_code 16 = .ok (.iload_n 3, 1) := zsh_g zdk_463 (r := 4) (k := 0) rfl rfl rfl
theorem zd_463_17 : decode prog_11_method_6_code 17 = .ok (.baload, 1) := zsh_g zdk_463 (r := 4) (k := 1) rfl rfl rfl
theorem zd_463_18 : decode prog_11_method_6_code 18 = .ok (.invokestatic 99, 3) := zsh_g zdk_463 (r := 4) (k := 2) rfl rfl rfl
theorem zd_463_21 : decode prog_11_method_6_code 21 = .ok (.ifCond .ne 15, 3) := zsh_g zdk_463 (r := 5) (k := 0) rfl rfl rfl
theorem zd_463_24 : decode prog_11_method_6_code 24 = .ok (.aload_n 0, 1) := zsh_g zdk_463 (r := 6) (k := 0) rfl rfl rfl
theorem zd_463_25 : decode prog_11_method_6_code 25 = .ok (.getfield 32, 3) := zsh_g zdk_463 (r := 6) (k := 1) rfl rfl rfl
theorem zd_463_28 : decode prog_11_method_6_code 28 = .ok (.iload_n 3, 1) := zsh_g zdk_463 (r := 7) (k := 0) rfl rfl rfl
theorem zd_463_29 : decode prog_11_method_6_code 29 = .ok (.baload, 1) := zsh_g zdk_463 (r := 7) (k := 1) rfl rfl rfl
theorem zd_463_30 : decode prog_11_method_6_code 30 = .ok (.invokestatic 55, 3) := zsh_g zdk_463 (r := 7) (k := 2) rfl rfl rfl
theorem zd_463_33 : decode prog_11_method_6_code 33 = .ok (.ifCond .eq 9, 3) := zsh_g zdk_463 (r := 8) (k := 0) rfl rfl rfl
theorem zd_463_36 : decode prog_11_method_6_code 36 = .ok (.iinc 3 1, 3) := zsh_g zdk_463 (r := 9) (k := 0) rfl rfl rfl
theorem zd_463_39 : decode prog_11_method_6_code 39 = .ok (.goto (-35), 3) := zsh_g zdk_463 (r := 9) (k := 1) rfl rfl rfl
theorem zd_463_42 : decode prog_11_method_6_code 42 = .ok (.iload_n 3, 1) := zsh_g zdk_463 (r := 10) (k := 0) rfl rfl rfl
theorem zd_463_43 : decode prog_11_method_6_code 43 = .ok (.iload_n 2, 1) := zsh_g zdk_463 (r := 10) (k := 1) rfl rfl rfl
theorem zd_463_44 : decode prog_11_method_6_code 44 = .ok (.isub, 1) := zsh_g zdk_463 (r := 11) (k := 0) rfl rfl rfl
theorem zd_463_45 : decode prog_11_method_6_code 45 = .ok (.iconst 5, 1) := zsh_g zdk_463 (r := 11) (k := 1) rfl rfl rfl
theorem zd_463_46 : decode prog_11_method_6_code 46 = .ok (.if_icmp .le 7, 3) := zsh_g zdk_463 (r := 11) (k := 2) rfl rfl rfl
theorem zd_463_49 : decode prog_11_method_6_code 49 = .ok (.iconst (-1), 1) := zsh_g zdk_463 (r := 12) (k := 0) rfl rfl rfl
theorem zd_463_50 : decode prog_11_method_6_code 50 = .ok (.goto 20, 3) := zsh_g zdk_463 (r := 12) (k := 1) rfl rfl rfl
theorem zd_463_53 : decode prog_11_method_6_code 53 = .ok (.aload_n 0, 1) := zsh_g zdk_463 (r := 13) (k := 0) rfl rfl rfl
theorem zd_463_54 : decode prog_11_method_6_code 54 = .ok (.getfield 28, 3) := zsh_g zdk_463 (r := 13) (k := 1) rfl rfl rfl
theorem zd_463_57 : decode prog_11_method_6_code 57 = .ok (.aload_n 0, 1) := zsh_g zdk_463 (r := 14) (k := 0) rfl rfl rfl
theorem zd_463_58 : decode prog_11_method_6_code 58 = .ok (.getfield 32, 3) := zsh_g zdk_463 (r := 14) (k := 1) rfl rfl rfl
theorem zd_463_61 : decode prog_11_method_6_code 61 = .ok (.iload_n 2, 1) := zsh_g zdk_463 (r := 15) (k := 0) rfl rfl rfl
theorem zd_463_62 : decode prog_11_method_6_code 62 = .ok (.iload_n 3, 1) := zsh_g zdk_463 (r := 15) (k := 1) rfl rfl rfl
theorem zd_463_63 : decode prog_11_method_6_code 63 = .ok (.invokestatic 69, 3) := zsh_g zdk_463 (r := 15) (k := 2) rfl rfl rfl
theorem zd_463_66 : decode prog_11_method_6_code 66 = .ok (.lconst 0, 1) := zsh_g zdk_463 (r := 16) (k := 0) rfl rfl rfl
theorem zd_463_67 : decode prog_11_method_6_code 67 = .ok (.invokevirtual 75, 3) := zsh_g zdk_463 (r := 16) (k := 1) rfl rfl rfl
theorem zd_463_70 : decode prog_11_method_6_code 70 = .ok (.istore 4, 2) := zsh_g zdk_463 (r := 17) (k := 0) rfl rfl rfl
theorem zd_463_72 : decode prog_11_method_6_code 72 = .ok (.aload_n 0, 1) := zsh_g zdk_463 (r := 18) (k := 0) rfl rfl rfl
theorem zd_463_73 : decode prog_11_method_6_code 73 = .ok (.getfield 9, 3) := zsh_g zdk_463 (r := 18) (k := 1) rfl rfl rfl
theorem zd_463_76 : decode prog_11_method_6_code 76 = .ok (.iload_n 1, 1) := zsh_g zdk_463 (r := 19) (k := 0) rfl rfl rfl
theorem zd_463_77 : decode prog_11_method_6_code 77 = .ok (.iload 4, 2) := zsh_g zdk_463 (r := 19) (k := 1) rfl rfl rfl
theorem zd_463_79 : decode prog_11_method_6_code 79 = .ok (.bipush 93, 2) := zsh_g zdk_463 (r := 19) (k := 2) rfl rfl rfl
theorem zd_463_81 : decode prog_11_method_6_code 81 = .ok (.if_icmp .lt 16, 3) := zsh_g zdk_463 (r := 20) (k := 0) rfl rfl rfl
theorem zd_463_84 : decode prog_11_method_6_code 84 = .ok (.iload 4, 2) := zsh_g zdk_463 (r := 21) (k := 0) rfl rfl rfl
theorem zd_463_86 : decode prog_11_method_6_code 86 = .ok (.sipush 157, 3) := zsh_g zdk_463 (r := 21) (k := 1) rfl rfl rfl
theorem zd_463_89 : decode prog_11_method_6_code 89 = .ok (.if_icmp .ge 8, 3) := zsh_g zdk_463 (r := 22) (k := 0) rfl rfl rfl
theorem zd_463_92 : decode prog_11_method_6_code 92 = .ok (.bipush 6, 2) := zsh_g zdk_463 (r := 23) (k := 0) rfl rfl rfl
theorem zd_463_94 : decode prog_11_method_6_code 94 = .ok (.goto 4, 3) := zsh_g zdk_463 (r := 23) (k := 1) rfl rfl rfl
theorem zd_463_97 : decode prog_11_method_6_code 97 = .ok (.iconst 1, 1) := zsh_g zdk_463 (r := 24) (k := 0) rfl rfl rfl
theorem zd_463_98 : decode prog_11_method_6_code 98 = .ok (.iastore, 1) := zsh_g zdk_463 (r := 24) (k := 1) rfl rfl rfl
theorem zd_463_99 : decode prog_11_method_6_code 99 = .ok (.aload_n 0, 1) := zsh_g zdk_463 (r := 24) (k := 2) rfl rfl rfl
theorem zd_463_100 : decode prog_11_method_6_code 100 = .ok (.getfield 15, 3) := zsh_g zdk_463 (r := 25) (k := 0) rfl rfl rfl
theorem zd_463_103 : decode prog_11_method_6_code 103 = .ok (.iload_n 1, 1) := zsh_g zdk_463 (r := 25) (k := 1) rfl rfl rfl
theorem zd_463_104 : decode prog_11_method_6_code 104 = .ok (.iload 4, 2) := zsh_g zdk_463 (r := 26) (k := 0) rfl rfl rfl
theorem zd_463_106 : decode prog_11_method_6_code 106 = .ok (.bipush 93, 2) := zsh_g zdk_463 (r := 26) (k := 1) rfl rfl rfl
theorem zd_463_108 : decode prog_11_method_6_code 108 = .ok (.isub, 1) := zsh_g zdk_463 (r := 27) (k := 0) rfl rfl rfl
theorem zd_463_109 : decode prog_11_method_6_code 109 = .ok (.bipush 31, 2) := zsh_g zdk_463 (r := 27) (k := 1) rfl rfl rfl
theorem zd_463_111 : decode prog_11_method_6_code 111 = .ok (.iand, 1) := zsh_g zdk_463 (r := 27) (k := 2) rfl rfl rfl
theorem zd_463_112 : decode prog_11_method_6_code 112 = .ok (.iastore, 1) := zsh_g zdk_463 (r := 28) (k := 0) rfl rfl rfl
theorem zd_463_113 : decode prog_11_method_6_code 113 = .ok (.iload_n 3, 1) := zsh_g zdk_463 (r := 28) (k := 1) rfl rfl rfl
def zdl_464 : List (List (Nat × Instr × Nat)) := [[(0, (.aload_n 0), 1), (1, (.getfield 52), 3)], [(0, (.iconst 5), 1), (1, .imul, 1), (2, (.istore 7), 2)], [(0, (.iload 7), 2), (2, (.iconst 5), 1), (3, .iadd, 1)], [(0, (.aload_n 0), 1), (1, (.getfield 26), 3)], [(0, .arraylength, 1), (1, (.if_icmp .le 5), 3)], [(0, (.iconst 0), 1), (2, (.aload_n 0), 1), (3, (.getfield 23), 3)], [(2, (.iconst 2), 1), (3, (.aload_n 0), 1)], [(0, (.getfield 52), 3), (3, .imul, 1)], [(0, (.lload_n 1), 1), (1, .lastore, 1), (2, (.aload_n 0), 1), (3, (.getfield 23), 3)], [(2, (.iconst 2), 1), (3, (.aload_n 0), 1)], [(0, (.getfield 52), 3), (3, .imul, 1)], [(0, (.iconst 1), 1), (1, .iadd, 1), (2, (.lload_n 3), 1), (3, .lastore, 1)], [(0, (.aload_n 0), 1), (1, (.getfield 26), 3)], [(0, (.iload 7), 2), (2, (.iconst 0), 1), (3, .iadd, 1)], [(0, (.iload 5), 2), (2, .iastore, 1), (3, (.aload_n 0), 1)], [(0, (.getfield 26), 3), (3, (.iload 7), 2)], [(1, (.iconst 1), 1), (2, .iadd, 1), (3, (.aload_n 0), 1)], [(0, (.iload 5), 2), (2, (.invokevirtual 61), 3)], [(1, .iastore, 1), (2, (.aload_n 0), 1), (3, (.getfield 26), 3)], [(2, (.iload 7), 2)], [(0, (.iconst 2), 1), (1, .iadd, 1), (2, (.iload 6), 2)], [(0, .iastore, 1), (1, (.aload_n 0), 1), (2, (.getfield 26), 3)], [(1, (.iload 7), 2), (3, (.iconst 3), 1)], [(0, .iadd, 1), (1, (.iconst 0), 1), (2, .iastore, 1), (3, (.aload_n 0), 1)], [(0, (.getfield 26), 3), (3, (.iload 7), 2)], [(1, (.iconst 4), 1), (2, .iadd, 1), (3, (.iconst 0), 1)], [(0, .iastore, 1), (1, (.aload_n 0), 1), (2, .dup, 1), (3, (.getfield 52), 3)], [(2, (.iconst 1), 1), (3, .iadd, 1)], [(0, (.putfield 52), 3), (3, (.iconst 1), 1)]]
theorem zdk_464 : zsh_all 8 zdl_464 prog_12_method_5_code.data.toList = true := by decide +kernel
theorem zd_464_0 : decode prog_12_method_5_code 0 = .ok (.aload_n 0, 1) := zsh_g zdk_464 (r := 0) (k := 0) rfl rfl rfl
theorem zd_464_1 : decode prog_12_method_5_code 1 = .ok (.getfield 52, 3) := zsh_g zdk_464 (r := 0) (k := 1) rfl rfl rfl
theorem zd_464_4 : decode prog_12_method_5_code 4 = .ok (.iconst 5, 1) := zsh_g zdk_464 (r := 1) (k := 0) rfl rfl rfl
theorem zd_464_5 : decode prog_12_method_5_code 5 = .ok (.imul, 1) := zsh_g zdk_464 (r := 1) (k := 1) rfl rfl rfl
theorem zd_464_6 : decode prog_12_method_5_code 6 = .ok (.istore 7, 2) := zsh_g zdk_464 (r := 1) (k := 2) rfl rfl rfl
theorem zd_464_8 : decode prog_12_method_5_code 8 = .ok (.iload 7, 2) := zsh_g zdk_464 (r := 2) (k := 0) rfl rfl rfl
theorem zd_464_10 : decode prog_12_method_5_code 10 = .ok (.iconst 5, 1) := zsh_g zdk_464 (r := 2) (k := 1) rfl rfl rfl
theorem zd_464_11 : decode prog_12_method_5_code 11 = .ok (.iadd, 1) := zsh_g zdk_464 (r := 2) (k := 2) rfl rfl rfl
theorem zd_464_12 : decode prog_12_method_5_code 12 = .ok (.aload_n 0, 1) := zsh_g zdk_464 (r := 3) (k := 0) rfl rfl rfl
theorem zd_464_13 : decode prog_12_method_5_code 13 = .ok (.getfield 26, 3) := zsh_g zdk_464 (r := 3) (k := 1) rfl rfl rfl
theorem zd_464_16 : decode prog_12_method_5_code 16 = .ok (.arraylength, 1) := zsh_g zdk_464 (r := 4) (k := 0) rfl rfl rfl
theorem zd_464_17 : decode prog_12_method_5_code 17 = .ok (.if_icmp .le 5, 3) := zsh_g zdk_464 (r := 4) (k := 1) rfl rfl rfl
theorem zd_464_20 : decode prog_12_method_5_code 20 = .ok (.iconst 0, 1) := zsh_g zdk_464 (r := 5) (k := 0) rfl rfl rfl
theorem zd_464_22 : decode prog_12_method_5_code 22 = .ok (.aload_n 0, 1) := zsh_g zdk_464 (r := 5) (k := 1) rfl rfl rfl
theorem zd_464_23 : decode prog_12_method_5_code 23 = .ok (.getfield 23, 3) := zsh_g zdk_464 (r := 5) (k := 2) rfl rfl rfl
theorem zd_464_26 : decode prog_12_method_5_code 26 = .ok (.iconst 2, 1) := zsh_g zdk_464 (r := 6) (k := 0) rfl rfl rfl
theorem zd_464_27 : decode prog_12_method_5_code 27 = .ok (.aload_n 0, 1) := zsh_g zdk_464 (r := 6) (k := 1) rfl rfl rfl
theorem zd_464_28 : decode prog_12_method_5_code 28 = .ok (.getfield 52, 3) := zsh_g zdk_464 (r := 7) (k := 0) rfl rfl rfl
theorem zd_464_31 : decode prog_12_method_5_code 31 = .ok (.imul, 1) := zsh_g zdk_464 (r := 7) (k := 1) rfl rfl rfl
theorem zd_464_32 : decode prog_12_method_5_code 32 = .ok (.lload_n 1, 1) := zsh_g zdk_464 (r := 8) (k := 0) rfl rfl rfl
theorem zd_464_33 : decode prog_12_method_5_code 33 = .ok (.lastore, 1) := zsh_g zdk_464 (r := 8) (k := 1) rfl rfl rfl
theorem zd_464_34 : decode prog_12_method_5_code 34 = .ok (.aload_n 0, 1) := zsh_g zdk_464 (r := 8) (k := 2) rfl rfl rfl
theorem zd_464_35 : decode prog_12_method_5_code 35 = .ok (.getfield 23, 3) := zsh_g zdk_464 (r := 8) (k := 3) rfl rfl rfl
theorem zd_464_38 : decode prog_12_method_5_code 38 = .ok (.iconst 2, 1) := zsh_g zdk_464 (r := 9) (k := 0) rfl rfl rfl
theorem zd_464_39 : decode prog_12_method_5_code 39 = .ok (.aload_n 0, 1) := zsh_g zdk_464 (r := 9) (k := 1) rfl rfl rfl
theorem zd_464_40 : decode prog_12_method_5_code 40 = .ok (.getfield 52, 3) := zsh_g zdk_464 (r := 10) (k := 0) rfl rfl rfl
theorem zd_464_43 : decode prog_12_method_5_code 43 = .ok (.imul, 1) := zsh_g zdk_464 (r := 10) (k := 1) rfl rfl rfl
theorem zd_464_44 : decode prog_12_method_5_code 44 = .ok (.iconst 1, 1) := zsh_g zdk_464 (r := 11) (k := 0) rfl rfl rfl
theorem zd_464_45 : decode prog_12_method_5_code 45 = .ok (.iadd, 1) := zsh_g zdk_464 (r := 11) (k := 1) rfl rfl rfl
theorem zd_464_46 : decode prog_12_method_5_code 46 = .ok (.lload_n 3, 1) := zsh_g zdk_464 (r := 11) (k := 2) rfl rfl rfl
theorem zd_464_47 : decode prog_12_method_5_code 47 = .ok (.lastore, 1) := zsh_g zdk_464 (r := 11) (k := 3) rfl rfl rfl
theorem zd_464_48 : decode prog_12_method_5_code 48 = .ok (.aload_n 0, 1) := zsh_g zdk_464 (r := 12) (k := 0) rfl rfl rfl
theorem zd_464_49 : decode prog_12_method_5_code 49 = .ok (.getfield 26, 3) := zsh_g zdk_464 (r := 12) (k := 1) rfl rfl rfl
theorem zd_464_52 : decode prog_12_method_5_code 52 = .ok (.iload 7, 2) := zsh_g zdk_464 (r := 13) (k := 0) rfl rfl rfl
theorem zd_464_54 : decode prog_12_method_5_code 54 = .ok (.iconst 0, 1) := zsh_g zdk_464 (r := 13) (k := 1) rfl rfl rfl
theorem zd_464_55 : decode prog_12_method_5_code 55 = .ok (.iadd, 1) := zsh_g zdk_464 (r := 13) (k := 2) rfl rfl rfl
theorem zd_464_56 : decode prog_12_method_5_code 56 = .ok (.iload 5, 2) := zsh_g zdk_464 (r := 14) (k := 0) rfl rfl rfl
theorem zd_464_58 : decode prog_12_method_5_code 58 = .ok (.iastore, 1) := zsh_g zdk_464 (r := 14) (k := 1) rfl rfl rfl
theorem zd_464_59 : decode prog_12_method_5_code 59 = .ok (.aload_n 0, 1) := zsh_g zdk_464 (r := 14) (k := 2) rfl rfl rfl
theorem zd_464_60 : decode prog_12_method_5_code 60 = .ok (.getfield 26, 3) := zsh_g zdk_464 (r := 15) (k := 0) rfl rfl rfl
theorem zd_464_63 : decode prog_12_method_5_code 63 = .ok (.iload 7, 2) := zsh_g zdk_464 (r := 15) (k := 1) rfl rfl rfl
theorem zd_464_65 : decode prog_12_method_5_code 65 = .ok (.iconst 1, 1) := zsh_g zdk_464 (r := 16) (k := 0) rfl rfl rfl
theorem zd_464_66 : decode prog_12_method_5_code 66 = .ok (.iadd, 1) := zsh_g zdk_464 (r := 16) (k := 1) rfl rfl rfl
theorem zd_464_67 : decode prog_12_method_5_code 67 = .ok (.aload_n 0, 1) := zsh_g zdk_464 (r := 16) (k := 2) rfl rfl rfl
theorem zd_464_68 : decode prog_12_method_5_code 68 = .ok (.iload 5, 2) := zsh_g zdk_464 (r := 17) (k := 0) rfl rfl rfl
theorem zd_464_70 : decode prog_12_method_5_code 70 = .ok (.invokevirtual 61, 3) := zsh_g zdk_464 (r := 17) (k := 1) rfl rfl rfl
theorem zd_464_73 : decode prog_12_method_5_code 73 = .ok (.iastore, 1) := zsh_g zdk_464 (r := 18) (k := 0) rfl rfl rfl
theorem zd_464_74 : decode prog_12_method_5_code 74 = .ok (.aload_n 0, 1) := zsh_g zdk_464 (r := 18) (k := 1) rfl rfl rfl
theorem zd_464_75 : decode prog_12_method_5_code 75 = .ok (.getfield 26, 3) := zsh_g zdk_464 (r := 18) (k := 2) rfl rfl rfl
theorem zd_464_78 : decode prog_12_method_5_code 78 = .ok (.iload 7, 2) := zsh_g zdk_464 (r := 19) (k := 0) rfl rfl rfl
theorem zd_464_80 : decode prog_12_method_5_code 80 = .ok (.iconst 2, 1) := zsh_g zdk_464 (r := 20) (k := 0) rfl rfl rfl
theorem zd_464_81 : decode prog_12_method_5_code 81 = .ok (.iadd, 1) := zsh_g zdk_464 (r := 20) (k := 1) rfl rfl rfl
theorem zd_464_82 : decode prog_12_method_5_code 82 = .ok (.iload 6, 2) := zsh_g zdk_464 (r := 20) (k := 2) rfl rfl rfl
theorem zd_464_84 : decode prog_12_method_5_code 84 = .ok (.iastore, 1) := zsh_g zdk_464 (r := 21) (k := 0) rfl rfl rfl
theorem zd_464_85 : decode prog_12_method_5_code 85 = .ok (.aload_n 0, 1) := zsh_g zdk_464 (r := 21) (k := 1) rfl rfl rfl
theorem zd_464_86 : decode prog_12_method_5_code 86 = .ok (.getfield 26, 3) := zsh_g zdk_464 (r := 21) (k := 2) rfl rfl rfl
theorem zd_464_89 : decode prog_12_method_5_code 89 = .ok (.iload 7, 2) := zsh_g zdk_464 (r := 22) (k := 0) rfl rfl rfl
theorem zd_464_91 : decode prog_12_method_5_code 91 = .ok (.iconst 3, 1) := zsh_g zdk_464 (r := 22) (k := 1) rfl rfl rfl
theorem zd_464_92 : decode prog_12_method_5_code 92 = .ok (.iadd, 1) := zsh_g zdk_464 (r := 23) (k := 0) rfl rfl rfl
theorem zd_464_93 : decode prog_12_method_5_code 93 = .ok (.iconst 0, 1) := zsh_g zdk_464 (r := 23) (k := 1) rfl rfl rfl
theorem zd_464_94 : decode prog_12_method_5_code 94 = .ok (.iastore, 1) := zsh_g zdk_464 (r := 23) (k := 2) rfl rfl rfl
theorem zd_464_95 : decode prog_12_method_5_code 95 = .ok (.aload_n 0, 1) := zsh_g zdk_464 (r := 23) (k := 3) rfl rfl rfl
theorem zd_464_96 : decode prog_12_method_5_code 96 = .ok (.getfield 26, 3) := zsh_g zdk_464 (r := 24) (k := 0) rfl rfl rfl
theorem zd_464_99 : decode prog_12_method_5_code 99 = .ok (.iload 7, 2) := zsh_g zdk_464 (r := 24) (k := 1) rfl rfl rfl
theorem zd_464_101 : decode prog_12_method_5_code 101 = .ok (.iconst 4, 1) := zsh_g zdk_464 (r := 25) (k := 0) rfl rfl rfl
theorem zd_464_102 : decode prog_12_method_5_code 102 = .ok (.iadd, 1) := zsh_g zdk_464 (r := 25) (k := 1) rfl rfl rfl
theorem zd_464_103 : decode prog_12_method_5_code 103 = .ok (.iconst 0, 1) := zsh_g zdk_464 (r := 25) (k := 2) rfl rfl rfl
theorem zd_464_104 : decode prog_12_method_5_code 104 = .ok (.iastore, 1) := zsh_g zdk_464 (r := 26) (k := 0) rfl rfl rfl
theorem zd_464_105 : decode prog_12_method_5_code 105 = .ok (.aload_n 0, 1) := zsh_g zdk_464 (r := 26) (k := 1) rfl rfl rfl
theorem zd_464_106 : decode prog_12_method_5_code 106 = .ok (.dup, 1) := zsh_g zdk_464 (r := 26) (k := 2) rfl rfl rfl
theorem zd_464_107 : decode prog_12_method_5_code 107 = .ok (.getfield 52, 3) := zsh_g zdk_464 (r := 26) (k := 3) rfl rfl rfl
theorem zd_464_110 : decode prog_12_method_5_code 110 = .ok (.iconst 1, 1) := zsh_g zdk_464 (r := 27) (k := 0) rfl rfl rfl
theorem zd_464_111 : decode prog_12_method_5_code 111 = .ok (.iadd, 1) := zsh_g zdk_464 (r := 27) (k := 1) rfl rfl rfl
theorem zd_464_112 : decode prog_12_method_5_code 112 = .ok (.putfield 52, 3) := zsh_g zdk_464 (r := 28) (k := 0) rfl rfl rfl
theorem zd_464_115 : decode prog_12_method_5_code 115 = .ok (.iconst 1, 1) := zsh_g zdk_464 (r := 28) (k := 1) rfl rfl rfl
def zdl_465 : List (List (Nat × Instr × Nat)) := [[(0, (.aload_n 0), 1), (1, (.getfield 9), 3)], [(0, (.aload_n 0), 1), (1, (.getfield 49), 3)], [(0, .iaload, 1), (1, (.bipush 6), 2), (3, (.if_icmp .eq 10), 3)], [(2, (.aload_n 0), 1), (3, (.iconst 1), 1)], [(0, (.putfield 46), 3), (3, (.iconst 0), 1)], [(1, (.aload_n 0), 1), (2, .dup, 1), (3, (.getfield 49), 3)], [(2, (.iconst 1), 1), (3, .iadd, 1)], [(0, (.putfield 49), 3), (3, (.aload_n 0), 1)], [(0, (.getfield 15), 3), (3, (.aload_n 0), 1)], [(0, (.getfield 49), 3), (3, (.iconst 1), 1)], [(0, .isub, 1), (1, .iaload, 1), (2, (.iload_n 1), 1), (3, .ishl, 1)]]
theorem zdk_465 : zsh_all 8 zdl_465 prog_11_method_18_code.data.toList = true := by decide +kernel
theorem zd_465_0 : decode prog_11_method_18_code 0 = .ok (.aload_n 0, 1) := zsh_g zdk_465 (r := 0) (k := 0) rfl rfl rfl
theorem zd_465_1 : decode prog_11_method_18_code 1 = .ok (.getfield 9, 3) := zsh_g zdk_465 (r := 0) (k := 1) rfl rfl rfl
theorem zd_465_4 : decode prog_11_method_18_code 4 = .ok (.aload_n 0, 1) := zsh_g zdk_465 (r := 1) (k := 0) rfl rfl rfl
theorem zd_465_5 : decode prog_11_method_18_code 5 = .ok (.getfield 49, 3) := zsh_g zdk_465 (r := 1) (k := 1) rfl rfl rfl
theorem zd_465_8 : decode prog_11_method_18_code 8 = .ok (.iaload, 1) := zsh_g zdk_465 (r := 2) (k := 0) rfl rfl rfl
theorem zd_465_9 : decode prog_11_method_18_code 9 = .ok (.bipush 6, 2) := zsh_g zdk_465 (r := 2) (k := 1) rfl rfl rfl
theorem zd_465_11 : decode prog_11_method_18_code 11 = .ok (.if_icmp .eq 10, 3) := zsh_g zdk_465 (r := 2) (k := 2) rfl rfl rfl
theorem zd_465_14 : decode prog_11_method_18_code 14 = .ok (.aload_n 0, 1) := zsh_g zdk_465 (r := 3) (k := 0) rfl rfl rfl
theorem zd_465_15 : decode prog_11_method_18_code 15 = .ok (.iconst 1, 1) := zsh_g zdk_465 (r := 3) (k := 1) rfl rfl rfl
theorem zd_465_16 : decode prog_11_method_18_code 16 = .ok (.putfield 46, 3) := zsh_g zdk_465 (r := 4) (k := 0) rfl rfl rfl
theorem zd_465_19 : decode prog_11_method_18_code 19 = .ok (.iconst 0, 1) := zsh_g zdk_465 (r := 4) (k := 1) rfl rfl rfl
theorem zd_465_21 : decode prog_11_method_18_code 21 = .ok (.aload_n 0, 1) := zsh_g zdk_465 (r := 5) (k := 0) rfl rfl rfl
theorem zd_465_22 : decode prog_11_method_18_code 22 = .ok (.dup, 1) := zsh_g zdk_465 (r := 5) (k := 1) rfl rfl rfl
theorem zd_465_23 : decode prog_11_method_18_code 23 = .ok (.getfield 49, 3) := zsh_g zdk_465 (r := 5) (k := 2) rfl rfl rfl
theorem zd_465_26 : decode prog_11_method_18_code 26 = .ok (.iconst 1, 1) := zsh_g zdk_465 (r := 6) (k := 0) rfl rfl rfl
theorem zd_465_27 : decode prog_11_method_18_code 27 = .ok (.iadd, 1) := zsh_g zdk_465 (r := 6) (k := 1) rfl rfl rfl
theorem zd_465_28 : decode prog_11_method_18_code 28 = .ok (.putfield 49, 3) := zsh_g zdk_465 (r := 7) (k := 0) rfl rfl rfl
theorem zd_465_31 : decode prog_11_method_18_code 31 = .ok (.aload_n 0, 1) := zsh_g zdk_465 (r := 7) (k := 1) rfl rfl rfl
theorem zd_465_32 : decode prog_11_method_18_code 32 = .ok (.getfield 15, 3) := zsh_g zdk_465 (r := 8) (k := 0) rfl rfl rfl
theorem zd_465_35 : decode prog_11_method_18_code 35 = .ok (.aload_n 0, 1) := zsh_g zdk_465 (r := 8) (k := 1) rfl rfl rfl
theorem zd_465_36 : decode prog_11_method_18_code 36 = .ok (.getfield 49, 3) := zsh_g zdk_465 (r := 9) (k := 0) rfl rfl rfl
theorem zd_465_39 : decode prog_11_method_18_code 39 = .ok (.iconst 1, 1) := zsh_g zdk_465 (r := 9) (k := 1) rfl rfl rfl
theorem zd_465_40 : decode prog_11_method_18_code 40 = .ok (.isub, 1) := zsh_g zdk_465 (r := 10) (k := 0) rfl rfl rfl
theorem zd_465_41 : decode prog_11_method_18_code 41 = .ok (.iaload, 1) := zsh_g zdk_465 (r := 10) (k := 1) rfl rfl rfl
theorem zd_465_42 : decode prog_11_method_18_code 42 = .ok (.iload_n 1, 1) := zsh_g zdk_465 (r := 10) (k := 2) rfl rfl rfl
theorem zd_465_43 : decode prog_11_method_18_code 43 = .ok (.ishl, 1) := zsh_g zdk_465 (r := 10) (k := 3) rfl rfl rfl
def zdl_466 : List (List (Nat × Instr × Nat)) := [[(0, (.aload_n 0), 1), (1, (.getfield 9), 3)], [(0, (.aload_n 0), 1), (1, (.getfield 49), 3)], [(0, .iaload, 1), (1, (.bipush 7), 2), (3, (.if_icmp .ne 7), 3)], [(2, (.iconst 1), 1), (3, (.goto 4), 3)], [(2, (.iconst 0), 1), (3, (.istore_n 1), 1)], [(0, (.aload_n 0), 1), (1, .dup, 1), (2, (.getfield 49), 3)], [(1, (.iconst 1), 1), (2, .iadd, 1), (3, (.putfield 49), 3)], [(2, (.aload_n 0), 1), (3, (.bipush 40), 2)], [(1, (.invokevirtual 102), 3)], [(0, (.aload_n 0), 1), (1, (.invokevirtual 121), 3)], [(0, (.aload_n 0), 1), (1, (.bipush 41), 2), (3, (.invokevirtual 102), 3)], [(2, (.aload_n 0), 1), (3, (.getfield 112), 3)], [(2, (.iconst (-1)), 1), (3, (.if_icmp .eq 7), 3)], [(2, (.iconst 0), 1), (3, (.goto 27), 3)], [(2, (.iload_n 1), 1), (3, (.ifCond .eq 16), 3)], [(2, (.aload_n 0), 1), (3, (.getfield 109), 3)], [(2, (.ldc 129), 2)], [(0, .iadd, 1), (1, (.bipush 16), 2), (3, .ishr, 1)], [(0, (.goto 7), 3), (3, (.aload_n 0), 1)], [(0, (.getfield 109), 3), (3, (.ldc 130), 2)], [(1, .iand, 1)]]
theorem zdk_466 : zsh_all 8 zdl_466 prog_11_method_24_code.data.toList = true := by decide +kernel
theorem zd_466_0 : decode prog_11_method_24_code 0 = .ok (.aload_n 0, 1) := zsh_g zdk_466 (r := 0) (k := 0) rfl rfl rfl
theorem zd_466_1 : decode prog_11_method_24_code 1 = .ok (.getfield 9, 3) := zsh_g zdk_466 (r := 0) (k := 1) rfl rfl rfl
theorem zd_466_4 : decode prog_11_method_24_code 4 = .ok (.aload_n 0, 1) := zsh_g zdk_466 (r := 1) (k := 0) rfl rfl rfl
theorem zd_466_5 : decode prog_11_method_24_code 5 = .ok (.getfield 49, 3) := zsh_g zdk_466 (r := 1) (k := 1) rfl rfl rfl
theorem zd_466_8 : decode prog_11_method_24_code 8 = .ok (.iaload, 1) := zsh_g zdk_466 (r := 2) (k := 0) rfl rfl rfl
theorem zd_466_9 : decode prog_11_method_24_code 9 = .ok (.bipush 7, 2) := zsh_g zdk_466 (r := 2) (k := 1) rfl rfl rfl
theorem zd_466_11 : decode prog_11_method_24_code 11 = .ok (.if_icmp .ne 7, 3) := zsh_g zdk_466 (r := 2) (k := 2) rfl rfl rfl
theorem zd_466_14 : decode prog_11_method_24_code 14 = .ok (.iconst 1, 1) := zsh_g zdk_466 (r := 3) (k := 0) rfl rfl rfl
theorem zd_466_15 : decode prog_11_method_24_code 15 = .ok (.goto 4, 3) := zsh_g zdk_466 (r := 3) (k := 1) rfl rfl rfl
theorem zd_466_18 : decode prog_11_method_24_code 18 = .ok (.iconst 0, 1) := zsh_g zdk_466 (r := 4) (k := 0) rfl rfl rfl
theorem zd_466_19 : decode prog_11_method_24_code 19 = .ok (.istore_n 1, 1) := zsh_g zdk_466 (r := 4) (k := 1) rfl rfl rfl
theorem zd_466_20 : decode prog_11_method_24_code 20 = .ok (.aload_n 0, 1) := zsh_g zdk_466 (r := 5) (k := 0) rfl rfl rfl
theorem zd_466_21 : decode prog_11_method_24_code 21 = .ok (.dup, 1) := zsh_g zdk_466 (r := 5) (k := 1) rfl rfl rfl
theorem zd_466_22 : decode prog_11_method_24_code 22 = .ok (.getfield 49, 3) := zsh_g zdk_466 (r := 5) (k := 2) rfl rfl rfl
theorem zd_466_25 : decode prog_11_method_24_code 25 = .ok (.iconst 1, 1) := zsh_g zdk_466 (r := 6) (k := 0) rfl rfl rfl
theorem zd_466_26 : decode prog_11_method_24_code 26 = .ok (.iadd, 1) := zsh_g zdk_466 (r := 6) (k := 1) rfl rfl rfl
theorem zd_466_27 : decode prog_11_method_24_code 27 = .ok (.putfield 49, 3) := zsh_g zdk_466 (r := 6) (k := 2) rfl rfl rfl
theorem zd_466_30 : decode prog_11_method_24_code 30 = .ok (.aload_n 0, 1) := zsh_g zdk_466 (r := 7) (k := 0) rfl rfl rfl
theorem zd_466_31 : decode prog_11_method_24_code 31 = .ok (.bipush 40, 2) := zsh_g zdk_466 (r := 7) (k := 1) rfl rfl rfl
theorem zd_466_33 : decode prog_11_method_24_code 33 = .ok (.invokevirtual 102, 3) := zsh_g zdk_466 (r := 8) (k := 0) rfl rfl rfl
theorem zd_466_36 : decode prog_11_method_24_code 36 = .ok (.aload_n 0, 1) := zsh_g zdk_466 (r := 9) (k := 0) rfl rfl rfl
theorem zd_466_37 : decode prog_11_method_24_code 37 = .ok (.invokevirtual 121, 3) := zsh_g zdk_466 (r := 9) (k := 1) rfl rfl rfl
theorem zd_466_40 : decode prog_11_method_24_code 40 = .ok (.aload_n 0, 1) := zsh_g zdk_466 (r := 10) (k := 0) rfl rfl rfl
theorem zd_466_41 : decode prog_11_method_24_code 41 = .ok (.bipush 41, 2) := zsh_g zdk_466 (r := 10) (k := 1) rfl rfl rfl
theorem zd_466_43 : decode prog_11_method_24_code 43 = .ok (.invokevirtual 102, 3) := zsh_g zdk_466 (r := 10) (k := 2) rfl rfl rfl
theorem zd_466_46 : decode prog_11_method_24_code 46 = .ok (.aload_n 0, 1) := zsh_g zdk_466 (r := 11) (k := 0) rfl rfl rfl
theorem zd_466_47 : decode prog_11_method_24_code 47 = .ok (.getfield 112, 3) := zsh_g zdk_466 (r := 11) (k := 1) rfl rfl rfl
theorem zd_466_50 : decode prog_11_method_24_code 50 = .ok (.iconst (-1), 1) := zsh_g zdk_466 (r := 12) (k := 0) rfl rfl rfl
theorem zd_466_51 : decode prog_11_method_24_code 51 = .ok (.if_icmp .eq 7, 3) := zsh_g zdk_466 (r := 12) (k := 1) rfl rfl rfl
theorem zd_466_54 : decode prog_11_method_24_code 54 = .ok (.iconst 0, 1) := zsh_g zdk_466 (r := 13) (k := 0) rfl rfl rfl
theorem zd_466_55 : decode prog_11_method_24_code 55 = .ok (.goto 27, 3) := zsh_g zdk_466 (r := 13) (k := 1) rfl rfl rfl
theorem zd_466_58 : decode prog_11_method_24_code 58 = .ok (.iload_n 1, 1) := zsh_g zdk_466 (r := 14) (k := 0) rfl rfl rfl
theorem zd_466_59 : decode prog_11_method_24_code 59 = .ok (.ifCond .eq 16, 3) := zsh_g zdk_466 (r := 14) (k := 1) rfl rfl rfl
theorem zd_466_62 : decode prog_11_method_24_code 62 = .ok (.aload_n 0, 1) := zsh_g zdk_466 (r := 15) (k := 0) rfl rfl rfl
theorem zd_466_63 : decode prog_11_method_24_code 63 = .ok (.getfield 109, 3) := zsh_g zdk_466 (r := 15) (k := 1) rfl rfl rfl
theorem zd_466_66 : decode prog_11_method_24_code 66 = .ok (.ldc 129, 2) := zsh_g zdk_466 (r := 16) (k := 0) rfl rfl rfl
theorem zd_466_68 : decode prog_11_method_24_code 68 = .ok (.iadd, 1) := zsh_g zdk_466 (r := 17) (k := 0) rfl rfl rfl
theorem zd_466_69 : decode prog_11_method_24_code 69 = .ok (.bipush 16, 2) := zsh_g zdk_466 (r := 17) (k := 1) rfl rfl rfl
theorem zd_466_71 : decode prog_11_method_24_code 71 = .ok (.ishr, 1) := zsh_g zdk_466 (r := 17) (k := 2) rfl rfl rfl
theorem zd_466_72 : decode prog_11_method_24_code 72 = .ok (.goto 7, 3) := zsh_g zdk_466 (r := 18) (k := 0) rfl rfl rfl
theorem zd_466_75 : decode prog_11_method_24_code 75 = .ok (.aload_n 0, 1) := zsh_g zdk_466 (r := 18) (k := 1) rfl rfl rfl
theorem zd_466_76 : decode prog_11_method_24_code 76 = .ok (.getfield 109, 3) := zsh_g zdk_466 (r := 19) (k := 0) rfl rfl rfl
theorem zd_466_79 : decode prog_11_method_24_code 79 = .ok (.ldc 130, 2) := zsh_g zdk_466 (r := 19) (k := 1) rfl rfl rfl
theorem zd_466_81 : decode prog_11_method_24_code 81 = .ok (.iand, 1) := zsh_g zdk_466 (r := 20) (k := 0) rfl rfl rfl
def zdl_467 : List (List (Nat × Instr × Nat)) := [[(0, (.aload_n 0), 1), (1, (.iconst 0), 1), (2, (.putfield 109), 3)], [(1, (.aload_n 0), 1), (2, (.iconst (-1)), 1), (3, (.putfield 112), 3)], [(2, (.aload_n 0), 1), (3, (.getfield 9), 3)], [(2, (.aload_n 0), 1), (3, (.getfield 49), 3)], [(2, .iaload, 1), (3, (.bipush 45), 2)], [(1, (.if_icmp .ne 7), 3)], [(0, (.iconst 1), 1), (1, (.goto 4), 3)], [(0, (.iconst 0), 1), (1, (.istore_n 1), 1), (2, (.aload_n 0), 1), (3, .dup, 1)], [(0, (.getfield 49), 3), (3, (.iload_n 1), 1)], [(0, (.ifCond .eq 7), 3), (3, (.iconst 1), 1)], [(0, (.goto 4), 3), (3, (.iconst 0), 1)], [(0, .iadd, 1), (1, (.putfield 49), 3)], [(0, (.iconst 0), 1), (1, (.istore_n 2), 1), (2, (.iload_n 2), 1), (3, (.aload_n 0), 1)], [(0, (.getfield 42), 3), (3, (.if_icmp .gt 206), 3)], [(2, (.aload_n 0), 1), (3, (.getfield 9), 3)], [(2, (.aload_n 0), 1), (3, (.getfield 49), 3)], [(2, .iaload, 1), (3, (.istore_n 3), 1)], [(0, (.aload_n 0), 1), (1, (.getfield 15), 3)], [(0, (.aload_n 0), 1), (1, (.getfield 49), 3)], [(0, .iaload, 1), (1, (.istore 4), 2), (3, (.iload_n 3), 1)], [(0, (.iconst 2), 1), (1, (.if_icmp .ne 37), 3)], [(0, (.iload 4), 2), (2, (.ifCond .lt 32), 3)], [(1, (.aload_n 0), 1), (2, (.getfield 28), 3)], [(1, (.getfield 115), 3)], [(0, (.iload 4), 2), (2, .iaload, 1), (3, (.iconst 1), 1)], [(0, .iand, 1), (1, (.ifCond .eq 17), 3)], [(0, (.iconst 3), 1), (1, (.istore_n 3), 1), (2, (.aload_n 0), 1), (3, (.getfield 28), 3)], [(2, (.getfield 118), 3)], [(1, (.iload 4), 2), (3, .iaload, 1)], [(0, (.istore 4), 2), (2, (.iload_n 3), 1), (3, (.iconst 3), 1)], [(0, (.if_icmp .ne 27), 3), (3, (.aload_n 0), 1)], [(0, .dup, 1), (1, (.getfield 109), 3)], [(0, (.iload_n 1), 1), (1, (.ifCond .eq 9), 3)], [(0, (.iload 4), 2), (2, .ineg, 1), (3, (.goto 5), 3)], [(2, (.iload 4), 2)], [(0, .iadd, 1), (1, (.putfield 109), 3)], [(0, (.goto 42), 3), (3, (.iload_n 3), 1)], [(0, (.iconst 2), 1), (1, (.if_icmp .lt 31), 3)], [(0, (.iload_n 3), 1), (1, (.iconst 5), 1), (2, (.if_icmp .gt 26), 3)], [(1, (.iload_n 1), 1), (2, (.ifCond .ne 22), 3)], [(1, (.aload_n 0), 1), (2, (.getfield 112), 3)], [(1, (.iconst (-1)), 1), (2, (.if_icmp .ne 14), 3)], [(1, (.aload_n 0), 1), (2, (.aload_n 0), 1), (3, (.getfield 49), 3)], [(2, (.putfield 112), 3)], [(1, (.goto 9), 3)], [(0, (.aload_n 0), 1), (1, (.iconst 1), 1), (2, (.putfield 46), 3)], [(2, (.aload_n 0), 1), (3, .dup, 1)], [(0, (.getfield 49), 3), (3, (.iconst 1), 1)], [(0, .iadd, 1), (1, (.putfield 49), 3)], [(0, (.aload_n 0), 1), (1, (.getfield 9), 3)], [(0, (.aload_n 0), 1), (1, (.getfield 49), 3)], [(0, .iaload, 1), (1, (.bipush 43), 2), (3, (.if_icmp .eq 18), 3)], [(2, (.aload_n 0), 1), (3, (.getfield 9), 3)], [(2, (.aload_n 0), 1), (3, (.getfield 49), 3)], [(2, .iaload, 1), (3, (.bipush 45), 2)], [(1, (.if_icmp .eq 4), 3)], [(1, (.aload_n 0), 1), (2, (.getfield 9), 3)], [(1, (.aload_n 0), 1), (2, (.getfield 49), 3)], [(1, .iaload, 1), (2, (.bipush 45), 2)], [(0, (.if_icmp .ne 7), 3), (3, (.iconst 1), 1)], [(0, (.goto 4), 3), (3, (.iconst 0), 1)], [(0, (.istore_n 1), 1), (1, (.aload_n 0), 1), (2, .dup, 1), (3, (.getfield 49), 3)], [(2, (.iconst 1), 1), (3, .iadd, 1)], [(0, (.putfield 49), 3), (3, (.iinc 2 1), 3)], [(2, (.goto (-208)), 3)]]
theorem zdk_467 : zsh_all 8 zdl_467 prog_11_method_20_code.data.toList = true := by decide +kernel
theorem zd_467_0 : decode prog_11_method_20_code 0 = .ok (.aload_n 0, 1) := zsh_g zdk_467 (r := 0) (k := 0) rfl rfl rfl
theorem zd_467_1 : decode prog_11_method_20_code 1 = .ok (.iconst 0, 1) := zsh_g zdk_467 (r := 0) (k := 1) rfl rfl rfl
theorem zd_467_2 : decode prog_11_method_20_code 2 = .ok (.putfield 109, 3) := zsh_g zdk_467 (r := 0) (k := 2) rfl rfl rfl
theorem zd_467_5 : decode prog_11_method_20_code 5 = .ok (.aload_n 0, 1) := zsh_g zdk_467 (r := 1) (k := 0) rfl rfl rfl
theorem zd_467_6 : decode prog_11_method_20_code 6 = .ok (.iconst (-1), 1) := zsh_g zdk_467 (r := 1) (k := 1) rfl rfl rfl
theorem zd_467_7 : decode prog_11_method_20_code 7 = .ok (.putfield 112, 3) := zsh_g zdk_467 (r := 1) (k := 2) rfl rfl rfl
theorem zd_467_10 : decode prog_11_method_20_code 10 = .ok (.aload_n 0, 1) := zsh_g zdk_467 (r := 2) (k := 0) rfl rfl rfl
theorem zd_467_11 : decode prog_11_method_20_code 11 = .ok (.getfield 9, 3) := zsh_g zdk_467 (r := 2) (k := 1) rfl rfl rfl
theorem zd_467_14 : decode prog_11_method_20_code 14 = .ok (.aload_n 0, 1) := zsh_g zdk_467 (r := 3) (k := 0) rfl rfl rfl
theorem zd_467_15 : decode prog_11_method_20_code 15 = .ok (.getfield 49, 3) := zsh_g zdk_467 (r := 3) (k := 1) rfl rfl rfl
theorem zd_467_18 : decode prog_11_method_20_code 18 = .ok (.iaload, 1) := zsh_g zdk_467 (r := 4) (k := 0) rfl rfl rfl
theorem zd_467_19 : decode prog_11_method_20_code 19 = .ok (.bipush 45, 2) := zsh_g zdk_467 (r := 4) (k := 1) rfl rfl rfl
theorem zd_467_21 : decode prog_11_method_20_code 21 = .ok (.if_icmp .ne 7, 3) := zsh_g zdk_467 (r := 5) (k := 0) rfl rfl rfl
theorem zd_467_24 : decode prog_11_method_20_code 24 = .ok (.iconst 1, 1) := zsh_g zdk_467 (r := 6) (k := 0) rfl rfl rfl
theorem zd_467_25 : decode prog_11_method_20_code 25 = .ok (.goto 4, 3) := zsh_g zdk_467 (r := 6) (k := 1) rfl rfl rfl
theorem zd_467_28 : decode prog_11_method_20_code 28 = .ok (.iconst 0, 1) := zsh_g zdk_467 (r := 7) (k := 0) rfl rfl rfl
theorem zd_467_29 : decode prog_11_method_20_code 29 = .ok (.istore_n 1, 1) := zsh_g zdk_467 (r := 7) (k := 1) rfl rfl rfl
theorem zd_467_30 : decode prog_11_method_20_code 30 = .ok (.aload_n 0, 1) := zsh_g zdk_467 (r := 7) (k := 2) rfl rfl rfl
theorem zd_467_31 : decode prog_11_method_20_code 31 = .ok (.dup, 1) := zsh_g zdk_467 (r := 7) (k := 3) rfl rfl rfl
theorem zd_467_32 : decode prog_11_method_20_code 32 = .ok (.getfield 49, 3) := zsh_g zdk_467 (r := 8) (k := 0) rfl rfl rfl
theorem zd_467_35 : decode prog_11_method_20_code 35 = .ok (.iload_n 1, 1) := zsh_g zdk_467 (r := 8) (k := 1) rfl rfl rfl
theorem zd_467_36 : decode prog_11_method_20_code 36 = .ok (.ifCond .eq 7, 3) := zsh_g zdk_467 (r := 9) (k := 0) rfl rfl rfl
theorem zd_467_39 : decode prog_11_method_20_code 39 = .ok (.iconst 1, 1) := zsh_g zdk_467 (r := 9) (k := 1) rfl rfl rfl
theorem zd_467_40 : decode prog_11_method_20_code 40 = .ok (.goto 4, 3) := zsh_g zdk_467 (r := 10) (k := 0) rfl rfl rfl
theorem zd_467_43 : decode prog_11_method_20_code 43 = .ok (.iconst 0, 1) := zsh_g zdk_467 (r := 10) (k := 1) rfl rfl rfl
theorem zd_467_44 : decode prog_11_method_20_code 44 = .ok (.iadd, 1) := zsh_g zdk_467 (r := 11) (k := 0) rfl rfl rfl
theorem zd_467_45 : decode prog_11_method_20_code 45 = .ok (.putfield 49, 3) := zsh_g zdk_467 (r := 11) (k := 1) rfl rfl rfl
theorem zd_467_48 : decode prog_11_method_20_code 48 = .ok (.iconst 0, 1) := zsh_g zdk_467 (r := 12) (k := 0) rfl rfl rfl
theorem zd_467_49 : decode prog_11_method_20_code 49 = .ok (.istore_n 2, 1) := zsh_g zdk_467 (r := 12) (k := 1) rfl rfl rfl
theorem zd_467_50 : decode prog_11_method_20_code 50 = .ok (.iload_n 2, 1) := zsh_g zdk_467 (r := 12) (k := 2) rfl rfl rfl
theorem zd_467_51 : decode prog_11_method_20_code 51 = .ok (.aload_n 0, 1) := zsh_g zdk_467 (r := 12) (k := 3) rfl rfl rfl
theorem zd_467_52 : decode prog_11_method_20_code 52 = .ok (.getfield 42, 3) := zsh_g zdk_467 (r := 13) (k := 0) rfl rfl rfl
theorem zd_467_55 : decode prog_11_method_20_code 55 = .ok (.if_icmp .gt 206, 3) := zsh_g zdk_467 (r := 13) (k := 1) rfl rfl rfl
theorem zd_467_58 : decode prog_11_method_20_code 58 = .ok (.aload_n 0, 1) := zsh_g zdk_467 (r := 14) (k := 0) rfl rfl rfl
theorem zd_467_59 : decode prog_11_method_20_code 59 = .ok (.getfield 9, 3) := zsh_g zdk_467 (r := 14) (k := 1) rfl rfl rfl
theorem zd_467_62 : decode prog_11_method_20_code 62 = .ok (.aload_n 0, 1) := zsh_g zdk_467 (r := 15) (k := 0) rfl rfl rfl
theorem zd_467_63 : decode prog_11_method_20_code 63 = .ok (.getfield 49, 3) := zsh_g zdk_467 (r := 15) (k := 1) rfl rfl rfl
theorem zd_467_66 : decode prog_11_method_20_code 66 = .ok (.iaload, 1) := zsh_g zdk_467 (r := 16) (k := 0) rfl rfl rfl
theorem zd_467_67 : decode prog_11_method_20_code 67 = .ok (.istore_n 3, 1) := zsh_g zdk_467 (r := 16) (k := 1) rfl rfl rfl
theorem zd_467_68 : decode prog_11_method_20_code 68 = .ok (.aload_n 0, 1) := zsh_g zdk_467 (r := 17) (k := 0) rfl rfl rfl
theorem zd_467_69 : decode prog_11_method_20_code 69 = .ok (.getfield 15, 3) := zsh_g zdk_467 (r := 17) (k := 1) rfl rfl rfl
theorem zd_467_72 : decode prog_11_method_20_code 72 = .ok (.aload_n 0, 1) := zsh_g zdk_467 (r := 18) (k := 0) rfl rfl rfl
theorem zd_467_73 : decode prog_11_method_20_code 73 = .ok (.getfield 49, 3) := zsh_g zdk_467 (r := 18) (k := 1) rfl rfl rfl
theorem zd_467_76 : decode prog_11_method_20_code 76 = .ok (.iaload, 1) := zsh_g zdk_467 (r := 19) (k := 0) rfl rfl rfl
theorem zd_467_77 : decode prog_11_method_20_code 77 = .ok (.istore 4, 2) := zsh_g zdk_467 (r := 19) (k := 1) rfl rfl rfl
theorem zd_467_79 : decode prog_11_method_20_code 79 = .ok (.iload_n 3, 1) := zsh_g zdk_467 (r := 19) (k := 2) rfl rfl rfl
theorem zd_467_80 : decode prog_11_method_20_code 80 = .ok (.iconst 2, 1) := zsh_g zdk_467 (r := 20) (k := 0) rfl rfl rfl
theorem zd_467_81 : decode prog_11_method_20_code 81 = .ok (.if_icmp .ne 37, 3) := zsh_g zdk_467 (r := 20) (k := 1) rfl rfl rfl
theorem zd_467_84 : decode prog_11_method_20_code 84 = .ok (.iload 4, 2) := zsh_g zdk_467 (r := 21) (k := 0) rfl rfl rfl
theorem zd_467_86 : decode prog_11_method_20_code 86 = .ok (.ifCond .lt 32, 3) := zsh_g zdk_467 (r := 21) (k := 1) rfl rfl rfl
theorem zd_467_89 : decode prog_11_method_20_code 89 = .ok (.aload_n 0, 1) := zsh_g zdk_467 (r := 22) (k := 0) rfl rfl rfl
theorem zd_467_90 : decode prog_11_method_20_code 90 = .ok (.getfield 28, 3) := zsh_g zdk_467 (r := 22) (k := 1) rfl rfl rfl
theorem zd_467_93 : decode prog_11_method_20_code 93 = .ok (.getfield 115, 3) := zsh_g zdk_467 (r := 23) (k := 0) rfl rfl rfl
theorem zd_467_96 : decode prog_11_method_20_code 96 = .ok (.iload 4, 2) := zsh_g zdk_467 (r := 24) (k := 0) rfl rfl rfl
theorem zd_467_98 : decode prog_11_method_20_code 98 = .ok (.iaload, 1) := zsh_g zdk_467 (r := 24) (k := 1) rfl rfl rfl
theorem zd_467_99 : decode prog_11_method_20_code 99 = .ok (.iconst 1, 1) := zsh_g zdk_467 (r := 24) (k := 2) rfl rfl rfl
theorem zd_467_100 : decode prog_11_method_20_code 100 = .ok (.iand, 1) := zsh_g zdk_467 (r := 25) (k := 0) rfl rfl rfl
theorem zd_467_101 : decode prog_11_method_20_code 101 = .ok (.ifCond .eq 17, 3) := zsh_g zdk_467 (r := 25) (k := 1) rfl rfl rfl
theorem zd_467_104 : decode prog_11_method_20_code 104 = .ok (.iconst 3, 1) := zsh_g zdk_467 (r := 26) (k := 0) rfl rfl rfl
theorem zd_467_105 : decode prog_11_method_20_code 105 = .ok (.istore_n 3, 1) := zsh_g zdk_467 (r := 26) (k := 1) rfl rfl rfl
theorem zd_467_106 : decode prog_11_method_20_code 106 = .ok (.aload_n 0, 1) := zsh_g zdk_467 (r := 26) (k := 2) rfl rfl rfl
theorem zd_467_107 : decode prog_11_method_20_code 107 = .ok (.getfield 28, 3) := zsh_g zdk_467 (r := 26) (k := 3) rfl rfl rfl
theorem zd_467_110 : decode prog_11_method_20_code 110 = .ok (.getfield 118, 3) := zsh_g zdk_467 (r := 27) (k := 0) rfl rfl rfl
theorem zd_467_113 : decode prog_11_method_20_code 113 = .ok (.iload 4, 2) := zsh_g zdk_467 (r := 28) (k := 0) rfl rfl rfl
theorem zd_467_115 : decode prog_11_method_20_code 115 = .ok (.iaload, 1) := zsh_g zdk_467 (r := 28) (k := 1) rfl rfl rfl
theorem zd_467_116 : decode prog_11_method_20_code 116 = .ok (.istore 4, 2) := zsh_g zdk_467 (r := 29) (k := 0) rfl rfl rfl
theorem zd_467_118 : decode prog_11_method_20_code 118 = .ok (.iload_n 3, 1) := zsh_g zdk_467 (r := 29) (k := 1) rfl rfl rfl
theorem zd_467_119 : decode prog_11_method_20_code 119 = .ok (.iconst 3, 1) := zsh_g zdk_467 (r := 29) (k := 2) rfl rfl rfl
theorem zd_467_120 : decode prog_11_method_20_code 120 = .ok (.if_icmp .ne 27, 3) := zsh_g zdk_467 (r := 30) (k := 0) rfl rfl rfl
theorem zd_467_123 : decode prog_11_method_20_code 123 = .ok (.aload_n 0, 1) := zsh_g zdk_467 (r := 30) (k := 1) rfl rfl rfl
theorem zd_467_124 : decode prog_11_method_20_code 124 = .ok (.dup, 1) := zsh_g zdk_467 (r := 31) (k := 0) rfl rfl rfl
theorem zd_467_125 : decode prog_11_method_20_code 125 = .ok (.getfield 109, 3) := zsh_g zdk_467 (r := 31) (k := 1) rfl rfl rfl
theorem zd_467_128 : decode prog_11_method_20_code 128 = .ok (.iload_n 1, 1) := zsh_g zdk_467 (r := 32) (k := 0) rfl rfl rfl
theorem zd_467_129 : decode prog_11_method_20_code 129 = .ok (.ifCond .eq 9, 3) := zsh_g zdk_467 (r := 32) (k := 1) rfl rfl rfl
theorem zd_467_132 : decode prog_11_method_20_code 132 = .ok (.iload 4, 2) := zsh_g zdk_467 (r := 33) (k := 0) rfl rfl rfl
theorem zd_467_134 : decode prog_11_method_20_code 134 = .ok (.ineg, 1) := zsh_g zdk_467 (r := 33) (k := 1) rfl rfl rfl
theorem zd_467_135 : decode prog_11_method_20_code 135 = .ok (.goto 5, 3) := zsh_g zdk_467 (r := 33) (k := 2) rfl rfl rfl
theorem zd_467_138 : decode prog_11_method_20_code 138 = .ok (.iload 4, 2) := zsh_g zdk_467 (r := 34) (k := 0) rfl rfl rfl
theorem zd_467_140 : decode prog_11_method_20_code 140 = .ok (.iadd, 1) := zsh_g zdk_467 (r := 35) (k := 0) rfl rfl rfl
theorem zd_467_141 : decode prog_11_method_20_code 141 = .ok (.putfield 109, 3) := zsh_g zdk_467 (r := 35) (k := 1) rfl rfl rfl
theorem zd_467_144 : decode prog_11_method_20_code 144 = .ok (.goto 42, 3) := zsh_g zdk_467 (r := 36) (k := 0) rfl rfl rfl
theorem zd_467_147 : decode prog_11_method_20_code 147 = .ok (.iload_n 3, 1) := zsh_g zdk_467 (r := 36) (k := 1) rfl rfl rfl
theorem zd_467_148 : decode prog_11_method_20_code 148 = .ok (.iconst 2, 1) := zsh_g zdk_467 (r := 37) (k := 0) rfl rfl rfl
theorem zd_467_149 : decode prog_11_method_20_code 149 = .ok (.if_icmp .lt 31, 3) := zsh_g zdk_467 (r := 37) (k := 1) rfl rfl rfl
theorem zd_467_152 : decode prog_11_method_20_code 152 = .ok (.iload_n 3, 1) := zsh_g zdk_467 (r := 38) (k := 0) rfl rfl rfl
theorem zd_467_153 : decode prog_11_method_20_code 153 = .ok (.iconst 5, 1) := zsh_g zdk_467 (r := 38) (k := 1) rfl rfl rfl
theorem zd_467_154 : decode prog_11_method_20_code 154 = .ok (.if_icmp .gt 26, 3) := zsh_g zdk_467 (r := 38) (k := 2) rfl rfl rfl
theorem zd_467_157 : decode prog_11_method_20_code 157 = .ok (.iload_n 1, 1) := zsh_g zdk_467 (r := 39) (k := 0) rfl rfl rfl
theorem zd_467_158 : decode prog_11_method_20_code 158 = .ok (.ifCond .ne 22, 3) := zsh_g zdk_467 (r := 39) (k := 1) rfl rfl rfl
theorem zd_467_161 : decode prog_11_method_20_code 161 = .ok (.aload_n 0, 1) := zsh_g zdk_467 (r := 40) (k := 0) rfl rfl rfl
theorem zd_467_162 : decode prog_11_method_20_code 162 = .ok (.getfield 112, 3) := zsh_g zdk_467 (r := 40) (k := 1) rfl rfl rfl
theorem zd_467_165 : decode prog_11_method_20_code 165 = .ok (.iconst (-1), 1) := zsh_g zdk_467 (r := 41) (k := 0) rfl rfl rfl
theorem zd_467_166 : decode prog_11_method_20_code 166 = .ok (.if_icmp .ne 14, 3) := zsh_g zdk_467 (r := 41) (k := 1) rfl rfl rfl
theorem zd_467_169 : decode prog_11_method_20_code 169 = .ok (.aload_n 0, 1) := zsh_g zdk_467 (r := 42) (k := 0) rfl rfl rfl
theorem zd_467_170 : decode prog_11_method_20_code 170 = .ok (.aload_n 0, 1) := zsh_g zdk_467 (r := 42) (k := 1) rfl rfl rfl
theorem zd_467_171 : decode prog_11_method_20_code 171 = .ok (.getfield 49, 3) := zsh_g zdk_467 (r := 42) (k := 2) rfl rfl rfl
theorem zd_467_174 : decode prog_11_method_20_code 174 = .ok (.putfield 112, 3) := zsh_g zdk_467 (r := 43) (k := 0) rfl rfl rfl
theorem zd_467_177 : decode prog_11_method_20_code 177 = .ok (.goto 9, 3) := zsh_g zdk_467 (r := 44) (k := 0) rfl rfl rfl
theorem zd_467_180 : decode prog_11_method_20_code 180 = .ok (.aload_n 0, 1) := zsh_g zdk_467 (r := 45) (k := 0) rfl rfl rfl
theorem zd_467_181 : decode prog_11_method_20_code 181 = .ok (.iconst 1, 1) := zsh_g zdk_467 (r := 45) (k := 1) rfl rfl rfl
theorem zd_467_182 : decode prog_11_method_20_code 182 = .ok (.putfield 46, 3) := zsh_g zdk_467 (r := 45) (k := 2) rfl rfl rfl
theorem zd_467_186 : decode prog_11_method_20_code 186 = .ok (.aload_n 0, 1) := zsh_g zdk_467 (r := 46) (k := 0) rfl rfl rfl
theorem zd_467_187 : decode prog_11_method_20_code 187 = .ok (.dup, 1) := zsh_g zdk_467 (r := 46) (k := 1) rfl rfl rfl
theorem zd_467_188 : decode prog_11_method_20_code 188 = .ok (.getfield 49, 3) := zsh_g zdk_467 (r := 47) (k := 0) rfl rfl rfl
theorem zd_467_191 : decode prog_11_method_20_code 191 = .ok (.iconst 1, 1) := zsh_g zdk_467 (r := 47) (k := 1) rfl rfl rfl
theorem zd_467_192 : decode prog_11_method_20_code 192 = .ok (.iadd, 1) := zsh_g zdk_467 (r := 48) (k := 0) rfl rfl rfl
theorem zd_467_193 : decode prog_11_method_20_code 193 = .ok (.putfield 49, 3) := zsh_g zdk_467 (r := 48) (k := 1) rfl rfl rfl
theorem zd_467_196 : decode prog_11_method_20_code 196 = .ok (.aload_n 0, 1) := zsh_g zdk_467 (r := 49) (k := 0) rfl rfl rfl
theorem zd_467_197 : decode prog_11_method_20_code 197 = .ok (.getfield 9, 3) := zsh_g zdk_467 (r := 49) (k := 1) rfl rfl rfl
theorem zd_467_200 : decode prog_11_method_20_code 200 = .ok (.aload_n 0, 1) := zsh_g zdk_467 (r := 50) (k := 0) rfl rfl rfl
theorem zd_467_201 : decode prog_11_method_20_code 201 = .ok (.getfield 49, 3) := zsh_g zdk_467 (r := 50) (k := 1) rfl rfl rfl
theorem zd_467_204 : decode prog_11_method_20_code 204 = .ok (.iaload, 1) := zsh_g zdk_467 (r := 51) (k := 0) rfl rfl rfl
theorem zd_467_205 : decode prog_11_method_20_code 205 = .ok (.bipush 43, 2) := zsh_g zdk_467 (r := 51) (k := 1) rfl rfl rfl
theorem zd_467_207 : decode prog_11_method_20_code 207 = .ok (.if_icmp .eq 18, 3) := zsh_g zdk_467 (r := 51) (k := 2) rfl rfl rfl
theorem zd_467_210 : decode prog_11_method_20_code 210 = .ok (.aload_n 0, 1) := zsh_g zdk_467 (r := 52) (k := 0) rfl rfl rfl
theorem zd_467_211 : decode prog_11_method_20_code 211 = .ok (.getfield 9, 3) := zsh_g zdk_467 (r := 52) (k := 1) rfl rfl rfl
theorem zd_467_214 : decode prog_11_method_20_code 214 = .ok (.aload_n 0, 1) := zsh_g zdk_467 (r := 53) (k := 0) rfl rfl rfl
theorem zd_467_215 : decode prog_11_method_20_code 215 = .ok (.getfield 49, 3) := zsh_g zdk_467 (r := 53) (k := 1) rfl rfl rfl
theorem zd_467_218 : decode prog_11_method_20_code 218 = .ok (.iaload, 1) := zsh_g zdk_467 (r := 54) (k := 0) rfl rfl rfl
theorem zd_467_219 : decode prog_11_method_20_code 219 = .ok (.bipush 45, 2) := zsh_g zdk_467 (r := 54) (k := 1) rfl rfl rfl
theorem zd_467_221 : decode prog_11_method_20_code 221 = .ok (.if_icmp .eq 4, 3) := zsh_g zdk_467 (r := 55) (k := 0) rfl rfl rfl
theorem zd_467_225 : decode prog_11_method_20_code 225 = .ok (.aload_n 0, 1) := zsh_g zdk_467 (r := 56) (k := 0) rfl rfl rfl
theorem zd_467_226 : decode prog_11_method_20_code 226 = .ok (.getfield 9, 3) := zsh_g zdk_467 (r := 56) (k := 1) rfl rfl rfl
theorem zd_467_229 : decode prog_11_method_20_code 229 = .ok (.aload_n 0, 1) := zsh_g zdk_467 (r := 57) (k := 0) rfl rfl rfl
theorem zd_467_230 : decode prog_11_method_20_code 230 = .ok (.getfield 49, 3) := zsh_g zdk_467 (r := 57) (k := 1) rfl rfl rfl
theorem zd_467_233 : decode prog_11_method_20_code 233 = .ok (.iaload, 1) := zsh_g zdk_467 (r := 58) (k := 0) rfl rfl rfl
theorem zd_467_234 : decode prog_11_method_20_code 234 = .ok (.bipush 45, 2) := zsh_g zdk_467 (r := 58) (k := 1) rfl rfl rfl
theorem zd_467_236 : decode prog_11_method_20_code 236 = .ok (.if_icmp .ne 7, 3) := zsh_g zdk_467 (r := 59) (k := 0) rfl rfl rfl
theorem zd_467_239 : decode prog_11_method_20_code 239 = .ok (.iconst 1, 1) := zsh_g zdk_467 (r := 59) (k := 1) rfl rfl rfl
theorem zd_467_240 : decode prog_11_method_20_code 240 = .ok (.goto 4, 3) := zsh_g zdk_467 (r := 60) (k := 0) rfl rfl rfl
theorem zd_467_243 : decode prog_11_method_20_code 243 = .ok (.iconst 0, 1) := zsh_g zdk_467 (r := 60) (k := 1) rfl rfl rfl
theorem zd_467_244 : decode prog_11_method_20_code 244 = .ok (.istore_n 1, 1) := zsh_g zdk_467 (r := 61) (k := 0) rfl rfl rfl
theorem zd_467_245 : decode prog_11_method_20_code 245 = .ok (.aload_n 0, 1) := zsh_g zdk_467 (r := 61) (k := 1) rfl rfl rfl
theorem zd_467_246 : decode prog_11_method_20_code 246 = .ok (.dup, 1) := zsh_g zdk_467 (r := 61) (k := 2) rfl rfl rfl
theorem zd_467_247 : decode prog_11_method_20_code 247 = .ok (.getfield 49, 3) := zsh_g zdk_467 (r := 61) (k := 3) rfl rfl rfl
theorem zd_467_250 : decode prog_11_method_20_code 250 = .ok (.iconst 1, 1) := zsh_g zdk_467 (r := 62) (k := 0) rfl rfl rfl
theorem zd_467_251 : decode prog_11_method_20_code 251 = .ok (.iadd, 1) := zsh_g zdk_467 (r := 62) (k := 1) rfl rfl rfl
theorem zd_467_252 : decode prog_11_method_20_code 252 = .ok (.putfield 49, 3) := zsh_g zdk_467 (r := 63) (k := 0) rfl rfl rfl
theorem zd_467_255 : decode prog_11_method_20_code 255 = .ok (.iinc 2 1, 3) := zsh_g zdk_467 (r := 63) (k := 1) rfl rfl rfl
theorem zd_467_258 : decode prog_11_method_20_code 258 = .ok (.goto (-208), 3) := zsh_g zdk_467 (r := 64) (k := 0) rfl rfl rfl
def zdl_468 : List (List (Nat × Instr × Nat)) := [[(0, (.aload_n 0), 1), (1, (.bipush 44), 2), (3, (.invokevirtual 102), 3)], [(2, (.aload_n 0), 1), (3, (.iload_n 1), 1)], [(0, (.invokevirtual 106), 3)]]
theorem zdk_468 : zsh_all 8 zdl_468 prog_11_method_19_code.data.toList = true := by decide +kernel
theorem zd_468_0 : decode prog_11_method_19_code 0 = .ok (.aload_n 0, 1) := zsh_g zdk_468 (r := 0) (k := 0) rfl rfl rfl
theorem zd_468_1 : decode prog_11_method_19_code 1 = .ok (.bipush 44, 2) := zsh_g zdk_468 (r := 0) (k := 1) rfl rfl rfl
theorem zd_468_3 : decode prog_11_method_19_code 3 = .ok (.invokevirtual 102, 3) := zsh_g zdk_468 (r := 0) (k := 2) rfl rfl rfl
theorem zd_468_6 : decode prog_11_method_19_code 6 = .ok (.aload_n 0, 1) := zsh_g zdk_468 (r := 1) (k := 0) rfl rfl rfl
theorem zd_468_7 : decode prog_11_method_19_code 7 = .ok (.iload_n 1, 1) := zsh_g zdk_468 (r := 1) (k := 1) rfl rfl rfl
theorem zd_468_8 : decode prog_11_method_19_code 8 = .ok (.invokevirtual 106, 3) := zsh_g zdk_468 (r := 2) (k := 0) rfl rfl rfl
def zdl_469 : List (List (Nat × Instr × Nat)) := [[(0, (.aload_n 0), 1), (1, (.bipush 44), 2), (3, (.invokevirtual 102), 3)], [(2, (.aload_n 0), 1), (3, (.iload_n 1), 1)], [(0, (.iload_n 2), 1), (1, (.invokevirtual 126), 3)]]
theorem zdk_469 : zsh_all 8 zdl_469 prog_11_method_22_code.data.toList = true := by decide +kernel
theorem zd_469_0 : decode prog_11_method_22_code 0 = .ok (.aload_n 0, 1) := zsh_g zdk_469 (r := 0) (k := 0) rfl rfl rfl
theorem zd_469_1 : decode prog_11_method_22_code 1 = .ok (.bipush 44, 2) := zsh_g zdk_469 (r := 0) (k := 1) rfl rfl rfl
theorem zd_469_3 : decode prog_11_method_22_code 3 = .ok (.invokevirtual 102, 3) := zsh_g zdk_469 (r := 0) (k := 2) rfl rfl rfl
theorem zd_469_6 : decode prog_11_method_22_code 6 = .ok (.aload_n 0, 1) := zsh_g zdk_469 (r := 1) (k := 0) rfl rfl rfl
theorem zd_469_7 : decode prog_11_method_22_code 7 = .ok (.iload_n 1, 1) := zsh_g zdk_469 (r := 1) (k := 1) rfl rfl rfl
theorem zd_469_8 : decode prog_11_method_22_code 8 = .ok (.iload_n 2, 1) := zsh_g zdk_469 (r := 2) (k := 0) rfl rfl rfl
theorem zd_469_9 : decode prog_11_method_22_code 9 = .ok (.invokevirtual 126, 3) := zsh_g zdk_469 (r := 2) (k := 1) rfl rfl rfl
def zdl_470 : List (List (Nat × Instr × Nat)) := [[(0, (.aload_n 0), 1), (1, (.getfield 52), 3)], [(0, (.bipush 44), 2), (2, (.invokevirtual 298), 3)], [(1, (.aload_n 0), 1), (2, (.getfield 52), 3)], [(1, (.invokevirtual 295), 3)], [(0, (.aload_n 0), 1), (1, (.iconst 4), 1), (2, (.putfield 240), 3)], [(1, (.iconst 0), 1)]]
theorem zdk_470 : zsh_all 8 zdl_470 prog_2_method_11_code.data.toList = true := by decide +kernel
theorem zd_470_0 : decode prog_2_method_11_code 0 = .ok (.aload_n 0, 1) := zsh_g zdk_470 (r := 0) (k := 0) rfl rfl rfl
theorem zd_470_1 : decode prog_2_method_11_code 1 = .ok (.getfield 52, 3) := zsh_g zdk_470 (r := 0) (k := 1) rfl rfl rfl
theorem zd_470_4 : decode prog_2_method_11_code 4 = .ok (.bipush 44, 2) := zsh_g zdk_470 (r := 1) (k := 0) rfl rfl rfl
theorem zd_470_6 : decode prog_2_method_11_code 6 = .ok (.invokevirtual 298, 3) := zsh_g zdk_470 (r := 1) (k := 1) rfl rfl rfl
theorem zd_470_9 : decode prog_2_method_11_code 9 = .ok (.aload_n 0, 1) := zsh_g zdk_470 (r := 2) (k := 0) rfl rfl rfl
theorem zd_470_10 : decode prog_2_method_11_code 10 = .ok (.getfield 52, 3) := zsh_g zdk_470 (r := 2) (k := 1) rfl rfl rfl
theorem zd_470_13 : decode prog_2_method_11_code 13 = .ok (.invokevirtual 295, 3) := zsh_g zdk_470 (r := 3) (k := 0) rfl rfl rfl
theorem zd_470_16 : decode prog_2_method_11_code 16 = .ok (.aload_n 0, 1) := zsh_g zdk_470 (r := 4) (k := 0) rfl rfl rfl
theorem zd_470_17 : decode prog_2_method_11_code 17 = .ok (.iconst 4, 1) := zsh_g zdk_470 (r := 4) (k := 1) rfl rfl rfl
theorem zd_470_18 : decode prog_2_method_11_code 18 = .ok (.putfield 240, 3) := zsh_g zdk_470 (r := 4) (k := 2) rfl rfl rfl
theorem zd_470_21 : decode prog_2_method_11_code 21 = .ok (.iconst 0, 1) := zsh_g zdk_470 (r := 5) (k := 0) rfl rfl rfl
def zdl_471 : List (List (Nat × Instr × Nat)) := [[(0, (.aload_n 0), 1), (1, (.invokevirtual 121), 3)], [(0, (.aload_n 0), 1), (1, (.getfield 112), 3)], [(0, (.iconst (-1)), 1), (1, (.if_icmp .ne 8), 3)], [(0, (.aload_n 0), 1), (1, (.iconst 1), 1), (2, (.putfield 46), 3)]]
theorem zdk_471 : zsh_all 8 zdl_471 prog_11_method_23_code.data.toList = true := by decide +kernel
theorem zd_471_0 : decode prog_11_method_23_code 0 = .ok (.aload_n 0, 1) := zsh_g zdk_471 (r := 0) (k := 0) rfl rfl rfl
theorem zd_471_1 : decode prog_11_method_23_code 1 = .ok (.invokevirtual 121, 3) := zsh_g zdk_471 (r := 0) (k := 1) rfl rfl rfl
theorem zd_471_4 : decode prog_11_method_23_code 4 = .ok (.aload_n 0, 1) := zsh_g zdk_471 (r := 1) (k := 0) rfl rfl rfl
theorem zd_471_5 : decode prog_11_method_23_code 5 = .ok (.getfield 112, 3) := zsh_g zdk_471 (r := 1) (k := 1) rfl rfl rfl
theorem zd_471_8 : decode prog_11_method_23_code 8 = .ok (.iconst (-1), 1) := zsh_g zdk_471 (r := 2) (k := 0) rfl rfl rfl
theorem zd_471_9 : decode prog_11_method_23_code 9 = .ok (.if_icmp .ne 8, 3) := zsh_g zdk_471 (r := 2) (k := 1) rfl rfl rfl
theorem zd_471_12 : decode prog_11_method_23_code 12 = .ok (.aload_n 0, 1) := zsh_g zdk_471 (r := 3) (k := 0) rfl rfl rfl
theorem zd_471_13 : decode prog_11_method_23_code 13 = .ok (.iconst 1, 1) := zsh_g zdk_471 (r := 3) (k := 1) rfl rfl rfl
theorem zd_471_14 : decode prog_11_method_23_code 14 = .ok (.putfield 46, 3) := zsh_g zdk_471 (r := 3) (k := 2) rfl rfl rfl
def zdl_472 : List (List (Nat × Instr × Nat)) := [[(0, (.aload_n 0), 1), (1, (.getfield 52), 3)], [(0, (.bipush 44), 2), (2, (.invokevirtual 298), 3)], [(1, (.aload_n 0), 1), (2, (.getfield 52), 3)], [(1, (.invokevirtual 159), 3)], [(0, (.iload_n 1), 1), (1, (.iconst 1), 1), (2, (.if_icmp .ne 8), 3)], [(1, (.bipush 7), 2), (3, (.goto 5), 3)], [(2, (.bipush 8), 2)], [(0, (.if_icmp .eq 17), 3), (3, (.aload_n 0), 1)], [(0, (.getfield 52), 3), (3, (.iload_n 2), 1)], [(0, (.iload_n 3), 1), (1, (.invokevirtual 284), 3)], [(0, (.ldc_w 291), 3), (3, .iand, 1)], [(1, (.aload_n 0), 1), (2, (.getfield 52), 3)], [(1, (.invokevirtual 301), 3)], [(0, (.istore 4), 2), (2, (.aload_n 0), 1), (3, (.aload_n 0), 1)], [(0, (.getfield 52), 3), (3, (.getfield 304), 3)], [(2, (.iconst (-1)), 1), (3, (.if_icmp .ne 7), 3)], [(2, (.iconst (-1)), 1), (3, (.goto 4), 3)], [(2, (.iload_n 1), 1), (3, (.putfield 240), 3)], [(2, (.iload 4), 2)]]
theorem zdk_472 : zsh_all 8 zdl_472 prog_2_method_10_code.data.toList = true := by decide +kernel
theorem zd_472_0 : decode prog_2_method_10_code 0 = .ok (.aload_n 0, 1) := zsh_g zdk_472 (r := 0) (k := 0) rfl rfl rfl
theorem zd_472_1 : decode prog_2_method_10_code 1 = .ok (.getfield 52, 3) := zsh_g zdk_472 (r := 0) (k := 1) rfl rfl rfl
theorem zd_472_4 : decode prog_2_method_10_code 4 = .ok (.bipush 44, 2) := zsh_g zdk_472 (r := 1) (k := 0) rfl rfl rfl
theorem zd_472_6 : decode prog_2_method_10_code 6 = .ok (.invokevirtual 298, 3) := zsh_g zdk_472 (r := 1) (k := 1) rfl rfl rfl
theorem zd_472_9 : decode prog_2_method_10_code 9 = .ok (.aload_n 0, 1) := zsh_g zdk_472 (r := 2) (k := 0) rfl rfl rfl
theorem zd_472_10 : decode prog_2_method_10_code 10 = .ok (.getfield 52, 3) := zsh_g zdk_472 (r := 2) (k := 1) rfl rfl rfl
theorem zd_472_13 : decode prog_2_method_10_code 13 = .ok (.invokevirtual 159, 3) := zsh_g zdk_472 (r := 3) (k := 0) rfl rfl rfl
theorem zd_472_16 : decode prog_2_method_10_code 16 = .ok (.iload_n 1, 1) := zsh_g zdk_472 (r := 4) (k := 0) rfl rfl rfl
theorem zd_472_17 : decode prog_2_method_10_code 17 = .ok (.iconst 1, 1) := zsh_g zdk_472 (r := 4) (k := 1) rfl rfl rfl
theorem zd_472_18 : decode prog_2_method_10_code 18 = .ok (.if_icmp .ne 8, 3) := zsh_g zdk_472 (r := 4) (k := 2) rfl rfl rfl
theorem zd_472_21 : decode prog_2_method_10_code 21 = .ok (.bipush 7, 2) := zsh_g zdk_472 (r := 5) (k := 0) rfl rfl rfl
theorem zd_472_23 : decode prog_2_method_10_code 23 = .ok (.goto 5, 3) := zsh_g zdk_472 (r := 5) (k := 1) rfl rfl rfl
theorem zd_472_26 : decode prog_2_method_10_code 26 = .ok (.bipush 8, 2) := zsh_g zdk_472 (r := 6) (k := 0) rfl rfl rfl
theorem zd_472_28 : decode prog_2_method_10_code 28 = .ok (.if_icmp .eq 17, 3) := zsh_g zdk_472 (r := 7) (k := 0) rfl rfl rfl
theorem zd_472_31 : decode prog_2_method_10_code 31 = .ok (.aload_n 0, 1) := zsh_g zdk_472 (r := 7) (k := 1) rfl rfl rfl
theorem zd_472_32 : decode prog_2_method_10_code 32 = .ok (.getfield 52, 3) := zsh_g zdk_472 (r := 8) (k := 0) rfl rfl rfl
theorem zd_472_35 : decode prog_2_method_10_code 35 = .ok (.iload_n 2, 1) := zsh_g zdk_472 (r := 8) (k := 1) rfl rfl rfl
theorem zd_472_36 : decode prog_2_method_10_code 36 = .ok (.iload_n 3, 1) := zsh_g zdk_472 (r := 9) (k := 0) rfl rfl rfl
theorem zd_472_37 : decode prog_2_method_10_code 37 = .ok (.invokevirtual 284, 3) := zsh_g zdk_472 (r := 9) (k := 1) rfl rfl rfl
theorem zd_472_40 : decode prog_2_method_10_code 40 = .ok (.ldc_w 291, 3) := zsh_g zdk_472 (r := 10) (k := 0) rfl rfl rfl
theorem zd_472_43 : decode prog_2_method_10_code 43 = .ok (.iand, 1) := zsh_g zdk_472 (r := 10) (k := 1) rfl rfl rfl
theorem zd_472_45 : decode prog_2_method_10_code 45 = .ok (.aload_n 0, 1) := zsh_g zdk_472 (r := 11) (k := 0) rfl rfl rfl
theorem zd_472_46 : decode prog_2_method_10_code 46 = .ok (.getfield 52, 3) := zsh_g zdk_472 (r := 11) (k := 1) rfl rfl rfl
theorem zd_472_49 : decode prog_2_method_10_code 49 = .ok (.invokevirtual 301, 3) := zsh_g zdk_472 (r := 12) (k := 0) rfl rfl rfl
theorem zd_472_52 : decode prog_2_method_10_code 52 = .ok (.istore 4, 2) := zsh_g zdk_472 (r := 13) (k := 0) rfl rfl rfl
theorem zd_472_54 : decode prog_2_method_10_code 54 = .ok (.aload_n 0, 1) := zsh_g zdk_472 (r := 13) (k := 1) rfl rfl rfl
theorem zd_472_55 : decode prog_2_method_10_code 55 = .ok (.aload_n 0, 1) := zsh_g zdk_472 (r := 13) (k := 2) rfl rfl rfl
theorem zd_472_56 : decode prog_2_method_10_code 56 = .ok (.getfield 52, 3) := zsh_g zdk_472 (r := 14) (k := 0) rfl rfl rfl
theorem zd_472_59 : decode prog_2_method_10_code 59 = .ok (.getfield 304, 3) := zsh_g zdk_472 (r := 14) (k := 1) rfl rfl rfl
theorem zd_472_62 : decode prog_2_method_10_code 62 = .ok (.iconst (-1), 1) := zsh_g zdk_472 (r := 15) (k := 0) rfl rfl rfl
theorem zd_472_63 : decode prog_2_method_10_code 63 = .ok (.if_icmp .ne 7, 3) := zsh_g zdk_472 (r := 15) (k := 1) rfl rfl rfl
theorem zd_472_66 : decode prog_2_method_10_code 66 = .ok (.iconst (-1), 1) := zsh_g zdk_472 (r := 16) (k := 0) rfl rfl rfl
theorem zd_472_67 : decode prog_2_method_10_code 67 = .ok (.goto 4, 3) := zsh_g zdk_472 (r := 16) (k := 1) rfl rfl rfl
theorem zd_472_70 : decode prog_2_method_10_code 70 = .ok (.iload_n 1, 1) := zsh_g zdk_472 (r := 17) (k := 0) rfl rfl rfl
theorem zd_472_71 : decode prog_2_method_10_code 71 = .ok (.putfield 240, 3) := zsh_g zdk_472 (r := 17) (k := 1) rfl rfl rfl
theorem zd_472_74 : decode prog_2_method_10_code 74 = .ok (.iload 4, 2) := zsh_g zdk_472 (r := 18) (k := 0) rfl rfl rfl
def zdl_473 : List (List (Nat × Instr × Nat)) := [[(0, (.iload_n 0), 1), (1, (.bipush 6), 2), (3, (.if_icmp .eq 21), 3)], [(2, (.iload_n 0), 1), (3, (.bipush 7), 2)], [(1, (.if_icmp .eq 15), 3)], [(0, (.iload_n 0), 1), (1, (.bipush 26), 2), (3, (.if_icmp .lt 13), 3)], [(2, (.iload_n 0), 1), (3, (.bipush 35), 2)], [(1, (.if_icmp .gt 7), 3)], [(0, (.iconst 1), 1), (1, (.goto 4), 3)], [(0, (.iconst 0), 1)]]
theorem zdk_473 : zsh_all 8 zdl_473 prog_3_method_3_code.data.toList = true := by decide +kernel
theorem zd_473_0 : decode prog_3_method_3_code 0 = .ok (.iload_n 0, 1) := zsh_g zdk_473 (r := 0) (k := 0) rfl rfl rfl
theorem zd_473_1 : decode prog_3_method_3_code 1 = .ok (.bipush 6, 2) := zsh_g zdk_473 (r := 0) (k := 1) rfl rfl rfl
theorem zd_473_3 : decode prog_3_method_3_code 3 = .ok (.if_icmp .eq 21, 3) := zsh_g zdk_473 (r := 0) (k := 2) rfl rfl rfl
theorem zd_473_6 : decode prog_3_method_3_code 6 = .ok (.iload_n 0, 1) := zsh_g zdk_473 (r := 1) (k := 0) rfl rfl rfl
theorem zd_473_7 : decode prog_3_method_3_code 7 = .ok (.bipush 7, 2) := zsh_g zdk_473 (r := 1) (k := 1) rfl rfl rfl
theorem zd_473_9 : decode prog_3_method_3_code 9 = .ok (.if_icmp .eq 15, 3) := zsh_g zdk_473 (r := 2) (k := 0) rfl rfl rfl
theorem zd_473_12 : decode prog_3_method_3_code 12 = .ok (.iload_n 0, 1) := zsh_g zdk_473 (r := 3) (k := 0) rfl rfl rfl
theorem zd_473_13 : decode prog_3_method_3_code 13 = .ok (.bipush 26, 2) := zsh_g zdk_473 (r := 3) (k := 1) rfl rfl rfl
theorem zd_473_15 : decode prog_3_method_3_code 15 = .ok (.if_icmp .lt 13, 3) := zsh_g zdk_473 (r := 3) (k := 2) rfl rfl rfl
theorem zd_473_18 : decode prog_3_method_3_code 18 = .ok (.iload_n 0, 1) := zsh_g zdk_473 (r := 4) (k := 0) rfl rfl rfl
theorem zd_473_19 : decode prog_3_method_3_code 19 = .ok (.bipush 35, 2) := zsh_g zdk_473 (r := 4) (k := 1) rfl rfl rfl
theorem zd_473_21 : decode prog_3_method_3_code 21 = .ok (.if_icmp .gt 7, 3) := zsh_g zdk_473 (r := 5) (k := 0) rfl rfl rfl
theorem zd_473_24 : decode prog_3_method_3_code 24 = .ok (.iconst 1, 1) := zsh_g zdk_473 (r := 6) (k := 0) rfl rfl rfl
theorem zd_473_25 : decode prog_3_method_3_code 25 = .ok (.goto 4, 3) := zsh_g zdk_473 (r := 6) (k := 1) rfl rfl rfl
theorem zd_473_28 : decode prog_3_method_3_code 28 = .ok (.iconst 0, 1) := zsh_g zdk_473 (r := 7) (k := 0) rfl rfl rfl
def zdl_474 : List (List (Nat × Instr × Nat)) := [[(0, (.aload_n 0), 1), (1, (.getfield 24), 3)], [(0, (.aload_n 0), 1), (1, (.getfield 196), 3)], [(0, .iaload, 1), (1, (.iconst (-1)), 1), (2, (.if_icmp .eq 31), 3)], [(1, (.aload_n 0), 1), (2, (.getfield 24), 3)], [(1, (.aload_n 0), 1), (2, (.getfield 196), 3)], [(1, .iaload, 1), (2, (.iload_n 3), 1), (3, (.iconst 4), 1)], [(0, .isub, 1), (1, (.if_icmp .ne 16), 3)], [(0, (.aload_n 0), 1), (1, (.getfield 33), 3)], [(0, (.aload_n 0), 1), (1, (.getfield 196), 3)], [(0, .iaload, 1), (1, (.iload_n 3), 1), (2, (.if_icmp .ne 5), 3)], [(1, (.iconst 0), 1), (3, (.aload_n 0), 1)], [(0, (.getfield 27), 3), (3, (.aload_n 0), 1)], [(0, (.getfield 196), 3), (3, .iaload, 1)], [(0, (.istore 4), 2), (2, (.aload_n 0), 1), (3, (.getfield 65), 3)], [(2, (.aload_n 0), 1), (3, (.getfield 196), 3)], [(2, (.iload_n 3), 1), (3, (.iconst 4), 1)], [(0, .isub, 1), (1, (.invokevirtual 332), 3)], [(0, (.istore 5), 2), (2, (.iload 4), 2)], [(0, (.iload 5), 2), (2, (.invokestatic 339), 3)], [(1, (.istore 6), 2), (3, (.iload 6), 2)], [(1, (.ifCond .eq 15), 3)], [(0, (.iload_n 1), 1), (1, (.iload_n 2), 1), (2, (.iload 6), 2)], [(0, (.invokestatic 342), 3), (3, (.ifCond .eq 5), 3)], [(2, (.iconst 0), 1)], [(0, (.iload_n 1), 1), (1, (.invokestatic 345), 3)], [(0, (.ifCond .eq 22), 3), (3, (.iload 6), 2)], [(1, (.bipush 31), 2), (3, (.if_icmp .eq 19), 3)], [(2, (.iload 4), 2)], [(0, (.iload 5), 2), (2, (.bipush 31), 2)], [(0, (.invokestatic 342), 3), (3, (.ifCond .ne 7), 3)], [(2, (.iconst 1), 1), (3, (.goto 4), 3)], [(2, (.iconst 0), 1)]]
theorem zdk_474 : zsh_all 8 zdl_474 prog_2_method_17_code.data.toList = true := by decide +kernel
theorem zd_474_0 : decode prog_2_method_17_code 0 = .ok (.aload_n 0, 1) := zsh_g zdk_474 (r := 0) (k := 0) rfl rfl rfl
theorem zd_474_1 : decode prog_2_method_17_code 1 = .ok (.getfield 24, 3) := zsh_g zdk_474 (r := 0) (k := 1) rfl rfl rfl
theorem zd_474_4 : decode prog_2_method_17_code 4 = .ok (.aload_n 0, 1) := zsh_g zdk_474 (r := 1) (k := 0) rfl rfl rfl
theorem zd_474_5 : decode prog_2_method_17_code 5 = .ok (.getfield 196, 3) := zsh_g zdk_474 (r := 1) (k := 1) rfl rfl rfl
theorem zd_474_8 : decode prog_2_method_17_code 8 = .ok (.iaload, 1) := zsh_g zdk_474 (r := 2) (k := 0) rfl rfl rfl
theorem zd_474_9 : decode prog_2_method_17_code 9 = .ok (.iconst (-1), 1) := zsh_g zdk_474 (r := 2) (k := 1) rfl rfl rfl
theorem zd_474_10 : decode prog_2_method_17_code 10 = .ok (.if_icmp .eq 31, 3) := zsh_g zdk_474 (r := 2) (k := 2) rfl rfl rfl
theorem zd_474_13 : decode prog_2_method_17_code 13 = .ok (.aload_n 0, 1) := zsh_g zdk_474 (r := 3) (k := 0) rfl rfl rfl
theorem zd_474_14 : decode prog_2_method_17_code 14 = .ok (.getfield 24, 3) := zsh_g zdk_474 (r := 3) (k := 1) rfl rfl rfl
theorem zd_474_17 : decode prog_2_method_17_code 17 = .ok (.aload_n 0, 1) := zsh_g zdk_474 (r := 4) (k := 0) rfl rfl rfl
theorem zd_474_18 : decode prog_2_method_17_code 18 = .ok (.getfield 196, 3) := zsh_g zdk_474 (r := 4) (k := 1) rfl rfl rfl
theorem zd_474_21 : decode prog_2_method_17_code 21 = .ok (.iaload, 1) := zsh_g zdk_474 (r := 5) (k := 0) rfl rfl rfl
theorem zd_474_22 : decode prog_2_method_17_code 22 = .ok (.iload_n 3, 1) := zsh_g zdk_474 (r := 5) (k := 1) rfl rfl rfl
theorem zd_474_23 : decode prog_2_method_17_code 23 = .ok (.iconst 4, 1) := zsh_g zdk_474 (r := 5) (k := 2) rfl rfl rfl
theorem zd_474_24 : decode prog_2_method_17_code 24 = .ok (.isub, 1) := zsh_g zdk_474 (r := 6) (k := 0) rfl rfl rfl
theorem zd_474_25 : decode prog_2_method_17_code 25 = .ok (.if_icmp .ne 16, 3) := zsh_g zdk_474 (r := 6) (k := 1) rfl rfl rfl
theorem zd_474_28 : decode prog_2_method_17_code 28 = .ok (.aload_n 0, 1) := zsh_g zdk_474 (r := 7) (k := 0) rfl rfl rfl
theorem zd_474_29 : decode prog_2_method_17_code 29 = .ok (.getfield 33, 3) := zsh_g zdk_474 (r := 7) (k := 1) rfl rfl rfl
theorem zd_474_32 : decode prog_2_method_17_code 32 = .ok (.aload_n 0, 1) := zsh_g zdk_474 (r := 8) (k := 0) rfl rfl rfl
theorem zd_474_33 : decode prog_2_method_17_code 33 = .ok (.getfield 196, 3) := zsh_g zdk_474 (r := 8) (k := 1) rfl rfl rfl
theorem zd_474_36 : decode prog_2_method_17_code 36 = .ok (.iaload, 1) := zsh_g zdk_474 (r := 9) (k := 0) rfl rfl rfl
theorem zd_474_37 : decode prog_2_method_17_code 37 = .ok (.iload_n 3, 1) := zsh_g zdk_474 (r := 9) (k := 1) rfl rfl rfl
theorem zd_474_38 : decode prog_2_method_17_code 38 = .ok (.if_icmp .ne 5, 3) := zsh_g zdk_474 (r := 9) (k := 2) rfl rfl rfl
theorem zd_474_41 : decode prog_2_method_17_code 41 = .ok (.iconst 0, 1) := zsh_g zdk_474 (r := 10) (k := 0) rfl rfl rfl
theorem zd_474_43 : decode prog_2_method_17_code 43 = .ok (.aload_n 0, 1) := zsh_g zdk_474 (r := 10) (k := 1) rfl rfl rfl
theorem zd_474_44 : decode prog_2_method_17_code 44 = .ok (.getfield 27, 3) := zsh_g zdk_474 (r := 11) (k := 0) rfl rfl rfl
theorem zd_474_47 : decode prog_2_method_17_code 47 = .ok (.aload_n 0, 1) := zsh_g zdk_474 (r := 11) (k := 1) rfl rfl rfl
theorem zd_474_48 : decode prog_2_method_17_code 48 = .ok (.getfield 196, 3) := zsh_g zdk_474 (r := 12) (k := 0) rfl rfl rfl
theorem zd_474_51 : decode prog_2_method_17_code 51 = .ok (.iaload, 1) := zsh_g zdk_474 (r := 12) (k := 1) rfl rfl rfl
theorem zd_474_52 : decode prog_2_method_17_code 52 = .ok (.istore 4, 2) := zsh_g zdk_474 (r := 13) (k := 0) rfl rfl rfl
theorem zd_474_54 : decode prog_2_method_17_code 54 = .ok (.aload_n 0, 1) := zsh_g zdk_474 (r := 13) (k := 1) rfl rfl rfl
theorem zd_474_55 : decode prog_2_method_17_code 55 = .ok (.getfield 65, 3) := zsh_g zdk_474 (r := 13) (k := 2) rfl rfl rfl
theorem zd_474_58 : decode prog_2_method_17_code 58 = .ok (.aload_n 0, 1) := zsh_g zdk_474 (r := 14) (k := 0) rfl rfl rfl
theorem zd_474_59 : decode prog_2_method_17_code 59 = .ok (.getfield 196, 3) := zsh_g zdk_474 (r := 14) (k := 1) rfl rfl rfl
theorem zd_474_62 : decode prog_2_method_17_code 62 = .ok (.iload_n 3, 1) := zsh_g zdk_474 (r := 15) (k := 0) rfl rfl rfl
theorem zd_474_63 : decode prog_2_method_17_code 63 = .ok (.iconst 4, 1) := zsh_g zdk_474 (r := 15) (k := 1) rfl rfl rfl
theorem zd_474_64 : decode prog_2_method_17_code 64 = .ok (.isub, 1) := zsh_g zdk_474 (r := 16) (k := 0) rfl rfl rfl
theorem zd_474_65 : decode prog_2_method_17_code 65 = .ok (.invokevirtual 332, 3) := zsh_g zdk_474 (r := 16) (k := 1) rfl rfl rfl
theorem zd_474_68 : decode prog_2_method_17_code 68 = .ok (.istore 5, 2) := zsh_g zdk_474 (r := 17) (k := 0) rfl rfl rfl
theorem zd_474_70 : decode prog_2_method_17_code 70 = .ok (.iload 4, 2) := zsh_g zdk_474 (r := 17) (k := 1) rfl rfl rfl
theorem zd_474_72 : decode prog_2_method_17_code 72 = .ok (.iload 5, 2) := zsh_g zdk_474 (r := 18) (k := 0) rfl rfl rfl
theorem zd_474_74 : decode prog_2_method_17_code 74 = .ok (.invokestatic 339, 3) := zsh_g zdk_474 (r := 18) (k := 1) rfl rfl rfl
theorem zd_474_77 : decode prog_2_method_17_code 77 = .ok (.istore 6, 2) := zsh_g zdk_474 (r := 19) (k := 0) rfl rfl rfl
theorem zd_474_79 : decode prog_2_method_17_code 79 = .ok (.iload 6, 2) := zsh_g zdk_474 (r := 19) (k := 1) rfl rfl rfl
theorem zd_474_81 : decode prog_2_method_17_code 81 = .ok (.ifCond .eq 15, 3) := zsh_g zdk_474 (r := 20) (k := 0) rfl rfl rfl
theorem zd_474_84 : decode prog_2_method_17_code 84 = .ok (.iload_n 1, 1) := zsh_g zdk_474 (r := 21) (k := 0) rfl rfl rfl
theorem zd_474_85 : decode prog_2_method_17_code 85 = .ok (.iload_n 2, 1) := zsh_g zdk_474 (r := 21) (k := 1) rfl rfl rfl
theorem zd_474_86 : decode prog_2_method_17_code 86 = .ok (.iload 6, 2) := zsh_g zdk_474 (r := 21) (k := 2) rfl rfl rfl
theorem zd_474_88 : decode prog_2_method_17_code 88 = .ok (.invokestatic 342, 3) := zsh_g zdk_474 (r := 22) (k := 0) rfl rfl rfl
theorem zd_474_91 : decode prog_2_method_17_code 91 = .ok (.ifCond .eq 5, 3) := zsh_g zdk_474 (r := 22) (k := 1) rfl rfl rfl
theorem zd_474_94 : decode prog_2_method_17_code 94 = .ok (.iconst 0, 1) := zsh_g zdk_474 (r := 23) (k := 0) rfl rfl rfl
theorem zd_474_96 : decode prog_2_method_17_code 96 = .ok (.iload_n 1, 1) := zsh_g zdk_474 (r := 24) (k := 0) rfl rfl rfl
theorem zd_474_97 : decode prog_2_method_17_code 97 = .ok (.invokestatic 345, 3) := zsh_g zdk_474 (r := 24) (k := 1) rfl rfl rfl
theorem zd_474_100 : decode prog_2_method_17_code 100 = .ok (.ifCond .eq 22, 3) := zsh_g zdk_474 (r := 25) (k := 0) rfl rfl rfl
theorem zd_474_103 : decode prog_2_method_17_code 103 = .ok (.iload 6, 2) := zsh_g zdk_474 (r := 25) (k := 1) rfl rfl rfl
theorem zd_474_105 : decode prog_2_method_17_code 105 = .ok (.bipush 31, 2) := zsh_g zdk_474 (r := 26) (k := 0) rfl rfl rfl
theorem zd_474_107 : decode prog_2_method_17_code 107 = .ok (.if_icmp .eq 19, 3) := zsh_g zdk_474 (r := 26) (k := 1) rfl rfl rfl
theorem zd_474_110 : decode prog_2_method_17_code 110 = .ok (.iload 4, 2) := zsh_g zdk_474 (r := 27) (k := 0) rfl rfl rfl
theorem zd_474_112 : decode prog_2_method_17_code 112 = .ok (.iload 5, 2) := zsh_g zdk_474 (r := 28) (k := 0) rfl rfl rfl
theorem zd_474_114 : decode prog_2_method_17_code 114 = .ok (.bipush 31, 2) := zsh_g zdk_474 (r := 28) (k := 1) rfl rfl rfl
theorem zd_474_116 : decode prog_2_method_17_code 116 = .ok (.invokestatic 342, 3) := zsh_g zdk_474 (r := 29) (k := 0) rfl rfl rfl
theorem zd_474_119 : decode prog_2_method_17_code 119 = .ok (.ifCond .ne 7, 3) := zsh_g zdk_474 (r := 29) (k := 1) rfl rfl rfl
theorem zd_474_122 : decode prog_2_method_17_code 122 = .ok (.iconst 1, 1) := zsh_g zdk_474 (r := 30) (k := 0) rfl rfl rfl
theorem zd_474_123 : decode prog_2_method_17_code 123 = .ok (.goto 4, 3) := zsh_g zdk_474 (r := 30) (k := 1) rfl rfl rfl
theorem zd_474_126 : decode prog_2_method_17_code 126 = .ok (.iconst 0, 1) := zsh_g zdk_474 (r := 31) (k := 0) rfl rfl rfl
def zdl_475 : List (List (Nat × Instr × Nat)) := [[(0, (.aload_n 0), 1), (1, (.getfield 52), 3)], [(0, (.invokevirtual 348), 3), (3, (.istore_n 3), 1)], [(0, (.aload_n 0), 1), (1, (.getfield 52), 3)], [(0, (.invokevirtual 351), 3), (3, (.iconst 4), 1)], [(0, (.if_icmp .ne 23), 3), (3, (.aload_n 0), 1)], [(0, (.getfield 15), 3), (3, (.iload_n 3), 1)], [(0, .iaload, 1), (1, (.iconst (-1)), 1), (2, (.if_icmp .ne 13), 3)], [(1, (.aload_n 0), 1), (2, (.getfield 52), 3)], [(1, (.iconst 4), 1), (2, (.invokevirtual 213), 3)], [(1, (.iconst (-1)), 1), (3, (.aload_n 0), 1)], [(0, (.getfield 65), 3), (3, (.aload_n 0), 1)], [(0, (.getfield 196), 3), (3, (.iload_n 2), 1)], [(0, (.iload_n 1), 1), (1, (.aload_n 0), 1), (2, (.getfield 52), 3)], [(1, (.getfield 266), 3)], [(0, (.aload_n 0), 1), (1, (.getfield 45), 3)], [(0, (.getfield 113), 3), (3, (.invokevirtual 354), 3)], [(2, (.istore 4), 2)], [(0, (.iload 4), 2), (2, (.iconst (-1)), 1), (3, (.if_icmp .eq 11), 3)], [(2, (.iload 4), 2)], [(0, (.sipush 3000), 3), (3, (.if_icmp .lt 14), 3)], [(2, (.aload_n 0), 1), (3, (.getfield 52), 3)], [(2, (.bipush 6), 2)], [(0, (.invokevirtual 213), 3), (3, (.iconst (-1)), 1)], [(1, (.iload 4), 2), (3, (.bipush 6), 2)], [(1, .imul, 1), (2, (.istore 5), 2)], [(0, (.aload_n 0), 1), (1, (.getfield 52), 3)], [(0, (.invokevirtual 351), 3), (3, (.iconst 2), 1)], [(0, (.if_icmp .ne 46), 3), (3, (.aload_n 0), 1)], [(0, (.getfield 65), 3), (3, (.getfield 357), 3)], [(2, (.iconst 2), 1), (3, (.iload 4), 2)], [(1, .imul, 1), (2, (.aload_n 0), 1), (3, (.getfield 52), 3)], [(2, (.invokevirtual 361), 3)], [(1, .lastore, 1), (2, (.aload_n 0), 1), (3, (.getfield 65), 3)], [(2, (.getfield 357), 3)], [(1, (.iconst 2), 1), (2, (.iload 4), 2)], [(0, .imul, 1), (1, (.iconst 1), 1), (2, .iadd, 1), (3, (.aload_n 0), 1)], [(0, (.getfield 52), 3), (3, (.invokevirtual 364), 3)], [(2, .lastore, 1), (3, (.goto 91), 3)], [(2, (.aload_n 0), 1), (3, (.getfield 52), 3)], [(2, (.invokevirtual 351), 3)], [(1, (.iconst 5), 1), (2, (.if_icmp .ne 41), 3)], [(1, (.aload_n 0), 1), (2, (.getfield 65), 3)], [(1, (.getfield 234), 3)], [(0, (.iload 5), 2), (2, (.iconst 3), 1), (3, .iadd, 1)], [(0, (.bipush (-2)), 2), (2, .iastore, 1), (3, (.aload_n 0), 1)], [(0, (.getfield 21), 3), (3, (.iload 4), 2)], [(1, (.aload_n 0), 1), (2, (.getfield 11), 3)], [(1, (.iload_n 3), 1), (2, .iaload, 1), (3, .iastore, 1)], [(0, (.aload_n 0), 1), (1, (.getfield 11), 3)], [(0, (.iload_n 3), 1), (1, (.iload 4), 2), (3, .iastore, 1)], [(0, (.goto 42), 3), (3, (.aload_n 0), 1)], [(0, (.getfield 65), 3), (3, (.getfield 234), 3)], [(2, (.iload 5), 2)], [(0, (.iconst 3), 1), (1, .iadd, 1), (2, (.aload_n 0), 1), (3, (.getfield 15), 3)], [(2, (.iload_n 3), 1), (3, .iaload, 1)], [(0, .iastore, 1), (1, (.aload_n 0), 1), (2, (.getfield 65), 3)], [(1, (.getfield 234), 3)], [(0, (.iload 5), 2), (2, (.iconst 4), 1), (3, .iadd, 1)], [(0, .dup2, 1), (1, .iaload, 1), (2, (.aload_n 0), 1), (3, (.getfield 18), 3)], [(2, (.iload_n 3), 1), (3, .iaload, 1)], [(0, .iadd, 1), (1, .iastore, 1), (2, (.iload 4), 2)]]
theorem zdk_475 : zsh_all 8 zdl_475 prog_2_method_18_code.data.toList = true := by decide +kernel
theorem zd_475_0 : decode prog_2_method_18_code 0 = .ok (.aload_n 0, 1) := zsh_g zdk_475 (r := 0) (k := 0) rfl rfl rfl
theorem zd_475_1 : decode prog_2_method_18_code 1 = .ok (.getfield 52, 3) := zsh_g zdk_475 (r := 0) (k := 1) rfl rfl rfl
theorem zd_475_4 : decode prog_2_method_18_code 4 = .ok (.invokevirtual 348, 3) := zsh_g zdk_475 (r := 1) (k := 0) rfl rfl rfl
theorem zd_475_7 : decode prog_2_method_18_code 7 = .ok (.istore_n 3, 1) := zsh_g zdk_475 (r := 1) (k := 1) rfl rfl rfl
theorem zd_475_8 : decode prog_2_method_18_code 8 = .ok (.aload_n 0, 1) := zsh_g zdk_475 (r := 2) (k := 0) rfl rfl rfl
theorem zd_475_9 : decode prog_2_method_18_code 9 = .ok (.getfield 52, 3) := zsh_g zdk_475 (r := 2) (k := 1) rfl rfl rfl
theorem zd_475_12 : decode prog_2_method_18_code 12 = .ok (.invokevirtual 351, 3) := zsh_g zdk_475 (r := 3) (k := 0) rfl rfl rfl
theorem zd_475_15 : decode prog_2_method_18_code 15 = .ok (.iconst 4, 1) := zsh_g zdk_475 (r := 3) (k := 1) rfl rfl rfl
theorem zd_475_16 : decode prog_2_method_18_code 16 = .ok (.if_icmp .ne 23, 3) := zsh_g zdk_475 (r := 4) (k := 0) rfl rfl rfl
theorem zd_475_19 : decode prog_2_method_18_code 19 = .ok (.aload_n 0, 1) := zsh_g zdk_475 (r := 4) (k := 1) rfl rfl rfl
theorem zd_475_20 : decode prog_2_method_18_code 20 = .ok (.getfield 15, 3) := zsh_g zdk_475 (r := 5) (k := 0) rfl rfl rfl
theorem zd_475_23 : decode prog_2_method_18_code 23 = .ok (.iload_n 3, 1) := zsh_g zdk_475 (r := 5) (k := 1) rfl rfl rfl
theorem zd_475_24 : decode prog_2_method_18_code 24 = .ok (.iaload, 1) := zsh_g zdk_475 (r := 6) (k := 0) rfl rfl rfl
theorem zd_475_25 : decode prog_2_method_18_code 25 = .ok (.iconst (-1), 1) := zsh_g zdk_475 (r := 6) (k := 1) rfl rfl rfl
theorem zd_475_26 : decode prog_2_method_18_code 26 = .ok (.if_icmp .ne 13, 3) := zsh_g zdk_475 (r := 6) (k := 2) rfl rfl rfl
theorem zd_475_29 : decode prog_2_method_18_code 29 = .ok (.aload_n 0, 1) := zsh_g zdk_475 (r := 7) (k := 0) rfl rfl rfl
theorem zd_475_30 : decode prog_2_method_18_code 30 = .ok (.getfield 52, 3) := zsh_g zdk_475 (r := 7) (k := 1) rfl rfl rfl
theorem zd_475_33 : decode prog_2_method_18_code 33 = .ok (.iconst 4, 1) := zsh_g zdk_475 (r := 8) (k := 0) rfl rfl rfl
theorem zd_475_34 : decode prog_2_method_18_code 34 = .ok (.invokevirtual 213, 3) := zsh_g zdk_475 (r := 8) (k := 1) rfl rfl rfl
theorem zd_475_37 : decode prog_2_method_18_code 37 = .ok (.iconst (-1), 1) := zsh_g zdk_475 (r := 9) (k := 0) rfl rfl rfl
theorem zd_475_39 : decode prog_2_method_18_code 39 = .ok (.aload_n 0, 1) := zsh_g zdk_475 (r := 9) (k := 1) rfl rfl rfl
theorem zd_475_40 : decode prog_2_method_18_code 40 = .ok (.getfield 65, 3) := zsh_g zdk_475 (r := 10) (k := 0) rfl rfl rfl
theorem zd_475_43 : decode prog_2_method_18_code 43 = .ok (.aload_n 0, 1) := zsh_g zdk_475 (r := 10) (k := 1) rfl rfl rfl
theorem zd_475_44 : decode prog_2_method_18_code 44 = .ok (.getfield 196, 3) := zsh_g zdk_475 (r := 11) (k := 0) rfl rfl rfl
theorem zd_475_47 : decode prog_2_method_18_code 47 = .ok (.iload_n 2, 1) := zsh_g zdk_475 (r := 11) (k := 1) rfl rfl rfl
theorem zd_475_48 : decode prog_2_method_18_code 48 = .ok (.iload_n 1, 1) := zsh_g zdk_475 (r := 12) (k := 0) rfl rfl rfl
theorem zd_475_49 : decode prog_2_method_18_code 49 = .ok (.aload_n 0, 1) := zsh_g zdk_475 (r := 12) (k := 1) rfl rfl rfl
theorem zd_475_50 : decode prog_2_method_18_code 50 = .ok (.getfield 52, 3) := zsh_g zdk_475 (r := 12) (k := 2) rfl rfl rfl
theorem zd_475_53 : decode prog_2_method_18_code 53 = .ok (.getfield 266, 3) := zsh_g zdk_475 (r := 13) (k := 0) rfl rfl rfl
theorem zd_475_56 : decode prog_2_method_18_code 56 = .ok (.aload_n 0, 1) := zsh_g zdk_475 (r := 14) (k := 0) rfl rfl rfl
theorem zd_475_57 : decode prog_2_method_18_code 57 = .ok (.getfield 45, 3) := zsh_g zdk_475 (r := 14) (k := 1) rfl rfl rfl
theorem zd_475_60 : decode prog_2_method_18_code 60 = .ok (.getfield 113, 3) := zsh_g zdk_475 (r := 15) (k := 0) rfl rfl rfl
theorem zd_475_63 : decode prog_2_method_18_code 63 = .ok (.invokevirtual 354, 3) := zsh_g zdk_475 (r := 15) (k := 1) rfl rfl rfl
theorem zd_475_66 : decode prog_2_method_18_code 66 = .ok (.istore 4, 2) := zsh_g zdk_475 (r := 16) (k := 0) rfl rfl rfl
theorem zd_475_68 : decode prog_2_method_18_code 68 = .ok (.iload 4, 2) := zsh_g zdk_475 (r := 17) (k := 0) rfl rfl rfl
theorem zd_475_70 : decode prog_2_method_18_code 70 = .ok (.iconst (-1), 1) := zsh_g zdk_475 (r := 17) (k := 1) rfl rfl rfl
theorem zd_475_71 : decode prog_2_method_18_code 71 = .ok (.if_icmp .eq 11, 3) := zsh_g zdk_475 (r := 17) (k := 2) rfl rfl rfl
theorem zd_475_74 : decode prog_2_method_18_code 74 = .ok (.iload 4, 2) := zsh_g zdk_475 (r := 18) (k := 0) rfl rfl rfl
theorem zd_475_76 : decode prog_2_method_18_code 76 = .ok (.sipush 3000, 3) := zsh_g zdk_475 (r := 19) (k := 0) rfl rfl rfl
theorem zd_475_79 : decode prog_2_method_18_code 79 = .ok (.if_icmp .lt 14, 3) := zsh_g zdk_475 (r := 19) (k := 1) rfl rfl rfl
theorem zd_475_82 : decode prog_2_method_18_code 82 = .ok (.aload_n 0, 1) := zsh_g zdk_475 (r := 20) (k := 0) rfl rfl rfl
theorem zd_475_83 : decode prog_2_method_18_code 83 = .ok (.getfield 52, 3) := zsh_g zdk_475 (r := 20) (k := 1) rfl rfl rfl
theorem zd_475_86 : decode prog_2_method_18_code 86 = .ok (.bipush 6, 2) := zsh_g zdk_475 (r := 21) (k := 0) rfl rfl rfl
theorem zd_475_88 : decode prog_2_method_18_code 88 = .ok (.invokevirtual 213, 3) := zsh_g zdk_475 (r := 22) (k := 0) rfl rfl rfl
theorem zd_475_91 : decode prog_2_method_18_code 91 = .ok (.iconst (-1), 1) := zsh_g zdk_475 (r := 22) (k := 1) rfl rfl rfl
theorem zd_475_93 : decode prog_2_method_18_code 93 = .ok (.iload 4, 2) := zsh_g zdk_475 (r := 23) (k := 0) rfl rfl rfl
theorem zd_475_95 : decode prog_2_method_18_code 95 = .ok (.bipush 6, 2) := zsh_g zdk_475 (r := 23) (k := 1) rfl rfl rfl
theorem zd_475_97 : decode prog_2_method_18_code 97 = .ok (.imul, 1) := zsh_g zdk_475 (r := 24) (k := 0) rfl rfl rfl
theorem zd_475_98 : decode prog_2_method_18_code 98 = .ok (.istore 5, 2) := zsh_g zdk_475 (r := 24) (k := 1) rfl rfl rfl
theorem zd_475_100 : decode prog_2_method_18_code 100 = .ok (.aload_n 0, 1) := zsh_g zdk_475 (r := 25) (k := 0) rfl rfl rfl
theorem zd_475_101 : decode prog_2_method_18_code 101 = .ok (.getfield 52, 3) := zsh_g zdk_475 (r := 25) (k := 1) rfl rfl rfl
theorem zd_475_104 : decode prog_2_method_18_code 104 = .ok (.invokevirtual 351, 3) := zsh_g zdk_475 (r := 26) (k := 0) rfl rfl rfl
theorem zd_475_107 : decode prog_2_method_18_code 107 = .ok (.iconst 2, 1) := zsh_g zdk_475 (r := 26) (k := 1) rfl rfl rfl
theorem zd_475_108 : decode prog_2_method_18_code 108 = .ok (.if_icmp .ne 46, 3) := zsh_g zdk_475 (r := 27) (k := 0) rfl rfl rfl
theorem zd_475_111 : decode prog_2_method_18_code 111 = .ok (.aload_n 0, 1) := zsh_g zdk_475 (r := 27) (k := 1) rfl rfl rfl
theorem zd_475_112 : decode prog_2_method_18_code 112 = .ok (.getfield 65, 3) := zsh_g zdk_475 (r := 28) (k := 0) rfl rfl rfl
theorem zd_475_115 : decode prog_2_method_18_code 115 = .ok (.getfield 357, 3) := zsh_g zdk_475 (r := 28) (k := 1) rfl rfl rfl
theorem zd_475_118 : decode prog_2_method_18_code 118 = .ok (.iconst 2, 1) := zsh_g zdk_475 (r := 29) (k := 0) rfl rfl rfl
theorem zd_475_119 : decode prog_2_method_18_code 119 = .ok (.iload 4, 2) := zsh_g zdk_475 (r := 29) (k := 1) rfl rfl rfl
theorem zd_475_121 : decode prog_2_method_18_code 121 = .ok (.imul, 1) := zsh_g zdk_475 (r := 30) (k := 0) rfl rfl rfl
theorem zd_475_122 : decode prog_2_method_18_code 122 = .ok (.aload_n 0, 1) := zsh_g zdk_475 (r := 30) (k := 1) rfl rfl rfl
theorem zd_475_123 : decode prog_2_method_18_code 123 = .ok (.getfield 52, 3) := zsh_g zdk_475 (r := 30) (k := 2) rfl rfl rfl
theorem zd_475_126 : decode prog_2_method_18_code 126 = .ok (.invokevirtual 361, 3) := zsh_g zdk_475 (r := 31) (k := 0) rfl rfl rfl
theorem zd_475_129 : decode prog_2_method_18_code 129 = .ok (.lastore, 1) := zsh_g zdk_475 (r := 32) (k := 0) rfl rfl rfl
theorem zd_475_130 : decode prog_2_method_18_code 130 = .ok (.aload_n 0, 1) := zsh_g zdk_475 (r := 32) (k := 1) rfl rfl rfl
theorem zd_475_131 : decode prog_2_method_18_code 131 = .ok (.getfield 65, 3) := zsh_g zdk_475 (r := 32) (k := 2) rfl rfl rfl
theorem zd_475_134 : decode prog_2_method_18_code 134 = .ok (.getfield 357, 3) := zsh_g zdk_475 (r := 33) (k := 0) rfl rfl rfl
theorem zd_475_137 : decode prog_2_method_18_code 137 = .ok (.iconst 2, 1) := zsh_g zdk_475 (r := 34) (k := 0) rfl rfl rfl
theorem zd_475_138 : decode prog_2_method_18_code 138 = .ok (.iload 4, 2) := zsh_g zdk_475 (r := 34) (k := 1) rfl rfl rfl
theorem zd_475_140 : decode prog_2_method_18_code 140 = .ok (.imul, 1) := zsh_g zdk_475 (r := 35) (k := 0) rfl rfl rfl
theorem zd_475_141 : decode prog_2_method_18_code 141 = .ok (.iconst 1, 1) := zsh_g zdk_475 (r := 35) (k := 1) rfl rfl rfl
theorem zd_475_142 : decode prog_2_method_18_code 142 = .ok (.iadd, 1) := zsh_g zdk_475 (r := 35) (k := 2) rfl rfl rfl
theorem zd_475_143 : decode prog_2_method_18_code 143 = .ok (.aload_n 0, 1) := zsh_g zdk_475 (r := 35) (k := 3) rfl rfl rfl
theorem zd_475_144 : decode prog_2_method_18_code 144 = .ok (.getfield 52, 3) := zsh_g zdk_475 (r := 36) (k := 0) rfl rfl rfl
theorem zd_475_147 : decode prog_2_method_18_code 147 = .ok (.invokevirtual 364, 3) := zsh_g zdk_475 (r := 36) (k := 1) rfl rfl rfl
theorem zd_475_150 : decode prog_2_method_18_code 150 = .ok (.lastore, 1) := zsh_g zdk_475 (r := 37) (k := 0) rfl rfl rfl
theorem zd_475_151 : decode prog_2_method_18_code 151 = .ok (.goto 91, 3) := zsh_g zdk_475 (r := 37) (k := 1) rfl rfl rfl
theorem zd_475_154 : decode prog_2_method_18_code 154 = .ok (.aload_n 0, 1) := zsh_g zdk_475 (r := 38) (k := 0) rfl rfl rfl
theorem zd_475_155 : decode prog_2_method_18_code 155 = .ok (.getfield 52, 3) := zsh_g zdk_475 (r := 38) (k := 1) rfl rfl rfl
theorem zd_475_158 : decode prog_2_method_18_code 158 = .ok (.invokevirtual 351, 3) := zsh_g zdk_475 (r := 39) (k := 0) rfl rfl rfl
theorem zd_475_161 : decode prog_2_method_18_code 161 = .ok (.iconst 5, 1) := zsh_g zdk_475 (r := 40) (k := 0) rfl rfl rfl
theorem zd_475_162 : decode prog_2_method_18_code 162 = .ok (.if_icmp .ne 41, 3) := zsh_g zdk_475 (r := 40) (k := 1) rfl rfl rfl
theorem zd_475_165 : decode prog_2_method_18_code 165 = .ok (.aload_n 0, 1) := zsh_g zdk_475 (r := 41) (k := 0) rfl rfl rfl
theorem zd_475_166 : decode prog_2_method_18_code 166 = .ok (.getfield 65, 3) := zsh_g zdk_475 (r := 41) (k := 1) rfl rfl rfl
theorem zd_475_169 : decode prog_2_method_18_code 169 = .ok (.getfield 234, 3) := zsh_g zdk_475 (r := 42) (k := 0) rfl rfl rfl
theorem zd_475_172 : decode prog_2_method_18_code 172 = .ok (.iload 5, 2) := zsh_g zdk_475 (r := 43) (k := 0) rfl rfl rfl
theorem zd_475_174 : decode prog_2_method_18_code 174 = .ok (.iconst 3, 1) := zsh_g zdk_475 (r := 43) (k := 1) rfl rfl rfl
theorem zd_475_175 : decode prog_2_method_18_code 175 = .ok (.iadd, 1) := zsh_g zdk_475 (r := 43) (k := 2) rfl rfl rfl
theorem zd_475_176 : decode prog_2_method_18_code 176 = .ok (.bipush (-2), 2) := zsh_g zdk_475 (r := 44) (k := 0) rfl rfl rfl
theorem zd_475_178 : decode prog_2_method_18_code 178 = .ok (.iastore, 1) := zsh_g zdk_475 (r := 44) (k := 1) rfl rfl rfl
theorem zd_475_179 : decode prog_2_method_18_code 179 = .ok (.aload_n 0, 1) := zsh_g zdk_475 (r := 44) (k := 2) rfl rfl rfl
theorem zd_475_180 : decode prog_2_method_18_code 180 = .ok (.getfield 21, 3) := zsh_g zdk_475 (r := 45) (k := 0) rfl rfl rfl
theorem zd_475_183 : decode prog_2_method_18_code 183 = .ok (.iload 4, 2) := zsh_g zdk_475 (r := 45) (k := 1) rfl rfl rfl
theorem zd_475_185 : decode prog_2_method_18_code 185 = .ok (.aload_n 0, 1) := zsh_g zdk_475 (r := 46) (k := 0) rfl rfl rfl
theorem zd_475_186 : decode prog_2_method_18_code 186 = .ok (.getfield 11, 3) := zsh_g zdk_475 (r := 46) (k := 1) rfl rfl rfl
theorem zd_475_189 : decode prog_2_method_18_code 189 = .ok (.iload_n 3, 1) := zsh_g zdk_475 (r := 47) (k := 0) rfl rfl rfl
theorem zd_475_190 : decode prog_2_method_18_code 190 = .ok (.iaload, 1) := zsh_g zdk_475 (r := 47) (k := 1) rfl rfl rfl
theorem zd_475_191 : decode prog_2_method_18_code 191 = .ok (.iastore, 1) := zsh_g zdk_475 (r := 47) (k := 2) rfl rfl rfl
theorem zd_475_192 : decode prog_2_method_18_code 192 = .ok (.aload_n 0, 1) := zsh_g zdk_475 (r := 48) (k := 0) rfl rfl rfl
theorem zd_475_193 : decode prog_2_method_18_code 193 = .ok (.getfield 11, 3) := zsh_g zdk_475 (r := 48) (k := 1) rfl rfl rfl
theorem zd_475_196 : decode prog_2_method_18_code 196 = .ok (.iload_n 3, 1) := zsh_g zdk_475 (r := 49) (k := 0) rfl rfl rfl
theorem zd_475_197 : decode prog_2_method_18_code 197 = .ok (.iload 4, 2) := zsh_g zdk_475 (r := 49) (k := 1) rfl rfl rfl
theorem zd_475_199 : decode prog_2_method_18_code 199 = .ok (.iastore, 1) := zsh_g zdk_475 (r := 49) (k := 2) rfl rfl rfl
theorem zd_475_200 : decode prog_2_method_18_code 200 = .ok (.goto 42, 3) := zsh_g zdk_475 (r := 50) (k := 0) rfl rfl rfl
theorem zd_475_203 : decode prog_2_method_18_code 203 = .ok (.aload_n 0, 1) := zsh_g zdk_475 (r := 50) (k := 1) rfl rfl rfl
theorem zd_475_204 : decode prog_2_method_18_code 204 = .ok (.getfield 65, 3) := zsh_g zdk_475 (r := 51) (k := 0) rfl rfl rfl
theorem zd_475_207 : decode prog_2_method_18_code 207 = .ok (.getfield 234, 3) := zsh_g zdk_475 (r := 51) (k := 1) rfl rfl rfl
theorem zd_475_210 : decode prog_2_method_18_code 210 = .ok (.iload 5, 2) := zsh_g zdk_475 (r := 52) (k := 0) rfl rfl rfl
theorem zd_475_212 : decode prog_2_method_18_code 212 = .ok (.iconst 3, 1) := zsh_g zdk_475 (r := 53) (k := 0) rfl rfl rfl
theorem zd_475_213 : decode prog_2_method_18_code 213 = .ok (.iadd, 1) := zsh_g zdk_475 (r := 53) (k := 1) rfl rfl rfl
theorem zd_475_214 : decode prog_2_method_18_code 214 = .ok (.aload_n 0, 1) := zsh_g zdk_475 (r := 53) (k := 2) rfl rfl rfl
theorem zd_475_215 : decode prog_2_method_18_code 215 = .ok (.getfield 15, 3) := zsh_g zdk_475 (r := 53) (k := 3) rfl rfl rfl
theorem zd_475_218 : decode prog_2_method_18_code 218 = .ok (.iload_n 3, 1) := zsh_g zdk_475 (r := 54) (k := 0) rfl rfl rfl
theorem zd_475_219 : decode prog_2_method_18_code 219 = .ok (.iaload, 1) := zsh_g zdk_475 (r := 54) (k := 1) rfl rfl rfl
theorem zd_475_220 : decode prog_2_method_18_code 220 = .ok (.iastore, 1) := zsh_g zdk_475 (r := 55) (k := 0) rfl rfl rfl
theorem zd_475_221 : decode prog_2_method_18_code 221 = .ok (.aload_n 0, 1) := zsh_g zdk_475 (r := 55) (k := 1) rfl rfl rfl
theorem zd_475_222 : decode prog_2_method_18_code 222 = .ok (.getfield 65, 3) := zsh_g zdk_475 (r := 55) (k := 2) rfl rfl rfl
theorem zd_475_225 : decode prog_2_method_18_code 225 = .ok (.getfield 234, 3) := zsh_g zdk_475 (r := 56) (k := 0) rfl rfl rfl
theorem zd_475_228 : decode prog_2_method_18_code 228 = .ok (.iload 5, 2) := zsh_g zdk_475 (r := 57) (k := 0) rfl rfl rfl
theorem zd_475_230 : decode prog_2_method_18_code 230 = .ok (.iconst 4, 1) := zsh_g zdk_475 (r := 57) (k := 1) rfl rfl rfl
theorem zd_475_231 : decode prog_2_method_18_code 231 = .ok (.iadd, 1) := zsh_g zdk_475 (r := 57) (k := 2) rfl rfl rfl
theorem zd_475_232 : decode prog_2_method_18_code 232 = .ok (.dup2, 1) := zsh_g zdk_475 (r := 58) (k := 0) rfl rfl rfl
theorem zd_475_233 : decode prog_2_method_18_code 233 = .ok (.iaload, 1) := zsh_g zdk_475 (r := 58) (k := 1) rfl rfl rfl
theorem zd_475_234 : decode prog_2_method_18_code 234 = .ok (.aload_n 0, 1) := zsh_g zdk_475 (r := 58) (k := 2) rfl rfl rfl
theorem zd_475_235 : decode prog_2_method_18_code 235 = .ok (.getfield 18, 3) := zsh_g zdk_475 (r := 58) (k := 3) rfl rfl rfl
theorem zd_475_238 : decode prog_2_method_18_code 238 = .ok (.iload_n 3, 1) := zsh_g zdk_475 (r := 59) (k := 0) rfl rfl rfl
theorem zd_475_239 : decode prog_2_method_18_code 239 = .ok (.iaload, 1) := zsh_g zdk_475 (r := 59) (k := 1) rfl rfl rfl
theorem zd_475_240 : decode prog_2_method_18_code 240 = .ok (.iadd, 1) := zsh_g zdk_475 (r := 60) (k := 0) rfl rfl rfl
theorem zd_475_241 : decode prog_2_method_18_code 241 = .ok (.iastore, 1) := zsh_g zdk_475 (r := 60) (k := 1) rfl rfl rfl
theorem zd_475_242 : decode prog_2_method_18_code 242 = .ok (.iload 4, 2) := zsh_g zdk_475 (r := 60) (k := 2) rfl rfl rfl
def zdl_476 : List (List (Nat × Instr × Nat)) := [[(0, (.iload_n 2), 1), (1, (.ifCond .lt 17), 3)], [(0, (.aload_n 0), 1), (1, (.getfield 45), 3)], [(0, (.iload_n 2), 1), (1, .iadd, 1), (2, (.aload_n 0), 1), (3, (.getfield 41), 3)], [(2, .arraylength, 1), (3, (.if_icmp .le 5), 3)], [(2, (.iconst 0), 1)], [(0, (.iload_n 1), 1), (1, (.bipush 6), 2), (3, .imul, 1)], [(0, (.istore_n 3), 1), (1, (.aload_n 0), 1), (2, (.getfield 19), 3)], [(1, (.iload_n 3), 1), (2, (.iconst 3), 1), (3, .iadd, 1)], [(0, .iaload, 1), (1, (.aload_n 0), 1), (2, (.getfield 19), 3)], [(1, (.iload_n 3), 1), (2, (.iconst 1), 1), (3, .iadd, 1)], [(0, .iaload, 1), (1, .iadd, 1), (2, (.istore 4), 2)], [(0, (.aload_n 0), 1), (1, (.getfield 45), 3)], [(0, (.iconst 1), 1), (1, .isub, 1), (2, (.istore 5), 2)], [(0, (.iload 5), 2), (2, (.iload 4), 2)], [(0, (.if_icmp .lt 25), 3), (3, (.aload_n 0), 1)], [(0, (.getfield 41), 3), (3, (.iload 5), 2)], [(1, (.iload_n 2), 1), (2, .iadd, 1), (3, (.aload_n 0), 1)], [(0, (.getfield 41), 3), (3, (.iload 5), 2)], [(1, .baload, 1), (2, .bastore, 1), (3, (.iinc 5 (-1)), 3)], [(2, (.goto (-26)), 3)], [(1, (.aload_n 0), 1), (2, (.getfield 41), 3)], [(1, (.iload 4), 2), (3, (.iload 4), 2)], [(1, (.iload_n 2), 1), (2, .iadd, 1), (3, (.iconst 0), 1)], [(0, (.invokestatic 65), 3), (3, (.iload_n 1), 1)], [(0, (.iconst 1), 1), (1, .iadd, 1), (2, (.istore 5), 2)], [(0, (.iload 5), 2), (2, (.aload_n 0), 1), (3, (.getfield 49), 3)], [(2, (.if_icmp .ge 25), 3)], [(1, (.aload_n 0), 1), (2, (.getfield 19), 3)], [(1, (.iload 5), 2), (3, (.bipush 6), 2)], [(1, .imul, 1), (2, (.iconst 3), 1), (3, .iadd, 1)], [(0, .dup2, 1), (1, .iaload, 1), (2, (.iload_n 2), 1), (3, .iadd, 1)], [(0, .iastore, 1), (1, (.iinc 5 1), 3)], [(0, (.goto (-28)), 3), (3, (.aload_n 0), 1)], [(0, (.getfield 19), 3), (3, (.iload_n 3), 1)], [(0, (.iconst 1), 1), (1, .iadd, 1), (2, .dup2, 1), (3, .iaload, 1)], [(0, (.iload_n 2), 1), (1, .iadd, 1), (2, .iastore, 1), (3, (.aload_n 0), 1)], [(0, .dup, 1), (1, (.getfield 45), 3)], [(0, (.iload_n 2), 1), (1, .iadd, 1), (2, (.putfield 45), 3)], [(1, (.iconst 1), 1)]]
theorem zdk_476 : zsh_all 8 zdl_476 prog_12_method_9_code.data.toList = true := by decide +kernel
theorem zd_476_0 : decode prog_12_method_9_code 0 = .ok (.iload_n 2, 1) := zsh_g zdk_476 (r := 0) (k := 0) rfl rfl rfl
theorem zd_476_1 : decode prog_12_method_9_code 1 = .ok (.ifCond .lt 17, 3) := zsh_g zdk_476 (r := 0) (k := 1) rfl rfl rfl
theorem zd_476_4 : decode prog_12_method_9_code 4 = .ok (.aload_n 0, 1) := zsh_g zdk_476 (r := 1) (k := 0) rfl rfl rfl
theorem zd_476_5 : decode prog_12_method_9_code 5 = .ok (.getfield 45, 3) := zsh_g zdk_476 (r := 1) (k := 1) rfl rfl rfl
theorem zd_476_8 : decode prog_12_method_9_code 8 = .ok (.iload_n 2, 1) := zsh_g zdk_476 (r := 2) (k := 0) rfl rfl rfl
theorem zd_476_9 : decode prog_12_method_9_code 9 = .ok (.iadd, 1) := zsh_g zdk_476 (r := 2) (k := 1) rfl rfl rfl
theorem zd_476_10 : decode prog_12_method_9_code 10 = .ok (.aload_n 0, 1) := zsh_g zdk_476 (r := 2) (k := 2) rfl rfl rfl
theorem zd_476_11 : decode prog_12_method_9_code 11 = .ok (.getfield 41, 3) := zsh_g zdk_476 (r := 2) (k := 3) rfl rfl rfl
theorem zd_476_14 : decode prog_12_method_9_code 14 = .ok (.arraylength, 1) := zsh_g zdk_476 (r := 3) (k := 0) rfl rfl rfl
theorem zd_476_15 : decode prog_12_method_9_code 15 = .ok (.if_icmp .le 5, 3) := zsh_g zdk_476 (r := 3) (k := 1) rfl rfl rfl
theorem zd_476_18 : decode prog_12_method_9_code 18 = .ok (.iconst 0, 1) := zsh_g zdk_476 (r := 4) (k := 0) rfl rfl rfl
theorem zd_476_20 : decode prog_12_method_9_code 20 = .ok (.iload_n 1, 1) := zsh_g zdk_476 (r := 5) (k := 0) rfl rfl rfl
theorem zd_476_21 : decode prog_12_method_9_code 21 = .ok (.bipush 6, 2) := zsh_g zdk_476 (r := 5) (k := 1) rfl rfl rfl
theorem zd_476_23 : decode prog_12_method_9_code 23 = .ok (.imul, 1) := zsh_g zdk_476 (r := 5) (k := 2) rfl rfl rfl
theorem zd_476_24 : decode prog_12_method_9_code 24 = .ok (.istore_n 3, 1) := zsh_g zdk_476 (r := 6) (k := 0) rfl rfl rfl
theorem zd_476_25 : decode prog_12_method_9_code 25 = .ok (.aload_n 0, 1) := zsh_g zdk_476 (r := 6) (k := 1) rfl rfl rfl
theorem zd_476_26 : decode prog_12_method_9_code 26 = .ok (.getfield 19, 3) := zsh_g zdk_476 (r := 6) (k := 2) rfl rfl rfl
theorem zd_476_29 : decode prog_12_method_9_code 29 = .ok (.iload_n 3, 1) := zsh_g zdk_476 (r := 7) (k := 0) rfl rfl rfl
theorem zd_476_30 : decode prog_12_method_9_code 30 = .ok (.iconst 3, 1) := zsh_g zdk_476 (r := 7) (k := 1) rfl rfl rfl
theorem zd_476_31 : decode prog_12_method_9_code 31 = .ok (.iadd, 1) := zsh_g zdk_476 (r := 7) (k := 2) rfl rfl rfl
theorem zd_476_32 : decode prog_12_method_9_code 32 = .ok (.iaload, 1) := zsh_g zdk_476 (r := 8) (k := 0) rfl rfl rfl
theorem zd_476_33 : decode prog_12_method_9_code 33 = .ok (.aload_n 0, 1) := zsh_g zdk_476 (r := 8) (k := 1) rfl rfl rfl
theorem zd_476_34 : decode prog_12_method_9_code 34 = .ok (.getfield 19, 3) := zsh_g zdk_476 (r := 8) (k := 2) rfl rfl rfl
theorem zd_476_37 : decode prog_12_method_9_code 37 = .ok (.iload_n 3, 1) := zsh_g zdk_476 (r := 9) (k := 0) rfl rfl rfl
theorem zd_476_38 : decode prog_12_method_9_code 38 = .ok (.iconst 1, 1) := zsh_g zdk_476 (r := 9) (k := 1) rfl rfl rfl
theorem zd_476_39 : decode prog_12_method_9_code 39 = .ok (.iadd, 1) := zsh_g zdk_476 (r := 9) (k := 2) rfl rfl rfl
theorem zd_476_40 : decode prog_12_method_9_code 40 = .ok (.iaload, 1) := zsh_g zdk_476 (r := 10) (k := 0) rfl rfl rfl
theorem zd_476_41 : decode prog_12_method_9_code 41 = .ok (.iadd, 1) := zsh_g zdk_476 (r := 10) (k := 1) rfl rfl rfl
theorem zd_476_42 : decode prog_12_method_9_code 42 = .ok (.istore 4, 2) := zsh_g zdk_476 (r := 10) (k := 2) rfl rfl rfl
theorem zd_476_44 : decode prog_12_method_9_code 44 = .ok (.aload_n 0, 1) := zsh_g zdk_476 (r := 11) (k := 0) rfl rfl rfl
theorem zd_476_45 : decode prog_12_method_9_code 45 = .ok (.getfield 45, 3) := zsh_g zdk_476 (r := 11) (k := 1) rfl rfl rfl
theorem zd_476_48 : decode prog_12_method_9_code 48 = .ok (.iconst 1, 1) := zsh_g zdk_476 (r := 12) (k := 0) rfl rfl rfl
theorem zd_476_49 : decode prog_12_method_9_code 49 = .ok (.isub, 1) := zsh_g zdk_476 (r := 12) (k := 1) rfl rfl rfl
theorem zd_476_50 : decode prog_12_method_9_code 50 = .ok (.istore 5, 2) := zsh_g zdk_476 (r := 12) (k := 2) rfl rfl rfl
theorem zd_476_52 : decode prog_12_method_9_code 52 = .ok (.iload 5, 2) := zsh_g zdk_476 (r := 13) (k := 0) rfl rfl rfl
theorem zd_476_54 : decode prog_12_method_9_code 54 = .ok (.iload 4, 2) := zsh_g zdk_476 (r := 13) (k := 1) rfl rfl rfl
theorem zd_476_56 : decode prog_12_method_9_code 56 = .ok (.if_icmp .lt 25, 3) := zsh_g zdk_476 (r := 14) (k := 0) rfl rfl rfl
theorem zd_476_59 : decode prog_12_method_9_code 59 = .ok (.aload_n 0, 1) := zsh_g zdk_476 (r := 14) (k := 1) rfl rfl rfl
theorem zd_476_60 : decode prog_12_method_9_code 60 = .ok (.getfield 41, 3) := zsh_g zdk_476 (r := 15) (k := 0) rfl rfl rfl
theorem zd_476_63 : decode prog_12_method_9_code 63 = .ok (.iload 5, 2) := zsh_g zdk_476 (r := 15) (k := 1) rfl rfl rfl
theorem zd_476_65 : decode prog_12_method_9_code 65 = .ok (.iload_n 2, 1) := zsh_g zdk_476 (r := 16) (k := 0) rfl rfl rfl
theorem zd_476_66 : decode prog_12_method_9_code 66 = .ok (.iadd, 1) := zsh_g zdk_476 (r := 16) (k := 1) rfl rfl rfl
theorem zd_476_67 : decode prog_12_method_9_code 67 = .ok (.aload_n 0, 1) := zsh_g zdk_476 (r := 16) (k := 2) rfl rfl rfl
theorem zd_476_68 : decode prog_12_method_9_code 68 = .ok (.getfield 41, 3) := zsh_g zdk_476 (r := 17) (k := 0) rfl rfl rfl
theorem zd_476_71 : decode prog_12_method_9_code 71 = .ok (.iload 5, 2) := zsh_g zdk_476 (r := 17) (k := 1) rfl rfl rfl
theorem zd_476_73 : decode prog_12_method_9_code 73 = .ok (.baload, 1) := zsh_g zdk_476 (r := 18) (k := 0) rfl rfl rfl
theorem zd_476_74 : decode prog_12_method_9_code 74 = .ok (.bastore, 1) := zsh_g zdk_476 (r := 18) (k := 1) rfl rfl rfl
theorem zd_476_75 : decode prog_12_method_9_code 75 = .ok (.iinc 5 (-1), 3) := zsh_g zdk_476 (r := 18) (k := 2) rfl rfl rfl
theorem zd_476_78 : decode prog_12_method_9_code 78 = .ok (.goto (-26), 3) := zsh_g zdk_476 (r := 19) (k := 0) rfl rfl rfl
theorem zd_476_81 : decode prog_12_method_9_code 81 = .ok (.aload_n 0, 1) := zsh_g zdk_476 (r := 20) (k := 0) rfl rfl rfl
theorem zd_476_82 : decode prog_12_method_9_code 82 = .ok (.getfield 41, 3) := zsh_g zdk_476 (r := 20) (k := 1) rfl rfl rfl
theorem zd_476_85 : decode prog_12_method_9_code 85 = .ok (.iload 4, 2) := zsh_g zdk_476 (r := 21) (k := 0) rfl rfl rfl
theorem zd_476_87 : decode prog_12_method_9_code 87 = .ok (.iload 4, 2) := zsh_g zdk_476 (r := 21) (k := 1) rfl rfl rfl
theorem zd_476_89 : decode prog_12_method_9_code 89 = .ok (.iload_n 2, 1) := zsh_g zdk_476 (r := 22) (k := 0) rfl rfl rfl
theorem zd_476_90 : decode prog_12_method_9_code 90 = .ok (.iadd, 1) := zsh_g zdk_476 (r := 22) (k := 1) rfl rfl rfl
theorem zd_476_91 : decode prog_12_method_9_code 91 = .ok (.iconst 0, 1) := zsh_g zdk_476 (r := 22) (k := 2) rfl rfl rfl
theorem zd_476_92 : decode prog_12_method_9_code 92 = .ok (.invokestatic 65, 3) := zsh_g zdk_476 (r := 23) (k := 0) rfl rfl rfl
theorem zd_476_95 : decode prog_12_method_9_code 95 = .ok (.iload_n 1, 1) := zsh_g zdk_476 (r := 23) (k := 1) rfl rfl rfl
theorem zd_476_96 : decode prog_12_method_9_code 96 = .ok (.iconst 1, 1) := zsh_g zdk_476 (r := 24) (k := 0) rfl rfl rfl
theorem zd_476_97 : decode prog_12_method_9_code 97 = .ok (.iadd, 1) := zsh_g zdk_476 (r := 24) (k := 1) rfl rfl rfl
theorem zd_476_98 : decode prog_12_method_9_code 98 = .ok (.istore 5, 2) := zsh_g zdk_476 (r := 24) (k := 2) rfl rfl rfl
theorem zd_476_100 : decode prog_12_method_9_code 100 = .ok (.iload 5, 2) := zsh_g zdk_476 (r := 25) (k := 0) rfl rfl rfl
theorem zd_476_102 : decode prog_12_method_9_code 102 = .ok (.aload_n 0, 1) := zsh_g zdk_476 (r := 25) (k := 1) rfl rfl rfl
theorem zd_476_103 : decode prog_12_method_9_code 103 = .ok (.getfield 49, 3) := zsh_g zdk_476 (r := 25) (k := 2) rfl rfl rfl
theorem zd_476_106 : decode prog_12_method_9_code 106 = .ok (.if_icmp .ge 25, 3) := zsh_g zdk_476 (r := 26) (k := 0) rfl rfl rfl
theorem zd_476_109 : decode prog_12_method_9_code 109 = .ok (.aload_n 0, 1) := zsh_g zdk_476 (r := 27) (k := 0) rfl rfl rfl
theorem zd_476_110 : decode prog_12_method_9_code 110 = .ok (.getfield 19, 3) := zsh_g zdk_476 (r := 27) (k := 1) rfl rfl rfl
theorem zd_476_113 : decode prog_12_method_9_code 113 = .ok (.iload 5, 2) := zsh_g zdk_476 (r := 28) (k := 0) rfl rfl rfl
theorem zd_476_115 : decode prog_12_method_9_code 115 = .ok (.bipush 6, 2) := zsh_g zdk_476 (r := 28) (k := 1) rfl rfl rfl
theorem zd_476_117 : decode prog_12_method_9_code 117 = .ok (.imul, 1) := zsh_g zdk_476 (r := 29) (k := 0) rfl rfl rfl
theorem zd_476_118 : decode prog_12_method_9_code 118 = .ok (.iconst 3, 1) := zsh_g zdk_476 (r := 29) (k := 1) rfl rfl rfl
theorem zd_476_119 : decode prog_12_method_9_code 119 = .ok (.iadd, 1) := zsh_g zdk_476 (r := 29) (k := 2) rfl rfl rfl
theorem zd_476_120 : decode prog_12_method_9_code 120 = .ok (.dup2, 1) := zsh_g zdk_476 (r := 30) (k := 0) rfl rfl rfl
theorem zd_476_121 : decode prog_12_method_9_code 121 = .ok (.iaload, 1) := zsh_g zdk_476 (r := 30) (k := 1) rfl rfl rfl
theorem zd_476_122 : decode prog_12_method_9_code 122 = .ok (.iload_n 2, 1) := zsh_g zdk_476 (r := 30) (k := 2) rfl rfl rfl
theorem zd_476_123 : decode prog_12_method_9_code 123 = .ok (.iadd, 1) := zsh_g zdk_476 (r := 30) (k := 3) rfl rfl rfl
theorem zd_476_124 : decode prog_12_method_9_code 124 = .ok (.iastore, 1) := zsh_g zdk_476 (r := 31) (k := 0) rfl rfl rfl
theorem zd_476_125 : decode prog_12_method_9_code 125 = .ok (.iinc 5 1, 3) := zsh_g zdk_476 (r := 31) (k := 1) rfl rfl rfl
theorem zd_476_128 : decode prog_12_method_9_code 128 = .ok (.goto (-28), 3) := zsh_g zdk_476 (r := 32) (k := 0) rfl rfl rfl
theorem zd_476_131 : decode prog_12_method_9_code 131 = .ok (.aload_n 0, 1) := zsh_g zdk_476 (r := 32) (k := 1) rfl rfl rfl
theorem zd_476_132 : decode prog_12_method_9_code 132 = .ok (.getfield 19, 3) := zsh_g zdk_476 (r := 33) (k := 0) rfl rfl rfl
theorem zd_476_135 : decode prog_12_method_9_code 135 = .ok (.iload_n 3, 1) := zsh_g zdk_476 (r := 33) (k := 1) rfl rfl rfl
theorem zd_476_136 : decode prog_12_method_9_code 136 = .ok (.iconst 1, 1) := zsh_g zdk_476 (r := 34) (k := 0) rfl rfl rfl
theorem zd_476_137 : decode prog_12_method_9_code 137 = .ok (.iadd, 1) := zsh_g zdk_476 (r := 34) (k := 1) rfl rfl rfl
theorem zd_476_138 : decode prog_12_method_9_code 138 = .ok (.dup2, 1) := zsh_g zdk_476 (r := 34) (k := 2) rfl rfl rfl
theorem zd_476_139 : decode prog_12_method_9_code 139 = .ok (.iaload, 1) := zsh_g zdk_476 (r := 34) (k := 3) rfl rfl rfl
theorem zd_476_140 : decode prog_12_method_9_code 140 = .ok (.iload_n 2, 1) := zsh_g zdk_476 (r := 35) (k := 0) rfl rfl rfl
theorem zd_476_141 : decode prog_12_method_9_code 141 = .ok (.iadd, 1) := zsh_g zdk_476 (r := 35) (k := 1) rfl rfl rfl
theorem zd_476_142 : decode prog_12_method_9_code 142 = .ok (.iastore, 1) := zsh_g zdk_476 (r := 35) (k := 2) rfl rfl rfl
theorem zd_476_143 : decode prog_12_method_9_code 143 = .ok (.aload_n 0, 1) := zsh_g zdk_476 (r := 35) (k := 3) rfl rfl rfl
theorem zd_476_144 : decode prog_12_method_9_code 144 = .ok (.dup, 1) := zsh_g zdk_476 (r := 36) (k := 0) rfl rfl rfl
theorem zd_476_145 : decode prog_12_method_9_code 145 = .ok (.getfield 45, 3) := zsh_g zdk_476 (r := 36) (k := 1) rfl rfl rfl
theorem zd_476_148 : decode prog_12_method_9_code 148 = .ok (.iload_n 2, 1) := zsh_g zdk_476 (r := 37) (k := 0) rfl rfl rfl
theorem zd_476_149 : decode prog_12_method_9_code 149 = .ok (.iadd, 1) := zsh_g zdk_476 (r := 37) (k := 1) rfl rfl rfl
theorem zd_476_150 : decode prog_12_method_9_code 150 = .ok (.putfield 45, 3) := zsh_g zdk_476 (r := 37) (k := 2) rfl rfl rfl
theorem zd_476_153 : decode prog_12_method_9_code 153 = .ok (.iconst 1, 1) := zsh_g zdk_476 (r := 38) (k := 0) rfl rfl rfl
def zdl_477 : List (List (Nat × Instr × Nat)) := [[(0, (.aload_n 0), 1), (1, (.getfield 19), 3)], [(0, (.iload_n 1), 1), (1, (.bipush 6), 2), (3, .imul, 1)], [(0, (.iconst 3), 1), (1, .iadd, 1), (2, .iaload, 1), (3, (.iload_n 2), 1)], [(0, .iadd, 1), (1, (.istore_n 3), 1), (2, (.iconst 0), 1), (3, (.istore 4), 2)], [(1, (.iconst 0), 1), (2, (.istore 5), 2)], [(0, (.iload 5), 2), (2, (.iconst 4), 1), (3, (.if_icmp .ge 48), 3)], [(2, (.iload_n 3), 1), (3, (.ifCond .lt 44), 3)], [(2, (.iload_n 3), 1), (3, (.iload 5), 2)], [(1, .iadd, 1), (2, (.aload_n 0), 1), (3, (.getfield 45), 3)], [(2, (.if_icmp .ge 33), 3)], [(1, (.iload 4), 2), (3, (.aload_n 0), 1)], [(0, (.getfield 41), 3), (3, (.iload_n 3), 1)], [(0, (.iload 5), 2), (2, .iadd, 1), (3, .baload, 1)], [(0, (.sipush 255), 3), (3, .iand, 1)], [(0, (.bipush 8), 2), (2, (.iload 5), 2)], [(0, .imul, 1), (1, .ishl, 1), (2, .ior, 1), (3, (.istore 4), 2)], [(1, (.iinc 5 1), 3)], [(0, (.goto (-48)), 3), (3, (.iload 4), 2)]]
theorem zdk_477 : zsh_all 8 zdl_477 prog_12_method_11_code.data.toList = true := by decide +kernel
theorem zd_477_0 : decode prog_12_method_11_code 0 = .ok (.aload_n 0, 1) := zsh_g zdk_477 (r := 0) (k := 0) rfl rfl rfl
theorem zd_477_1 : decode prog_12_method_11_code 1 = .ok (.getfield 19, 3) := zsh_g zdk_477 (r := 0) (k := 1) rfl rfl rfl
theorem zd_477_4 : decode prog_12_method_11_code 4 = .ok (.iload_n 1, 1) := zsh_g zdk_477 (r := 1) (k := 0) rfl rfl rfl
theorem zd_477_5 : decode prog_12_method_11_code 5 = .ok (.bipush 6, 2) := zsh_g zdk_477 (r := 1) (k := 1) rfl rfl rfl
theorem zd_477_7 : decode prog_12_method_11_code 7 = .ok (.imul, 1) := zsh_g zdk_477 (r := 1) (k := 2) rfl rfl rfl
theorem zd_477_8 : decode prog_12_method_11_code 8 = .ok (.iconst 3, 1) := zsh_g zdk_477 (r := 2) (k := 0) rfl rfl rfl
theorem zd_477_9 : decode prog_12_method_11_code 9 = .ok (.iadd, 1) := zsh_g zdk_477 (r := 2) (k := 1) rfl rfl rfl
theorem zd_477_10 : decode prog_12_method_11_code 10 = .ok (.iaload, 1) := zsh_g zdk_477 (r := 2) (k := 2) rfl rfl rfl
theorem zd_477_11 : decode prog_12_method_11_code 11 = .ok (.iload_n 2, 1) := zsh_g zdk_477 (r := 2) (k := 3) rfl rfl rfl
theorem zd_477_12 : decode prog_12_method_11_code 12 = .ok (.iadd, 1) := zsh_g zdk_477 (r := 3) (k := 0) rfl rfl rfl
theorem zd_477_13 : decode prog_12_method_11_code 13 = .ok (.istore_n 3, 1) := zsh_g zdk_477 (r := 3) (k := 1) rfl rfl rfl
theorem zd_477_14 : decode prog_12_method_11_code 14 = .ok (.iconst 0, 1) := zsh_g zdk_477 (r := 3) (k := 2) rfl rfl rfl
theorem zd_477_15 : decode prog_12_method_11_code 15 = .ok (.istore 4, 2) := zsh_g zdk_477 (r := 3) (k := 3) rfl rfl rfl
theorem zd_477_17 : decode prog_12_method_11_code 17 = .ok (.iconst 0, 1) := zsh_g zdk_477 (r := 4) (k := 0) rfl rfl rfl
theorem zd_477_18 : decode prog_12_method_11_code 18 = .ok (.istore 5, 2) := zsh_g zdk_477 (r := 4) (k := 1) rfl rfl rfl
theorem zd_477_20 : decode prog_12_method_11_code 20 = .ok (.iload 5, 2) := zsh_g zdk_477 (r := 5) (k := 0) rfl rfl rfl
theorem zd_477_22 : decode prog_12_method_11_code 22 = .ok (.iconst 4, 1) := zsh_g zdk_477 (r := 5) (k := 1) rfl rfl rfl
theorem zd_477_23 : decode prog_12_method_11_code 23 = .ok (.if_icmp .ge 48, 3) := zsh_g zdk_477 (r := 5) (k := 2) rfl rfl rfl
theorem zd_477_26 : decode prog_12_method_11_code 26 = .ok (.iload_n 3, 1) := zsh_g zdk_477 (r := 6) (k := 0) rfl rfl rfl
theorem zd_477_27 : decode prog_12_method_11_code 27 = .ok (.ifCond .lt 44, 3) := zsh_g zdk_477 (r := 6) (k := 1) rfl rfl rfl
theorem zd_477_30 : decode prog_12_method_11_code 30 = .ok (.iload_n 3, 1) := zsh_g zdk_477 (r := 7) (k := 0) rfl rfl rfl
theorem zd_477_31 : decode prog_12_method_11_code 31 = .ok (.iload 5, 2) := zsh_g zdk_477 (r := 7) (k := 1) rfl rfl rfl
theorem zd_477_33 : decode prog_12_method_11_code 33 = .ok (.iadd, 1) := zsh_g zdk_477 (r := 8) (k := 0) rfl rfl rfl
theorem zd_477_34 : decode prog_12_method_11_code 34 = .ok (.aload_n 0, 1) := zsh_g zdk_477 (r := 8) (k := 1) rfl rfl rfl
theorem zd_477_35 : decode prog_12_method_11_code 35 = .ok (.getfield 45, 3) := zsh_g zdk_477 (r := 8) (k := 2) rfl rfl rfl
theorem zd_477_38 : decode prog_12_method_11_code 38 = .ok (.if_icmp .ge 33, 3) := zsh_g zdk_477 (r := 9) (k := 0) rfl rfl rfl
theorem zd_477_41 : decode prog_12_method_11_code 41 = .ok (.iload 4, 2) := zsh_g zdk_477 (r := 10) (k := 0) rfl rfl rfl
theorem zd_477_43 : decode prog_12_method_11_code 43 = .ok (.aload_n 0, 1) := zsh_g zdk_477 (r := 10) (k := 1) rfl rfl rfl
theorem zd_477_44 : decode prog_12_method_11_code 44 = .ok (.getfield 41, 3) := zsh_g zdk_477 (r := 11) (k := 0) rfl rfl rfl
theorem zd_477_47 : decode prog_12_method_11_code 47 = .ok (.iload_n 3, 1) := zsh_g zdk_477 (r := 11) (k := 1) rfl rfl rfl
theorem zd_477_48 : decode prog_12_method_11_code 48 = .ok (.iload 5, 2) := zsh_g zdk_477 (r := 12) (k := 0) rfl rfl rfl
theorem zd_477_50 : decode prog_12_method_11_code 50 = .ok (.iadd, 1) := zsh_g zdk_477 (r := 12) (k := 1) rfl rfl rfl
theorem zd_477_51 : decode prog_12_method_11_code 51 = .ok (.baload, 1) := zsh_g zdk_477 (r := 12) (k := 2) rfl rfl rfl
theorem zd_477_52 : decode prog_12_method_11_code 52 = .ok (.sipush 255, 3) := zsh_g zdk_477 (r := 13) (k := 0) rfl rfl rfl
theorem zd_477_55 : decode prog_12_method_11_code 55 = .ok (.iand, 1) := zsh_g zdk_477 (r := 13) (k := 1) rfl rfl rfl
theorem zd_477_56 : decode prog_12_method_11_code 56 = .ok (.bipush 8, 2) := zsh_g zdk_477 (r := 14) (k := 0) rfl rfl rfl
theorem zd_477_58 : decode prog_12_method_11_code 58 = .ok (.iload 5, 2) := zsh_g zdk_477 (r := 14) (k := 1) rfl rfl rfl
theorem zd_477_60 : decode prog_12_method_11_code 60 = .ok (.imul, 1) := zsh_g zdk_477 (r := 15) (k := 0) rfl rfl rfl
theorem zd_477_61 : decode prog_12_method_11_code 61 = .ok (.ishl, 1) := zsh_g zdk_477 (r := 15) (k := 1) rfl rfl rfl
theorem zd_477_62 : decode prog_12_method_11_code 62 = .ok (.ior, 1) := zsh_g zdk_477 (r := 15) (k := 2) rfl rfl rfl
theorem zd_477_63 : decode prog_12_method_11_code 63 = .ok (.istore 4, 2) := zsh_g zdk_477 (r := 15) (k := 3) rfl rfl rfl
theorem zd_477_65 : decode prog_12_method_11_code 65 = .ok (.iinc 5 1, 3) := zsh_g zdk_477 (r := 16) (k := 0) rfl rfl rfl
theorem zd_477_68 : decode prog_12_method_11_code 68 = .ok (.goto (-48), 3) := zsh_g zdk_477 (r := 17) (k := 0) rfl rfl rfl
theorem zd_477_71 : decode prog_12_method_11_code 71 = .ok (.iload 4, 2) := zsh_g zdk_477 (r := 17) (k := 1) rfl rfl rfl
def zdl_478 : List (List (Nat × Instr × Nat)) := [[(0, (.iconst 0), 1), (1, (.istore_n 2), 1), (2, (.iload_n 2), 1), (3, (.bipush 8), 2)], [(1, (.if_icmp .ge 28), 3)], [(0, (.lload_n 0), 1), (1, (.bipush 8), 2), (3, (.iload_n 2), 1)], [(0, .imul, 1), (1, .lushr, 1), (2, (.ldc2_w 451), 3)], [(1, .land, 1), (2, (.ldc2_w 453), 3)], [(1, .lcmp, 1), (2, (.ifCond .ne 5), 3)], [(1, (.iconst 1), 1), (3, (.iinc 2 1), 3)], [(2, (.goto (-28)), 3)], [(1, (.iconst 0), 1)]]
theorem zdk_478 : zsh_all 8 zdl_478 prog_2_method_35_code.data.toList = true := by decide +kernel
theorem zd_478_0 : decode prog_2_method_35_code 0 = .ok (.iconst 0, 1) := zsh_g zdk_478 (r := 0) (k := 0) rfl rfl rfl
theorem zd_478_1 : decode prog_2_method_35_code 1 = .ok (.istore_n 2, 1) := zsh_g zdk_478 (r := 0) (k := 1) rfl rfl rfl
theorem zd_478_2 : decode prog_2_method_35_code 2 = .ok (.iload_n 2, 1) := zsh_g zdk_478 (r := 0) (k := 2) rfl rfl rfl
theorem zd_478_3 : decode prog_2_method_35_code 3 = .ok (.bipush 8, 2) := zsh_g zdk_478 (r := 0) (k := 3) rfl rfl rfl
theorem zd_478_5 : decode prog_2_method_35_code 5 = .ok (.if_icmp .ge 28, 3) := zsh_g zdk_478 (r := 1) (k := 0) rfl rfl rfl
theorem zd_478_8 : decode prog_2_method_35_code 8 = .ok (.lload_n 0, 1) := zsh_g zdk_478 (r := 2) (k := 0) rfl rfl rfl
theorem zd_478_9 : decode prog_2_method_35_code 9 = .ok (.bipush 8, 2) := zsh_g zdk_478 (r := 2) (k := 1) rfl rfl rfl
theorem zd_478_11 : decode prog_2_method_35_code 11 = .ok (.iload_n 2, 1) := zsh_g zdk_478 (r := 2) (k := 2) rfl rfl rfl
theorem zd_478_12 : decode prog_2_method_35_code 12 = .ok (.imul, 1) := zsh_g zdk_478 (r := 3) (k := 0) rfl rfl rfl
theorem zd_478_13 : decode prog_2_method_35_code 13 = .ok (.lushr, 1) := zsh_g zdk_478 (r := 3) (k := 1) rfl rfl rfl
theorem zd_478_14 : decode prog_2_method_35_code 14 = .ok (.ldc2_w 451, 3) := zsh_g zdk_478 (r := 3) (k := 2) rfl rfl rfl
theorem zd_478_17 : decode prog_2_method_35_code 17 = .ok (.land, 1) := zsh_g zdk_478 (r := 4) (k := 0) rfl rfl rfl
theorem zd_478_18 : decode prog_2_method_35_code 18 = .ok (.ldc2_w 453, 3) := zsh_g zdk_478 (r := 4) (k := 1) rfl rfl rfl
theorem zd_478_21 : decode prog_2_method_35_code 21 = .ok (.lcmp, 1) := zsh_g zdk_478 (r := 5) (k := 0) rfl rfl rfl
theorem zd_478_22 : decode prog_2_method_35_code 22 = .ok (.ifCond .ne 5, 3) := zsh_g zdk_478 (r := 5) (k := 1) rfl rfl rfl
theorem zd_478_25 : decode prog_2_method_35_code 25 = .ok (.iconst 1, 1) := zsh_g zdk_478 (r := 6) (k := 0) rfl rfl rfl
theorem zd_478_27 : decode prog_2_method_35_code 27 = .ok (.iinc 2 1, 3) := zsh_g zdk_478 (r := 6) (k := 1) rfl rfl rfl
theorem zd_478_30 : decode prog_2_method_35_code 30 = .ok (.goto (-28), 3) := zsh_g zdk_478 (r := 7) (k := 0) rfl rfl rfl
theorem zd_478_33 : decode prog_2_method_35_code 33 = .ok (.iconst 0, 1) := zsh_g zdk_478 (r := 8) (k := 0) rfl rfl rfl
def zdl_479 : List (List (Nat × Instr × Nat)) := [[(0, (.iload_n 1), 1), (1, (.ifCond .lt 8), 3)], [(0, (.iload_n 1), 1), (1, (.iconst 4), 1), (2, (.if_icmp .lt 5), 3)], [(1, (.iconst 0), 1), (3, (.aload_n 0), 1)], [(0, (.getfield 58), 3), (3, (.bipush 10), 2)], [(1, .imul, 1), (2, (.istore 6), 2)], [(0, (.iconst 1), 1), (1, (.istore 7), 2), (3, (.iload 7), 2)], [(1, (.iload_n 1), 1), (2, (.if_icmp .gt 48), 3)], [(1, (.aload_n 0), 1), (2, (.getfield 22), 3)], [(1, (.iload 6), 2), (3, (.iconst 2), 1)], [(0, (.iload 7), 2), (2, .imul, 1), (3, .iadd, 1)], [(0, .laload, 1), (1, (.lload_n 2), 1), (2, .lcmp, 1), (3, (.ifCond .ne 25), 3)], [(2, (.aload_n 0), 1), (3, (.getfield 22), 3)], [(2, (.iload 6), 2)], [(0, (.iconst 2), 1), (1, (.iload 7), 2), (3, .imul, 1)], [(0, .iadd, 1), (1, (.iconst 1), 1), (2, .iadd, 1), (3, .laload, 1)], [(0, (.lload 4), 2), (2, .lcmp, 1), (3, (.ifCond .ne 5), 3)], [(2, (.iconst 0), 1)], [(0, (.iinc 7 1), 3), (3, (.goto (-48)), 3)], [(2, (.aload_n 0), 1), (3, (.getfield 22), 3)], [(2, (.iload 6), 2)], [(0, (.iconst 2), 1), (1, .iadd, 1), (2, (.iconst 2), 1), (3, (.iload_n 1), 1)], [(0, .imul, 1), (1, .iadd, 1), (2, (.lload_n 2), 1), (3, .lastore, 1)], [(0, (.aload_n 0), 1), (1, (.getfield 22), 3)], [(0, (.iload 6), 2), (2, (.iconst 3), 1), (3, .iadd, 1)], [(0, (.iconst 2), 1), (1, (.iload_n 1), 1), (2, .imul, 1), (3, .iadd, 1)], [(0, (.lload 4), 2), (2, .lastore, 1), (3, (.iconst 1), 1)]]
theorem zdk_479 : zsh_all 8 zdl_479 prog_5_method_13_code.data.toList = true := by decide +kernel
theorem zd_479_0 : decode prog_5_method_13_code 0 = .ok (.iload_n 1, 1) := zsh_g zdk_479 (r := 0) (k := 0) rfl rfl rfl
theorem zd_479_1 : decode prog_5_method_13_code 1 = .ok (.ifCond .lt 8, 3) := zsh_g zdk_479 (r := 0) (k := 1) rfl rfl rfl
theorem zd_479_4 : decode prog_5_method_13_code 4 = .ok (.iload_n 1, 1) := zsh_g zdk_479 (r := 1) (k := 0) rfl rfl rfl
theorem zd_479_5 : decode prog_5_method_13_code 5 = .ok (.iconst 4, 1) := zsh_g zdk_479 (r := 1) (k := 1) rfl rfl rfl
theorem zd_479_6 : decode prog_5_method_13_code 6 = .ok (.if_icmp .lt 5, 3) := zsh_g zdk_479 (r := 1) (k := 2) rfl rfl rfl
theorem zd_479_9 : decode prog_5_method_13_code 9 = .ok (.iconst 0, 1) := zsh_g zdk_479 (r := 2) (k := 0) rfl rfl rfl
theorem zd_479_11 : decode prog_5_method_13_code 11 = .ok (.aload_n 0, 1) := zsh_g zdk_479 (r := 2) (k := 1) rfl rfl rfl
theorem zd_479_12 : decode prog_5_method_13_code 12 = .ok (.getfield 58, 3) := zsh_g zdk_479 (r := 3) (k := 0) rfl rfl rfl
theorem zd_479_15 : decode prog_5_method_13_code 15 = .ok (.bipush 10, 2) := zsh_g zdk_479 (r := 3) (k := 1) rfl rfl rfl
theorem zd_479_17 : decode prog_5_method_13_code 17 = .ok (.imul, 1) := zsh_g zdk_479 (r := 4) (k := 0) rfl rfl rfl
theorem zd_479_18 : decode prog_5_method_13_code 18 = .ok (.istore 6, 2) := zsh_g zdk_479 (r := 4) (k := 1) rfl rfl rfl
theorem zd_479_20 : decode prog_5_method_13_code 20 = .ok (.iconst 1, 1) := zsh_g zdk_479 (r := 5) (k := 0) rfl rfl rfl
theorem zd_479_21 : decode prog_5_method_13_code 21 = .ok (.istore 7, 2) := zsh_g zdk_479 (r := 5) (k := 1) rfl rfl rfl
theorem zd_479_23 : decode prog_5_method_13_code 23 = .ok (.iload 7, 2) := zsh_g zdk_479 (r := 5) (k := 2) rfl rfl rfl
theorem zd_479_25 : decode prog_5_method_13_code 25 = .ok (.iload_n 1, 1) := zsh_g zdk_479 (r := 6) (k := 0) rfl rfl rfl
theorem zd_479_26 : decode prog_5_method_13_code 26 = .ok (.if_icmp .gt 48, 3) := zsh_g zdk_479 (r := 6) (k := 1) rfl rfl rfl
theorem zd_479_29 : decode prog_5_method_13_code 29 = .ok (.aload_n 0, 1) := zsh_g zdk_479 (r := 7) (k := 0) rfl rfl rfl
theorem zd_479_30 : decode prog_5_method_13_code 30 = .ok (.getfield 22, 3) := zsh_g zdk_479 (r := 7) (k := 1) rfl rfl rfl
theorem zd_479_33 : decode prog_5_method_13_code 33 = .ok (.iload 6, 2) := zsh_g zdk_479 (r := 8) (k := 0) rfl rfl rfl
theorem zd_479_35 : decode prog_5_method_13_code 35 = .ok (.iconst 2, 1) := zsh_g zdk_479 (r := 8) (k := 1) rfl rfl rfl
theorem zd_479_36 : decode prog_5_method_13_code 36 = .ok (.iload 7, 2) := zsh_g zdk_479 (r := 9) (k := 0) rfl rfl rfl
theorem zd_479_38 : decode prog_5_method_13_code 38 = .ok (.imul, 1) := zsh_g zdk_479 (r := 9) (k := 1) rfl rfl rfl
theorem zd_479_39 : decode prog_5_method_13_code 39 = .ok (.iadd, 1) := zsh_g zdk_479 (r := 9) (k := 2) rfl rfl rfl
theorem zd_479_40 : decode prog_5_method_13_code 40 = .ok (.laload, 1) := zsh_g zdk_479 (r := 10) (k := 0) rfl rfl rfl
theorem zd_479_41 : decode prog_5_method_13_code 41 = .ok (.lload_n 2, 1) := zsh_g zdk_479 (r := 10) (k := 1) rfl rfl rfl
theorem zd_479_42 : decode prog_5_method_13_code 42 = .ok (.lcmp, 1) := zsh_g zdk_479 (r := 10) (k := 2) rfl rfl rfl
theorem zd_479_43 : decode prog_5_method_13_code 43 = .ok (.ifCond .ne 25, 3) := zsh_g zdk_479 (r := 10) (k := 3) rfl rfl rfl
theorem zd_479_46 : decode prog_5_method_13_code 46 = .ok (.aload_n 0, 1) := zsh_g zdk_479 (r := 11) (k := 0) rfl rfl rfl
theorem zd_479_47 : decode prog_5_method_13_code 47 = .ok (.getfield 22, 3) := zsh_g zdk_479 (r := 11) (k := 1) rfl rfl rfl
theorem zd_479_50 : decode prog_5_method_13_code 50 = .ok (.iload 6, 2) := zsh_g zdk_479 (r := 12) (k := 0) rfl rfl rfl
theorem zd_479_52 : decode prog_5_method_13_code 52 = .ok (.iconst 2, 1) := zsh_g zdk_479 (r := 13) (k := 0) rfl rfl rfl
theorem zd_479_53 : decode prog_5_method_13_code 53 = .ok (.iload 7, 2) := zsh_g zdk_479 (r := 13) (k := 1) rfl rfl rfl
theorem zd_479_55 : decode prog_5_method_13_code 55 = .ok (.imul, 1) := zsh_g zdk_479 (r := 13) (k := 2) rfl rfl rfl
theorem zd_479_56 : decode prog_5_method_13_code 56 = .ok (.iadd, 1) := zsh_g zdk_479 (r := 14) (k := 0) rfl rfl rfl
theorem zd_479_57 : decode prog_5_method_13_code 57 = .ok (.iconst 1, 1) := zsh_g zdk_479 (r := 14) (k := 1) rfl rfl rfl
theorem zd_479_58 : decode prog_5_method_13_code 58 = .ok (.iadd, 1) := zsh_g zdk_479 (r := 14) (k := 2) rfl rfl rfl
theorem zd_479_59 : decode prog_5_method_13_code 59 = .ok (.laload, 1) := zsh_g zdk_479 (r := 14) (k := 3) rfl rfl rfl
theorem zd_479_60 : decode prog_5_method_13_code 60 = .ok (.lload 4, 2) := zsh_g zdk_479 (r := 15) (k := 0) rfl rfl rfl
theorem zd_479_62 : decode prog_5_method_13_code 62 = .ok (.lcmp, 1) := zsh_g zdk_479 (r := 15) (k := 1) rfl rfl rfl
theorem zd_479_63 : decode prog_5_method_13_code 63 = .ok (.ifCond .ne 5, 3) := zsh_g zdk_479 (r := 15) (k := 2) rfl rfl rfl
theorem zd_479_66 : decode prog_5_method_13_code 66 = .ok (.iconst 0, 1) := zsh_g zdk_479 (r := 16) (k := 0) rfl rfl rfl
theorem zd_479_68 : decode prog_5_method_13_code 68 = .ok (.iinc 7 1, 3) := zsh_g zdk_479 (r := 17) (k := 0) rfl rfl rfl
theorem zd_479_71 : decode prog_5_method_13_code 71 = .ok (.goto (-48), 3) := zsh_g zdk_479 (r := 17) (k := 1) rfl rfl rfl
theorem zd_479_74 : decode prog_5_method_13_code 74 = .ok (.aload_n 0, 1) := zsh_g zdk_479 (r := 18) (k := 0) rfl rfl rfl
theorem zd_479_75 : decode prog_5_method_13_code 75 = .ok (.getfield 22, 3) := zsh_g zdk_479 (r := 18) (k := 1) rfl rfl rfl
theorem zd_479_78 : decode prog_5_method_13_code 78 = .ok (.iload 6, 2) := zsh_g zdk_479 (r := 19) (k := 0) rfl rfl rfl
theorem zd_479_80 : decode prog_5_method_13_code 80 = .ok (.iconst 2, 1) := zsh_g zdk_479 (r := 20) (k := 0) rfl rfl rfl
theorem zd_479_81 : decode prog_5_method_13_code 81 = .ok (.iadd, 1) := zsh_g zdk_479 (r := 20) (k := 1) rfl rfl rfl
theorem zd_479_82 : decode prog_5_method_13_code 82 = .ok (.iconst 2, 1) := zsh_g zdk_479 (r := 20) (k := 2) rfl rfl rfl
theorem zd_479_83 : decode prog_5_method_13_code 83 = .ok (.iload_n 1, 1) := zsh_g zdk_479 (r := 20) (k := 3) rfl rfl rfl
theorem zd_479_84 : decode prog_5_method_13_code 84 = .ok (.imul, 1) := zsh_g zdk_479 (r := 21) (k := 0) rfl rfl rfl
theorem zd_479_85 : decode prog_5_method_13_code 85 = .ok (.iadd, 1) := zsh_g zdk_479 (r := 21) (k := 1) rfl rfl rfl
theorem zd_479_86 : decode prog_5_method_13_code 86 = .ok (.lload_n 2, 1) := zsh_g zdk_479 (r := 21) (k := 2) rfl rfl rfl
theorem zd_479_87 : decode prog_5_method_13_code 87 = .ok (.lastore, 1) := zsh_g zdk_479 (r := 21) (k := 3) rfl rfl rfl
theorem zd_479_88 : decode prog_5_method_13_code 88 = .ok (.aload_n 0, 1) := zsh_g zdk_479 (r := 22) (k := 0) rfl rfl rfl
theorem zd_479_89 : decode prog_5_method_13_code 89 = .ok (.getfield 22, 3) := zsh_g zdk_479 (r := 22) (k := 1) rfl rfl rfl
theorem zd_479_92 : decode prog_5_method_13_code 92 = .ok (.iload 6, 2) := zsh_g zdk_479 (r := 23) (k := 0) rfl rfl rfl
theorem zd_479_94 : decode prog_5_method_13_code 94 = .ok (.iconst 3, 1) := zsh_g zdk_479 (r := 23) (k := 1) rfl rfl rfl
theorem zd_479_95 : decode prog_5_method_13_code 95 = .ok (.iadd, 1) := zsh_g zdk_479 (r := 23) (k := 2) rfl rfl rfl
theorem zd_479_96 : decode prog_5_method_13_code 96 = .ok (.iconst 2, 1) := zsh_g zdk_479 (r := 24) (k := 0) rfl rfl rfl
theorem zd_479_97 : decode prog_5_method_13_code 97 = .ok (.iload_n 1, 1) := zsh_g zdk_479 (r := 24) (k := 1) rfl rfl rfl
theorem zd_479_98 : decode prog_5_method_13_code 98 = .ok (.imul, 1) := zsh_g zdk_479 (r := 24) (k := 2) rfl rfl rfl
theorem zd_479_99 : decode prog_5_method_13_code 99 = .ok (.iadd, 1) := zsh_g zdk_479 (r := 24) (k := 3) rfl rfl rfl
theorem zd_479_100 : decode prog_5_method_13_code 100 = .ok (.lload 4, 2) := zsh_g zdk_479 (r := 25) (k := 0) rfl rfl rfl
theorem zd_479_102 : decode prog_5_method_13_code 102 = .ok (.lastore, 1) := zsh_g zdk_479 (r := 25) (k := 1) rfl rfl rfl
theorem zd_479_103 : decode prog_5_method_13_code 103 = .ok (.iconst 1, 1) := zsh_g zdk_479 (r := 25) (k := 2) rfl rfl rfl
def zdl_480 : List (List (Nat × Instr × Nat)) := [[(0, (.aload_n 0), 1), (1, (.getfield 49), 3)], [(0, (.istore_n 2), 1), (1, (.iconst 1), 1), (2, (.istore_n 3), 1), (3, (.iconst 0), 1)], [(0, (.istore 4), 2), (2, (.iload 4), 2)], [(0, (.sipush 4000), 3), (3, (.if_icmp .gt 117), 3)], [(2, (.aload_n 0), 1), (3, (.getfield 67), 3)], [(2, (.bipush 8), 2)], [(0, .imul, 1), (1, (.istore 5), 2), (3, (.aload_n 0), 1)], [(0, (.getfield 15), 3), (3, (.iload 5), 2)], [(1, (.iconst 0), 1), (2, .iadd, 1), (3, .iaload, 1)], [(0, (.aload_n 0), 1), (1, (.getfield 15), 3)], [(0, (.iload 5), 2), (2, (.iconst 2), 1), (3, .iadd, 1)], [(0, .iaload, 1), (1, (.if_icmp .lt 10), 3)], [(0, (.aload_n 0), 1), (1, (.iload_n 2), 1), (2, (.putfield 49), 3)], [(1, (.iconst 5), 1), (3, (.aload_n 0), 1)], [(0, (.invokevirtual 74), 3), (3, (.ifCond .ne 6), 3)], [(2, (.bipush 6), 2)], [(1, (.aload_n 0), 1), (2, (.invokevirtual 98), 3)], [(1, (.istore 6), 2), (3, (.iload_n 1), 1)], [(0, (.ifCond .eq 12), 3), (3, (.iload 6), 2)], [(1, (.bipush 81), 2), (3, (.if_icmp .ne 5), 3)], [(2, (.iconst 5), 1)], [(0, (.iload 6), 2), (2, (.iload_n 1), 1), (3, (.ifCond .eq 8), 3)], [(2, (.bipush 82), 2)], [(0, (.goto 5), 3), (3, (.bipush 84), 2)], [(1, (.if_icmp .ne 9), 3)], [(0, (.iinc 3 (-1)), 3), (3, (.goto 17), 3)], [(2, (.iload_n 1), 1), (3, (.ifCond .ne 13), 3)], [(2, (.iload 6), 2)], [(0, (.bipush 83), 2), (2, (.if_icmp .ne 6), 3)], [(1, (.iinc 3 1), 3)], [(0, (.iload_n 3), 1), (1, (.ifCond .ne 5), 3)], [(0, (.iconst 0), 1), (2, (.iinc 4 1), 3)], [(1, (.goto (-119)), 3)], [(0, (.bipush 6), 2)]]
theorem zdk_480 : zsh_all 8 zdl_480 prog_5_method_16_code.data.toList = true := by decide +kernel
theorem zd_480_0 : decode prog_5_method_16_code 0 = .ok (.aload_n 0, 1) := zsh_g zdk_480 (r := 0) (k := 0) rfl rfl rfl
theorem zd_480_1 : decode prog_5_method_16_code 1 = .ok (.getfield 49, 3) := zsh_g zdk_480 (r := 0) (k := 1) rfl rfl rfl
theorem zd_480_4 : decode prog_5_method_16_code 4 = .ok (.istore_n 2, 1) := zsh_g zdk_480 (r := 1) (k := 0) rfl rfl rfl
theorem zd_480_5 : decode prog_5_method_16_code 5 = .ok (.iconst 1, 1) := zsh_g zdk_480 (r := 1) (k := 1) rfl rfl rfl
theorem zd_480_6 : decode prog_5_method_16_code 6 = .ok (.istore_n 3, 1) := zsh_g zdk_480 (r := 1) (k := 2) rfl rfl rfl
theorem zd_480_7 : decode prog_5_method_16_code 7 = .ok (.iconst 0, 1) := zsh_g zdk_480 (r := 1) (k := 3) rfl rfl rfl
theorem zd_480_8 : decode prog_5_method_16_code 8 = .ok (.istore 4, 2) := zsh_g zdk_480 (r := 2) (k := 0) rfl rfl rfl
theorem zd_480_10 : decode prog_5_method_16_code 10 = .ok (.iload 4, 2) := zsh_g zdk_480 (r := 2) (k := 1) rfl rfl rfl
theorem zd_480_12 : decode prog_5_method_16_code 12 = .ok (.sipush 4000, 3) := zsh_g zdk_480 (r := 3) (k := 0) rfl rfl rfl
theorem zd_480_15 : decode prog_5_method_16_code 15 = .ok (.if_icmp .gt 117, 3) := zsh_g zdk_480 (r := 3) (k := 1) rfl rfl rfl
theorem zd_480_18 : decode prog_5_method_16_code 18 = .ok (.aload_n 0, 1) := zsh_g zdk_480 (r := 4) (k := 0) rfl rfl rfl
theorem zd_480_19 : decode prog_5_method_16_code 19 = .ok (.getfield 67, 3) := zsh_g zdk_480 (r := 4) (k := 1) rfl rfl rfl
theorem zd_480_22 : decode prog_5_method_16_code 22 = .ok (.bipush 8, 2) := zsh_g zdk_480 (r := 5) (k := 0) rfl rfl rfl
theorem zd_480_24 : decode prog_5_method_16_code 24 = .ok (.imul, 1) := zsh_g zdk_480 (r := 6) (k := 0) rfl rfl rfl
theorem zd_480_25 : decode prog_5_method_16_code 25 = .ok (.istore 5, 2) := zsh_g zdk_480 (r := 6) (k := 1) rfl rfl rfl
theorem zd_480_27 : decode prog_5_method_16_code 27 = .ok (.aload_n 0, 1) := zsh_g zdk_480 (r := 6) (k := 2) rfl rfl rfl
theorem zd_480_28 : decode prog_5_method_16_code 28 = .ok (.getfield 15, 3) := zsh_g zdk_480 (r := 7) (k := 0) rfl rfl rfl
theorem zd_480_31 : decode prog_5_method_16_code 31 = .ok (.iload 5, 2) := zsh_g zdk_480 (r := 7) (k := 1) rfl rfl rfl
theorem zd_480_33 : decode prog_5_method_16_code 33 = .ok (.iconst 0, 1) := zsh_g zdk_480 (r := 8) (k := 0) rfl rfl rfl
theorem zd_480_34 : decode prog_5_method_16_code 34 = .ok (.iadd, 1) := zsh_g zdk_480 (r := 8) (k := 1) rfl rfl rfl
theorem zd_480_35 : decode prog_5_method_16_code 35 = .ok (.iaload, 1) := zsh_g zdk_480 (r := 8) (k := 2) rfl rfl rfl
theorem zd_480_36 : decode prog_5_method_16_code 36 = .ok (.aload_n 0, 1) := zsh_g zdk_480 (r := 9) (k := 0) rfl rfl rfl
theorem zd_480_37 : decode prog_5_method_16_code 37 = .ok (.getfield 15, 3) := zsh_g zdk_480 (r := 9) (k := 1) rfl rfl rfl
theorem zd_480_40 : decode prog_5_method_16_code 40 = .ok (.iload 5, 2) := zsh_g zdk_480 (r := 10) (k := 0) rfl rfl rfl
theorem zd_480_42 : decode prog_5_method_16_code 42 = .ok (.iconst 2, 1) := zsh_g zdk_480 (r := 10) (k := 1) rfl rfl rfl
theorem zd_480_43 : decode prog_5_method_16_code 43 = .ok (.iadd, 1) := zsh_g zdk_480 (r := 10) (k := 2) rfl rfl rfl
theorem zd_480_44 : decode prog_5_method_16_code 44 = .ok (.iaload, 1) := zsh_g zdk_480 (r := 11) (k := 0) rfl rfl rfl
theorem zd_480_45 : decode prog_5_method_16_code 45 = .ok (.if_icmp .lt 10, 3) := zsh_g zdk_480 (r := 11) (k := 1) rfl rfl rfl
theorem zd_480_48 : decode prog_5_method_16_code 48 = .ok (.aload_n 0, 1) := zsh_g zdk_480 (r := 12) (k := 0) rfl rfl rfl
theorem zd_480_49 : decode prog_5_method_16_code 49 = .ok (.iload_n 2, 1) := zsh_g zdk_480 (r := 12) (k := 1) rfl rfl rfl
theorem zd_480_50 : decode prog_5_method_16_code 50 = .ok (.putfield 49, 3) := zsh_g zdk_480 (r := 12) (k := 2) rfl rfl rfl
theorem zd_480_53 : decode prog_5_method_16_code 53 = .ok (.iconst 5, 1) := zsh_g zdk_480 (r := 13) (k := 0) rfl rfl rfl
theorem zd_480_55 : decode prog_5_method_16_code 55 = .ok (.aload_n 0, 1) := zsh_g zdk_480 (r := 13) (k := 1) rfl rfl rfl
theorem zd_480_56 : decode prog_5_method_16_code 56 = .ok (.invokevirtual 74, 3) := zsh_g zdk_480 (r := 14) (k := 0) rfl rfl rfl
theorem zd_480_59 : decode prog_5_method_16_code 59 = .ok (.ifCond .ne 6, 3) := zsh_g zdk_480 (r := 14) (k := 1) rfl rfl rfl
theorem zd_480_62 : decode prog_5_method_16_code 62 = .ok (.bipush 6, 2) := zsh_g zdk_480 (r := 15) (k := 0) rfl rfl rfl
theorem zd_480_65 : decode prog_5_method_16_code 65 = .ok (.aload_n 0, 1) := zsh_g zdk_480 (r := 16) (k := 0) rfl rfl rfl
theorem zd_480_66 : decode prog_5_method_16_code 66 = .ok (.invokevirtual 98, 3) := zsh_g zdk_480 (r := 16) (k := 1) rfl rfl rfl
theorem zd_480_69 : decode prog_5_method_16_code 69 = .ok (.istore 6, 2) := zsh_g zdk_480 (r := 17) (k := 0) rfl rfl rfl
theorem zd_480_71 : decode prog_5_method_16_code 71 = .ok (.iload_n 1, 1) := zsh_g zdk_480 (r := 17) (k := 1) rfl rfl rfl
theorem zd_480_72 : decode prog_5_method_16_code 72 = .ok (.ifCond .eq 12, 3) := zsh_g zdk_480 (r := 18) (k := 0) rfl rfl rfl
theorem zd_480_75 : decode prog_5_method_16_code 75 = .ok (.iload 6, 2) := zsh_g zdk_480 (r := 18) (k := 1) rfl rfl rfl
theorem zd_480_77 : decode prog_5_method_16_code 77 = .ok (.bipush 81, 2) := zsh_g zdk_480 (r := 19) (k := 0) rfl rfl rfl
theorem zd_480_79 : decode prog_5_method_16_code 79 = .ok (.if_icmp .ne 5, 3) := zsh_g zdk_480 (r := 19) (k := 1) rfl rfl rfl
theorem zd_480_82 : decode prog_5_method_16_code 82 = .ok (.iconst 5, 1) := zsh_g zdk_480 (r := 20) (k := 0) rfl rfl rfl
theorem zd_480_84 : decode prog_5_method_16_code 84 = .ok (.iload 6, 2) := zsh_g zdk_480 (r := 21) (k := 0) rfl rfl rfl
theorem zd_480_86 : decode prog_5_method_16_code 86 = .ok (.iload_n 1, 1) := zsh_g zdk_480 (r := 21) (k := 1) rfl rfl rfl
theorem zd_480_87 : decode prog_5_method_16_code 87 = .ok (.ifCond .eq 8, 3) := zsh_g zdk_480 (r := 21) (k := 2) rfl rfl rfl
theorem zd_480_90 : decode prog_5_method_16_code 90 = .ok (.bipush 82, 2) := zsh_g zdk_480 (r := 22) (k := 0) rfl rfl rfl
theorem zd_480_92 : decode prog_5_method_16_code 92 = .ok (.goto 5, 3) := zsh_g zdk_480 (r := 23) (k := 0) rfl rfl rfl
theorem zd_480_95 : decode prog_5_method_16_code 95 = .ok (.bipush 84, 2) := zsh_g zdk_480 (r := 23) (k := 1) rfl rfl rfl
theorem zd_480_97 : decode prog_5_method_16_code 97 = .ok (.if_icmp .ne 9, 3) := zsh_g zdk_480 (r := 24) (k := 0) rfl rfl rfl
theorem zd_480_100 : decode prog_5_method_16_code 100 = .ok (.iinc 3 (-1), 3) := zsh_g zdk_480 (r := 25) (k := 0) rfl rfl rfl
theorem zd_480_103 : decode prog_5_method_16_code 103 = .ok (.goto 17, 3) := zsh_g zdk_480 (r := 25) (k := 1) rfl rfl rfl
theorem zd_480_106 : decode prog_5_method_16_code 106 = .ok (.iload_n 1, 1) := zsh_g zdk_480 (r := 26) (k := 0) rfl rfl rfl
theorem zd_480_107 : decode prog_5_method_16_code 107 = .ok (.ifCond .ne 13, 3) := zsh_g zdk_480 (r := 26) (k := 1) rfl rfl rfl
theorem zd_480_110 : decode prog_5_method_16_code 110 = .ok (.iload 6, 2) := zsh_g zdk_480 (r := 27) (k := 0) rfl rfl rfl
theorem zd_480_112 : decode prog_5_method_16_code 112 = .ok (.bipush 83, 2) := zsh_g zdk_480 (r := 28) (k := 0) rfl rfl rfl
theorem zd_480_114 : decode prog_5_method_16_code 114 = .ok (.if_icmp .ne 6, 3) := zsh_g zdk_480 (r := 28) (k := 1) rfl rfl rfl
theorem zd_480_117 : decode prog_5_method_16_code 117 = .ok (.iinc 3 1, 3) := zsh_g zdk_480 (r := 29) (k := 0) rfl rfl rfl
theorem zd_480_120 : decode prog_5_method_16_code 120 = .ok (.iload_n 3, 1) := zsh_g zdk_480 (r := 30) (k := 0) rfl rfl rfl
theorem zd_480_121 : decode prog_5_method_16_code 121 = .ok (.ifCond .ne 5, 3) := zsh_g zdk_480 (r := 30) (k := 1) rfl rfl rfl
theorem zd_480_124 : decode prog_5_method_16_code 124 = .ok (.iconst 0, 1) := zsh_g zdk_480 (r := 31) (k := 0) rfl rfl rfl
theorem zd_480_126 : decode prog_5_method_16_code 126 = .ok (.iinc 4 1, 3) := zsh_g zdk_480 (r := 31) (k := 1) rfl rfl rfl
theorem zd_480_129 : decode prog_5_method_16_code 129 = .ok (.goto (-119), 3) := zsh_g zdk_480 (r := 32) (k := 0) rfl rfl rfl
theorem zd_480_132 : decode prog_5_method_16_code 132 = .ok (.bipush 6, 2) := zsh_g zdk_480 (r := 33) (k := 0) rfl rfl rfl
def zdl_481 : List (List (Nat × Instr × Nat)) := [[(0, (.aload_n 0), 1), (1, (.getfield 55), 3)], [(0, (.iconst 2), 1), (1, .imul, 1), (2, (.istore 7), 2)], [(0, (.iload 7), 2), (2, (.iconst 2), 1), (3, .iadd, 1)], [(0, (.aload_n 0), 1), (1, (.getfield 32), 3)], [(0, .arraylength, 1), (1, (.if_icmp .le 5), 3)], [(0, (.iconst 0), 1), (2, (.aload_n 0), 1), (3, (.getfield 29), 3)], [(2, (.iconst 2), 1), (3, (.aload_n 0), 1)], [(0, (.getfield 55), 3), (3, .imul, 1)], [(0, (.lload_n 1), 1), (1, .lastore, 1), (2, (.aload_n 0), 1), (3, (.getfield 29), 3)], [(2, (.iconst 2), 1), (3, (.aload_n 0), 1)], [(0, (.getfield 55), 3), (3, .imul, 1)], [(0, (.iconst 1), 1), (1, .iadd, 1), (2, (.lload_n 3), 1), (3, .lastore, 1)], [(0, (.aload_n 0), 1), (1, (.getfield 32), 3)], [(0, (.iload 7), 2), (2, (.iconst 0), 1), (3, .iadd, 1)], [(0, (.iload 5), 2), (2, .iastore, 1), (3, (.aload_n 0), 1)], [(0, (.getfield 32), 3), (3, (.iload 7), 2)], [(1, (.iconst 1), 1), (2, .iadd, 1), (3, (.iload 6), 2)], [(1, .iastore, 1), (2, (.aload_n 0), 1), (3, .dup, 1)], [(0, (.getfield 55), 3), (3, (.iconst 1), 1)], [(0, .iadd, 1), (1, (.putfield 55), 3)], [(0, (.iconst 1), 1)]]
theorem zdk_481 : zsh_all 8 zdl_481 prog_12_method_6_code.data.toList = true := by decide +kernel
theorem zd_481_0 : decode prog_12_method_6_code 0 = .ok (.aload_n 0, 1) := zsh_g zdk_481 (r := 0) (k := 0) rfl rfl rfl
theorem zd_481_1 : decode prog_12_method_6_code 1 = .ok (.getfield 55, 3) := zsh_g zdk_481 (r := 0) (k := 1) rfl rfl rfl
theorem zd_481_4 : decode prog_12_method_6_code 4 = .ok (.iconst 2, 1) := zsh_g zdk_481 (r := 1) (k := 0) rfl rfl rfl
theorem zd_481_5 : decode prog_12_method_6_code 5 = .ok (.imul, 1) := zsh_g zdk_481 (r := 1) (k := 1) rfl rfl rfl
theorem zd_481_6 : decode prog_12_method_6_code 6 = .ok (.istore 7, 2) := zsh_g zdk_481 (r := 1) (k := 2) rfl rfl rfl
theorem zd_481_8 : decode prog_12_method_6_code 8 = .ok (.iload 7, 2) := zsh_g zdk_481 (r := 2) (k := 0) rfl rfl rfl
theorem zd_481_10 : decode prog_12_method_6_code 10 = .ok (.iconst 2, 1) := zsh_g zdk_481 (r := 2) (k := 1) rfl rfl rfl
theorem zd_481_11 : decode prog_12_method_6_code 11 = .ok (.iadd, 1) := zsh_g zdk_481 (r := 2) (k := 2) rfl rfl rfl
theorem zd_481_12 : decode prog_12_method_6_code 12 = .ok (.aload_n 0, 1) := zsh_g zdk_481 (r := 3) (k := 0) rfl rfl rfl
theorem zd_481_13 : decode prog_12_method_6_code 13 = .ok (.getfield 32, 3) := zsh_g zdk_481 (r := 3) (k := 1) rfl rfl rfl
theorem zd_481_16 : decode prog_12_method_6_code 16 = .ok (.arraylength, 1) := zsh_g zdk_481 (r := 4) (k := 0) rfl rfl rfl
theorem zd_481_17 : decode prog_12_method_6_code 17 = .ok (.if_icmp .le 5, 3) := zsh_g zdk_481 (r := 4) (k := 1) rfl rfl rfl
theorem zd_481_20 : decode prog_12_method_6_code 20 = .ok (.iconst 0, 1) := zsh_g zdk_481 (r := 5) (k := 0) rfl rfl rfl
theorem zd_481_22 : decode prog_12_method_6_code 22 = .ok (.aload_n 0, 1) := zsh_g zdk_481 (r := 5) (k := 1) rfl rfl rfl
theorem zd_481_23 : decode prog_12_method_6_code 23 = .ok (.getfield 29, 3) := zsh_g zdk_481 (r := 5) (k := 2) rfl rfl rfl
theorem zd_481_26 : decode prog_12_method_6_code 26 = .ok (.iconst 2, 1) := zsh_g zdk_481 (r := 6) (k := 0) rfl rfl rfl
theorem zd_481_27 : decode prog_12_method_6_code 27 = .ok (.aload_n 0, 1) := zsh_g zdk_481 (r := 6) (k := 1) rfl rfl rfl
theorem zd_481_28 : decode prog_12_method_6_code 28 = .ok (.getfield 55, 3) := zsh_g zdk_481 (r := 7) (k := 0) rfl rfl rfl
theorem zd_481_31 : decode prog_12_method_6_code 31 = .ok (.imul, 1) := zsh_g zdk_481 (r := 7) (k := 1) rfl rfl rfl
theorem zd_481_32 : decode prog_12_method_6_code 32 = .ok (.lload_n 1, 1) := zsh_g zdk_481 (r := 8) (k := 0) rfl rfl rfl
theorem zd_481_33 : decode prog_12_method_6_code 33 = .ok (.lastore, 1) := zsh_g zdk_481 (r := 8) (k := 1) rfl rfl rfl
theorem zd_481_34 : decode prog_12_method_6_code 34 = .ok (.aload_n 0, 1) := zsh_g zdk_481 (r := 8) (k := 2) rfl rfl rfl
theorem zd_481_35 : decode prog_12_method_6_code 35 = .ok (.getfield 29, 3) := zsh_g zdk_481 (r := 8) (k := 3) rfl rfl rfl
theorem zd_481_38 : decode prog_12_method_6_code 38 = .ok (.iconst 2, 1) := zsh_g zdk_481 (r := 9) (k := 0) rfl rfl rfl
theorem zd_481_39 : decode prog_12_method_6_code 39 = .ok (.aload_n 0, 1) := zsh_g zdk_481 (r := 9) (k := 1) rfl rfl rfl
theorem zd_481_40 : decode prog_12_method_6_code 40 = .ok (.getfield 55, 3) := zsh_g zdk_481 (r := 10) (k := 0) rfl rfl rfl
theorem zd_481_43 : decode prog_12_method_6_code 43 = .ok (.imul, 1) := zsh_g zdk_481 (r := 10) (k := 1) rfl rfl rfl
theorem zd_481_44 : decode prog_12_method_6_code 44 = .ok (.iconst 1, 1) := zsh_g zdk_481 (r := 11) (k := 0) rfl rfl rfl
theorem zd_481_45 : decode prog_12_method_6_code 45 = .ok (.iadd, 1) := zsh_g zdk_481 (r := 11) (k := 1) rfl rfl rfl
theorem zd_481_46 : decode prog_12_method_6_code 46 = .ok (.lload_n 3, 1) := zsh_g zdk_481 (r := 11) (k := 2) rfl rfl rfl
theorem zd_481_47 : decode prog_12_method_6_code 47 = .ok (.lastore, 1) := zsh_g zdk_481 (r := 11) (k := 3) rfl rfl rfl
theorem zd_481_48 : decode prog_12_method_6_code 48 = .ok (.aload_n 0, 1) := zsh_g zdk_481 (r := 12) (k := 0) rfl rfl rfl
theorem zd_481_49 : decode prog_12_method_6_code 49 = .ok (.getfield 32, 3) := zsh_g zdk_481 (r := 12) (k := 1) rfl rfl rfl
theorem zd_481_52 : decode prog_12_method_6_code 52 = .ok (.iload 7, 2) := zsh_g zdk_481 (r := 13) (k := 0) rfl rfl rfl
theorem zd_481_54 : decode prog_12_method_6_code 54 = .ok (.iconst 0, 1) := zsh_g zdk_481 (r := 13) (k := 1) rfl rfl rfl
theorem zd_481_55 : decode prog_12_method_6_code 55 = .ok (.iadd, 1) := zsh_g zdk_481 (r := 13) (k := 2) rfl rfl rfl
theorem zd_481_56 : decode prog_12_method_6_code 56 = .ok (.iload 5, 2) := zsh_g zdk_481 (r := 14) (k := 0) rfl rfl rfl
theorem zd_481_58 : decode prog_12_method_6_code 58 = .ok (.iastore, 1) := zsh_g zdk_481 (r := 14) (k := 1) rfl rfl rfl
theorem zd_481_59 : decode prog_12_method_6_code 59 = .ok (.aload_n 0, 1) := zsh_g zdk_481 (r := 14) (k := 2) rfl rfl rfl
theorem zd_481_60 : decode prog_12_method_6_code 60 = .ok (.getfield 32, 3) := zsh_g zdk_481 (r := 15) (k := 0) rfl rfl rfl
theorem zd_481_63 : decode prog_12_method_6_code 63 = .ok (.iload 7, 2) := zsh_g zdk_481 (r := 15) (k := 1) rfl rfl rfl
theorem zd_481_65 : decode prog_12_method_6_code 65 = .ok (.iconst 1, 1) := zsh_g zdk_481 (r := 16) (k := 0) rfl rfl rfl
theorem zd_481_66 : decode prog_12_method_6_code 66 = .ok (.iadd, 1) := zsh_g zdk_481 (r := 16) (k := 1) rfl rfl rfl
theorem zd_481_67 : decode prog_12_method_6_code 67 = .ok (.iload 6, 2) := zsh_g zdk_481 (r := 16) (k := 2) rfl rfl rfl
theorem zd_481_69 : decode prog_12_method_6_code 69 = .ok (.iastore, 1) := zsh_g zdk_481 (r := 17) (k := 0) rfl rfl rfl
theorem zd_481_70 : decode prog_12_method_6_code 70 = .ok (.aload_n 0, 1) := zsh_g zdk_481 (r := 17) (k := 1) rfl rfl rfl
theorem zd_481_71 : decode prog_12_method_6_code 71 = .ok (.dup, 1) := zsh_g zdk_481 (r := 17) (k := 2) rfl rfl rfl
theorem zd_481_72 : decode prog_12_method_6_code 72 = .ok (.getfield 55, 3) := zsh_g zdk_481 (r := 18) (k := 0) rfl rfl rfl
theorem zd_481_75 : decode prog_12_method_6_code 75 = .ok (.iconst 1, 1) := zsh_g zdk_481 (r := 18) (k := 1) rfl rfl rfl
theorem zd_481_76 : decode prog_12_method_6_code 76 = .ok (.iadd, 1) := zsh_g zdk_481 (r := 19) (k := 0) rfl rfl rfl
theorem zd_481_77 : decode prog_12_method_6_code 77 = .ok (.putfield 55, 3) := zsh_g zdk_481 (r := 19) (k := 1) rfl rfl rfl
theorem zd_481_80 : decode prog_12_method_6_code 80 = .ok (.iconst 1, 1) := zsh_g zdk_481 (r := 20) (k := 0) rfl rfl rfl
def zdl_482 : List (List (Nat × Instr × Nat)) := [[(0, (.aload_n 0), 1), (1, (.getfield 52), 3)], [(0, (.getfield 147), 3), (3, (.iconst 1), 1)], [(0, (.if_icmp .ne 4), 3)], [(0, (.aload_n 0), 1), (1, (.getfield 65), 3)], [(0, (.aload_n 0), 1), (1, (.getfield 196), 3)], [(0, (.invokevirtual 199), 3), (3, (.istore_n 2), 1)], [(0, (.aload_n 0), 1), (1, (.getfield 52), 3)], [(0, (.getfield 304), 3), (3, (.iconst (-1)), 1)], [(0, (.if_icmp .eq 10), 3), (3, (.aload_n 0), 1)], [(0, (.iconst 0), 1), (1, (.iload_n 2), 1), (2, (.invokevirtual 325), 3)], [(1, .pop, 1), (2, (.aload_n 0), 1), (3, (.getfield 65), 3)], [(2, (.aload_n 0), 1), (3, (.getfield 196), 3)], [(2, (.iload_n 1), 1), (3, (.invokevirtual 328), 3)], [(2, (.ifCond .ne 13), 3)], [(1, (.aload_n 0), 1), (2, (.getfield 52), 3)], [(1, (.bipush 6), 2), (3, (.invokevirtual 213), 3)], [(3, (.aload_n 0), 1)], [(0, (.getfield 65), 3), (3, (.aload_n 0), 1)], [(0, (.getfield 196), 3), (3, (.iload_n 2), 1)], [(0, (.aload_n 0), 1), (1, (.getfield 52), 3)], [(0, (.getfield 304), 3), (3, (.iconst (-1)), 1)], [(0, (.if_icmp .ne 13), 3), (3, (.aload_n 0), 1)], [(0, (.getfield 52), 3), (3, (.getfield 266), 3)], [(2, (.goto 4), 3)], [(1, (.iconst 0), 1), (2, (.iload_n 1), 1), (3, (.invokevirtual 335), 3)]]
theorem zdk_482 : zsh_all 8 zdl_482 prog_2_method_25_code.data.toList = true := by decide +kernel
theorem zd_482_0 : decode prog_2_method_25_code 0 = .ok (.aload_n 0, 1) := zsh_g zdk_482 (r := 0) (k := 0) rfl rfl rfl
theorem zd_482_1 : decode prog_2_method_25_code 1 = .ok (.getfield 52, 3) := zsh_g zdk_482 (r := 0) (k := 1) rfl rfl rfl
theorem zd_482_4 : decode prog_2_method_25_code 4 = .ok (.getfield 147, 3) := zsh_g zdk_482 (r := 1) (k := 0) rfl rfl rfl
theorem zd_482_7 : decode prog_2_method_25_code 7 = .ok (.iconst 1, 1) := zsh_g zdk_482 (r := 1) (k := 1) rfl rfl rfl
theorem zd_482_8 : decode prog_2_method_25_code 8 = .ok (.if_icmp .ne 4, 3) := zsh_g zdk_482 (r := 2) (k := 0) rfl rfl rfl
theorem zd_482_12 : decode prog_2_method_25_code 12 = .ok (.aload_n 0, 1) := zsh_g zdk_482 (r := 3) (k := 0) rfl rfl rfl
theorem zd_482_13 : decode prog_2_method_25_code 13 = .ok (.getfield 65, 3) := zsh_g zdk_482 (r := 3) (k := 1) rfl rfl rfl
theorem zd_482_16 : decode prog_2_method_25_code 16 = .ok (.aload_n 0, 1) := zsh_g zdk_482 (r := 4) (k := 0) rfl rfl rfl
theorem zd_482_17 : decode prog_2_method_25_code 17 = .ok (.getfield 196, 3) := zsh_g zdk_482 (r := 4) (k := 1) rfl rfl rfl
theorem zd_482_20 : decode prog_2_method_25_code 20 = .ok (.invokevirtual 199, 3) := zsh_g zdk_482 (r := 5) (k := 0) rfl rfl rfl
theorem zd_482_23 : decode prog_2_method_25_code 23 = .ok (.istore_n 2, 1) := zsh_g zdk_482 (r := 5) (k := 1) rfl rfl rfl
theorem zd_482_24 : decode prog_2_method_25_code 24 = .ok (.aload_n 0, 1) := zsh_g zdk_482 (r := 6) (k := 0) rfl rfl rfl
theorem zd_482_25 : decode prog_2_method_25_code 25 = .ok (.getfield 52, 3) := zsh_g zdk_482 (r := 6) (k := 1) rfl rfl rfl
theorem zd_482_28 : decode prog_2_method_25_code 28 = .ok (.getfield 304, 3) := zsh_g zdk_482 (r := 7) (k := 0) rfl rfl rfl
theorem zd_482_31 : decode prog_2_method_25_code 31 = .ok (.iconst (-1), 1) := zsh_g zdk_482 (r := 7) (k := 1) rfl rfl rfl
theorem zd_482_32 : decode prog_2_method_25_code 32 = .ok (.if_icmp .eq 10, 3) := zsh_g zdk_482 (r := 8) (k := 0) rfl rfl rfl
theorem zd_482_35 : decode prog_2_method_25_code 35 = .ok (.aload_n 0, 1) := zsh_g zdk_482 (r := 8) (k := 1) rfl rfl rfl
theorem zd_482_36 : decode prog_2_method_25_code 36 = .ok (.iconst 0, 1) := zsh_g zdk_482 (r := 9) (k := 0) rfl rfl rfl
theorem zd_482_37 : decode prog_2_method_25_code 37 = .ok (.iload_n 2, 1) := zsh_g zdk_482 (r := 9) (k := 1) rfl rfl rfl
theorem zd_482_38 : decode prog_2_method_25_code 38 = .ok (.invokevirtual 325, 3) := zsh_g zdk_482 (r := 9) (k := 2) rfl rfl rfl
theorem zd_482_41 : decode prog_2_method_25_code 41 = .ok (.pop, 1) := zsh_g zdk_482 (r := 10) (k := 0) rfl rfl rfl
theorem zd_482_42 : decode prog_2_method_25_code 42 = .ok (.aload_n 0, 1) := zsh_g zdk_482 (r := 10) (k := 1) rfl rfl rfl
theorem zd_482_43 : decode prog_2_method_25_code 43 = .ok (.getfield 65, 3) := zsh_g zdk_482 (r := 10) (k := 2) rfl rfl rfl
theorem zd_482_46 : decode prog_2_method_25_code 46 = .ok (.aload_n 0, 1) := zsh_g zdk_482 (r := 11) (k := 0) rfl rfl rfl
theorem zd_482_47 : decode prog_2_method_25_code 47 = .ok (.getfield 196, 3) := zsh_g zdk_482 (r := 11) (k := 1) rfl rfl rfl
theorem zd_482_50 : decode prog_2_method_25_code 50 = .ok (.iload_n 1, 1) := zsh_g zdk_482 (r := 12) (k := 0) rfl rfl rfl
theorem zd_482_51 : decode prog_2_method_25_code 51 = .ok (.invokevirtual 328, 3) := zsh_g zdk_482 (r := 12) (k := 1) rfl rfl rfl
theorem zd_482_54 : decode prog_2_method_25_code 54 = .ok (.ifCond .ne 13, 3) := zsh_g zdk_482 (r := 13) (k := 0) rfl rfl rfl
theorem zd_482_57 : decode prog_2_method_25_code 57 = .ok (.aload_n 0, 1) := zsh_g zdk_482 (r := 14) (k := 0) rfl rfl rfl
theorem zd_482_58 : decode prog_2_method_25_code 58 = .ok (.getfield 52, 3) := zsh_g zdk_482 (r := 14) (k := 1) rfl rfl rfl
theorem zd_482_61 : decode prog_2_method_25_code 61 = .ok (.bipush 6, 2) := zsh_g zdk_482 (r := 15) (k := 0) rfl rfl rfl
theorem zd_482_63 : decode prog_2_method_25_code 63 = .ok (.invokevirtual 213, 3) := zsh_g zdk_482 (r := 15) (k := 1) rfl rfl rfl
theorem zd_482_67 : decode prog_2_method_25_code 67 = .ok (.aload_n 0, 1) := zsh_g zdk_482 (r := 16) (k := 0) rfl rfl rfl
theorem zd_482_68 : decode prog_2_method_25_code 68 = .ok (.getfield 65, 3) := zsh_g zdk_482 (r := 17) (k := 0) rfl rfl rfl
theorem zd_482_71 : decode prog_2_method_25_code 71 = .ok (.aload_n 0, 1) := zsh_g zdk_482 (r := 17) (k := 1) rfl rfl rfl
theorem zd_482_72 : decode prog_2_method_25_code 72 = .ok (.getfield 196, 3) := zsh_g zdk_482 (r := 18) (k := 0) rfl rfl rfl
theorem zd_482_75 : decode prog_2_method_25_code 75 = .ok (.iload_n 2, 1) := zsh_g zdk_482 (r := 18) (k := 1) rfl rfl rfl
theorem zd_482_76 : decode prog_2_method_25_code 76 = .ok (.aload_n 0, 1) := zsh_g zdk_482 (r := 19) (k := 0) rfl rfl rfl
theorem zd_482_77 : decode prog_2_method_25_code 77 = .ok (.getfield 52, 3) := zsh_g zdk_482 (r := 19) (k := 1) rfl rfl rfl
theorem zd_482_80 : decode prog_2_method_25_code 80 = .ok (.getfield 304, 3) := zsh_g zdk_482 (r := 20) (k := 0) rfl rfl rfl
theorem zd_482_83 : decode prog_2_method_25_code 83 = .ok (.iconst (-1), 1) := zsh_g zdk_482 (r := 20) (k := 1) rfl rfl rfl
theorem zd_482_84 : decode prog_2_method_25_code 84 = .ok (.if_icmp .ne 13, 3) := zsh_g zdk_482 (r := 21) (k := 0) rfl rfl rfl
theorem zd_482_87 : decode prog_2_method_25_code 87 = .ok (.aload_n 0, 1) := zsh_g zdk_482 (r := 21) (k := 1) rfl rfl rfl
theorem zd_482_88 : decode prog_2_method_25_code 88 = .ok (.getfield 52, 3) := zsh_g zdk_482 (r := 22) (k := 0) rfl rfl rfl
theorem zd_482_91 : decode prog_2_method_25_code 91 = .ok (.getfield 266, 3) := zsh_g zdk_482 (r := 22) (k := 1) rfl rfl rfl
theorem zd_482_94 : decode prog_2_method_25_code 94 = .ok (.goto 4, 3) := zsh_g zdk_482 (r := 23) (k := 0) rfl rfl rfl
theorem zd_482_97 : decode prog_2_method_25_code 97 = .ok (.iconst 0, 1) := zsh_g zdk_482 (r := 24) (k := 0) rfl rfl rfl
theorem zd_482_98 : decode prog_2_method_25_code 98 = .ok (.iload_n 1, 1) := zsh_g zdk_482 (r := 24) (k := 1) rfl rfl rfl
theorem zd_482_99 : decode prog_2_method_25_code 99 = .ok (.invokevirtual 335, 3) := zsh_g zdk_482 (r := 24) (k := 2) rfl rfl rfl
def zdl_483 : List (List (Nat × Instr × Nat)) := [[(0, (.iload_n 1), 1), (1, (.istore_n 3), 1), (2, (.iload_n 3), 1), (3, (.iload_n 2), 1)], [(0, (.if_icmp .ge 23), 3), (3, (.aload_n 0), 1)], [(0, (.getfield 45), 3), (3, (.getfield 140), 3)], [(2, (.iload_n 3), 1), (3, .baload, 1)], [(0, (.bipush 32), 2), (2, (.if_icmp .ne 9), 3)], [(1, (.iinc 3 1), 3)], [(0, (.goto (-22)), 3), (3, (.iload_n 3), 1)]]
theorem zdk_483 : zsh_all 8 zdl_483 prog_2_method_31_code.data.toList = true := by decide +kernel
theorem zd_483_0 : decode prog_2_method_31_code 0 = .ok (.iload_n 1, 1) := zsh_g zdk_483 (r := 0) (k := 0) rfl rfl rfl
theorem zd_483_1 : decode prog_2_method_31_code 1 = .ok (.istore_n 3, 1) := zsh_g zdk_483 (r := 0) (k := 1) rfl rfl rfl
theorem zd_483_2 : decode prog_2_method_31_code 2 = .ok (.iload_n 3, 1) := zsh_g zdk_483 (r := 0) (k := 2) rfl rfl rfl
theorem zd_483_3 : decode prog_2_method_31_code 3 = .ok (.iload_n 2, 1) := zsh_g zdk_483 (r := 0) (k := 3) rfl rfl rfl
theorem zd_483_4 : decode prog_2_method_31_code 4 = .ok (.if_icmp .ge 23, 3) := zsh_g zdk_483 (r := 1) (k := 0) rfl rfl rfl
theorem zd_483_7 : decode prog_2_method_31_code 7 = .ok (.aload_n 0, 1) := zsh_g zdk_483 (r := 1) (k := 1) rfl rfl rfl
theorem zd_483_8 : decode prog_2_method_31_code 8 = .ok (.getfield 45, 3) := zsh_g zdk_483 (r := 2) (k := 0) rfl rfl rfl
theorem zd_483_11 : decode prog_2_method_31_code 11 = .ok (.getfield 140, 3) := zsh_g zdk_483 (r := 2) (k := 1) rfl rfl rfl
theorem zd_483_14 : decode prog_2_method_31_code 14 = .ok (.iload_n 3, 1) := zsh_g zdk_483 (r := 3) (k := 0) rfl rfl rfl
theorem zd_483_15 : decode prog_2_method_31_code 15 = .ok (.baload, 1) := zsh_g zdk_483 (r := 3) (k := 1) rfl rfl rfl
theorem zd_483_16 : decode prog_2_method_31_code 16 = .ok (.bipush 32, 2) := zsh_g zdk_483 (r := 4) (k := 0) rfl rfl rfl
theorem zd_483_18 : decode prog_2_method_31_code 18 = .ok (.if_icmp .ne 9, 3) := zsh_g zdk_483 (r := 4) (k := 1) rfl rfl rfl
theorem zd_483_21 : decode prog_2_method_31_code 21 = .ok (.iinc 3 1, 3) := zsh_g zdk_483 (r := 5) (k := 0) rfl rfl rfl
theorem zd_483_24 : decode prog_2_method_31_code 24 = .ok (.goto (-22), 3) := zsh_g zdk_483 (r := 6) (k := 0) rfl rfl rfl
theorem zd_483_27 : decode prog_2_method_31_code 27 = .ok (.iload_n 3, 1) := zsh_g zdk_483 (r := 6) (k := 1) rfl rfl rfl
def zdl_484 : List (List (Nat × Instr × Nat)) := [[(0, (.iload_n 2), 1), (1, (.istore_n 3), 1), (2, (.iload_n 3), 1), (3, (.iload_n 1), 1)], [(0, (.if_icmp .le 25), 3), (3, (.aload_n 0), 1)], [(0, (.getfield 45), 3), (3, (.getfield 140), 3)], [(2, (.iload_n 3), 1), (3, (.iconst 1), 1)], [(0, .isub, 1), (1, .baload, 1), (2, (.bipush 32), 2)], [(0, (.if_icmp .ne 9), 3), (3, (.iinc 3 (-1)), 3)], [(2, (.goto (-24)), 3)], [(1, (.iload_n 3), 1)]]
theorem zdk_484 : zsh_all 8 zdl_484 prog_2_method_32_code.data.toList = true := by decide +kernel
theorem zd_484_0 : decode prog_2_method_32_code 0 = .ok (.iload_n 2, 1) := zsh_g zdk_484 (r := 0) (k := 0) rfl rfl rfl
theorem zd_484_1 : decode prog_2_method_32_code 1 = .ok (.istore_n 3, 1) := zsh_g zdk_484 (r := 0) (k := 1) rfl rfl rfl
theorem zd_484_2 : decode prog_2_method_32_code 2 = .ok (.iload_n 3, 1) := zsh_g zdk_484 (r := 0) (k := 2) rfl rfl rfl
theorem zd_484_3 : decode prog_2_method_32_code 3 = .ok (.iload_n 1, 1) := zsh_g zdk_484 (r := 0) (k := 3) rfl rfl rfl
theorem zd_484_4 : decode prog_2_method_32_code 4 = .ok (.if_icmp .le 25, 3) := zsh_g zdk_484 (r := 1) (k := 0) rfl rfl rfl
theorem zd_484_7 : decode prog_2_method_32_code 7 = .ok (.aload_n 0, 1) := zsh_g zdk_484 (r := 1) (k := 1) rfl rfl rfl
theorem zd_484_8 : decode prog_2_method_32_code 8 = .ok (.getfield 45, 3) := zsh_g zdk_484 (r := 2) (k := 0) rfl rfl rfl
theorem zd_484_11 : decode prog_2_method_32_code 11 = .ok (.getfield 140, 3) := zsh_g zdk_484 (r := 2) (k := 1) rfl rfl rfl
theorem zd_484_14 : decode prog_2_method_32_code 14 = .ok (.iload_n 3, 1) := zsh_g zdk_484 (r := 3) (k := 0) rfl rfl rfl
theorem zd_484_15 : decode prog_2_method_32_code 15 = .ok (.iconst 1, 1) := zsh_g zdk_484 (r := 3) (k := 1) rfl rfl rfl
theorem zd_484_16 : decode prog_2_method_32_code 16 = .ok (.isub, 1) := zsh_g zdk_484 (r := 4) (k := 0) rfl rfl rfl
theorem zd_484_17 : decode prog_2_method_32_code 17 = .ok (.baload, 1) := zsh_g zdk_484 (r := 4) (k := 1) rfl rfl rfl
theorem zd_484_18 : decode prog_2_method_32_code 18 = .ok (.bipush 32, 2) := zsh_g zdk_484 (r := 4) (k := 2) rfl rfl rfl
theorem zd_484_20 : decode prog_2_method_32_code 20 = .ok (.if_icmp .ne 9, 3) := zsh_g zdk_484 (r := 5) (k := 0) rfl rfl rfl
theorem zd_484_23 : decode prog_2_method_32_code 23 = .ok (.iinc 3 (-1), 3) := zsh_g zdk_484 (r := 5) (k := 1) rfl rfl rfl
theorem zd_484_26 : decode prog_2_method_32_code 26 = .ok (.goto (-24), 3) := zsh_g zdk_484 (r := 6) (k := 0) rfl rfl rfl
theorem zd_484_29 : decode prog_2_method_32_code 29 = .ok (.iload_n 3, 1) := zsh_g zdk_484 (r := 7) (k := 0) rfl rfl rfl
def zdl_485 : List (List (Nat × Instr × Nat)) := [[(0, (.aload_n 0), 1), (1, (.invokevirtual 492), 3)], [(0, (.ifCond .eq 19), 3), (3, (.aload_n 0), 1)], [(0, (.getfield 9), 3), (3, (.iload_n 1), 1)], [(0, (.iload_n 2), 1), (1, (.aload_n 0), 1), (2, (.invokevirtual 505), 3)], [(1, (.invokestatic 637), 3)], [(0, (.goto 16), 3), (3, (.aload_n 0), 1)], [(0, (.getfield 9), 3), (3, (.iload_n 1), 1)], [(0, (.iload_n 2), 1), (1, (.aload_n 0), 1), (2, (.invokevirtual 505), 3)], [(1, (.invokestatic 640), 3)]]
theorem zdk_485 : zsh_all 8 zdl_485 prog_26_method_80_code.data.toList = true := by decide +kernel
theorem zd_485_0 : decode prog_26_method_80_code 0 = .ok (.aload_n 0, 1) := zsh_g zdk_485 (r := 0) (k := 0) rfl rfl rfl
theorem zd_485_1 : decode prog_26_method_80_code 1 = .ok (.invokevirtual 492, 3) := zsh_g zdk_485 (r := 0) (k := 1) rfl rfl rfl
theorem zd_485_4 : decode prog_26_method_80_code 4 = .ok (.ifCond .eq 19, 3) := zsh_g zdk_485 (r := 1) (k := 0) rfl rfl rfl
theorem zd_485_7 : decode prog_26_method_80_code 7 = .ok (.aload_n 0, 1) := zsh_g zdk_485 (r := 1) (k := 1) rfl rfl rfl
theorem zd_485_8 : decode prog_26_method_80_code 8 = .ok (.getfield 9, 3) := zsh_g zdk_485 (r := 2) (k := 0) rfl rfl rfl
theorem zd_485_11 : decode prog_26_method_80_code 11 = .ok (.iload_n 1, 1) := zsh_g zdk_485 (r := 2) (k := 1) rfl rfl rfl
theorem zd_485_12 : decode prog_26_method_80_code 12 = .ok (.iload_n 2, 1) := zsh_g zdk_485 (r := 3) (k := 0) rfl rfl rfl
theorem zd_485_13 : decode prog_26_method_80_code 13 = .ok (.aload_n 0, 1) := zsh_g zdk_485 (r := 3) (k := 1) rfl rfl rfl
theorem zd_485_14 : decode prog_26_method_80_code 14 = .ok (.invokevirtual 505, 3) := zsh_g zdk_485 (r := 3) (k := 2) rfl rfl rfl
theorem zd_485_17 : decode prog_26_method_80_code 17 = .ok (.invokestatic 637, 3) := zsh_g zdk_485 (r := 4) (k := 0) rfl rfl rfl
theorem zd_485_20 : decode prog_26_method_80_code 20 = .ok (.goto 16, 3) := zsh_g zdk_485 (r := 5) (k := 0) rfl rfl rfl
theorem zd_485_23 : decode prog_26_method_80_code 23 = .ok (.aload_n 0, 1) := zsh_g zdk_485 (r := 5) (k := 1) rfl rfl rfl
theorem zd_485_24 : decode prog_26_method_80_code 24 = .ok (.getfield 9, 3) := zsh_g zdk_485 (r := 6) (k := 0) rfl rfl rfl
theorem zd_485_27 : decode prog_26_method_80_code 27 = .ok (.iload_n 1, 1) := zsh_g zdk_485 (r := 6) (k := 1) rfl rfl rfl
theorem zd_485_28 : decode prog_26_method_80_code 28 = .ok (.iload_n 2, 1) := zsh_g zdk_485 (r := 7) (k := 0) rfl rfl rfl
theorem zd_485_29 : decode prog_26_method_80_code 29 = .ok (.aload_n 0, 1) := zsh_g zdk_485 (r := 7) (k := 1) rfl rfl rfl
theorem zd_485_30 : decode prog_26_method_80_code 30 = .ok (.invokevirtual 505, 3) := zsh_g zdk_485 (r := 7) (k := 2) rfl rfl rfl
theorem zd_485_33 : decode prog_26_method_80_code 33 = .ok (.invokestatic 640, 3) := zsh_g zdk_485 (r := 8) (k := 0) rfl rfl rfl
def zdl_486 : List (List (Nat × Instr × Nat)) := [[(0, (.aload_n 0), 1), (1, (.invokevirtual 245), 3)], [(0, (.istore_n 1), 1), (1, (.aload_n 0), 1), (2, (.invokevirtual 73), 3)], [(1, (.aload_n 0), 1), (2, (.invokevirtual 69), 3)], [(1, (.bipush 40), 2), (3, (.if_icmp .ne 23), 3)], [(2, (.aload_n 0), 1), (3, (.iload_n 1), 1)], [(0, (.iconst 0), 1), (1, (.invokevirtual 248), 3)], [(0, (.aload_n 0), 1), (1, (.getfield 36), 3)], [(0, (.bipush 11), 2), (2, (.iconst 0), 1), (3, (.iload_n 1), 1)], [(0, (.invokevirtual 169), 3), (3, (.goto 65), 3)], [(2, (.aload_n 0), 1), (3, (.invokevirtual 69), 3)], [(2, (.bipush 91), 2)], [(0, (.if_icmp .ne 34), 3), (3, (.aload_n 0), 1)], [(0, (.iload_n 1), 1), (1, (.iconst 0), 1), (2, (.invokevirtual 252), 3)], [(1, (.aload_n 0), 1), (2, (.bipush 61), 2)], [(0, (.invokevirtual 157), 3), (3, (.aload_n 0), 1)], [(0, (.iconst 1), 1), (1, (.invokevirtual 238), 3)], [(0, (.aload_n 0), 1), (1, (.getfield 36), 3)], [(0, (.bipush 30), 2), (2, (.iconst 0), 1), (3, (.iload_n 1), 1)], [(0, (.invokevirtual 169), 3), (3, (.goto 25), 3)], [(2, (.aload_n 0), 1), (3, (.bipush 61), 2)], [(1, (.invokevirtual 157), 3)], [(0, (.aload_n 0), 1), (1, (.iconst 0), 1), (2, (.invokevirtual 238), 3)], [(1, (.aload_n 0), 1), (2, (.getfield 36), 3)], [(1, (.bipush 29), 2), (3, (.iconst 0), 1)], [(0, (.iload_n 1), 1), (1, (.invokevirtual 169), 3)], [(0, (.aload_n 0), 1), (1, (.bipush 59), 2), (3, (.invokevirtual 157), 3)]]
theorem zdk_486 : zsh_all 8 zdl_486 prog_10_method_29_code.data.toList = true := by decide +kernel
theorem zd_486_0 : decode prog_10_method_29_code 0 = .ok (.aload_n 0, 1) := zsh_g zdk_486 (r := 0) (k := 0) rfl rfl rfl
theorem zd_486_1 : decode prog_10_method_29_code 1 = .ok (.invokevirtual 245, 3) := zsh_g zdk_486 (r := 0) (k := 1) rfl rfl rfl
theorem zd_486_4 : decode prog_10_method_29_code 4 = .ok (.istore_n 1, 1) := zsh_g zdk_486 (r := 1) (k := 0) rfl rfl rfl
theorem zd_486_5 : decode prog_10_method_29_code 5 = .ok (.aload_n 0, 1) := zsh_g zdk_486 (r := 1) (k := 1) rfl rfl rfl
theorem zd_486_6 : decode prog_10_method_29_code 6 = .ok (.invokevirtual 73, 3) := zsh_g zdk_486 (r := 1) (k := 2) rfl rfl rfl
theorem zd_486_9 : decode prog_10_method_29_code 9 = .ok (.aload_n 0, 1) := zsh_g zdk_486 (r := 2) (k := 0) rfl rfl rfl
theorem zd_486_10 : decode prog_10_method_29_code 10 = .ok (.invokevirtual 69, 3) := zsh_g zdk_486 (r := 2) (k := 1) rfl rfl rfl
theorem zd_486_13 : decode prog_10_method_29_code 13 = .ok (.bipush 40, 2) := zsh_g zdk_486 (r := 3) (k := 0) rfl rfl rfl
theorem zd_486_15 : decode prog_10_method_29_code 15 = .ok (.if_icmp .ne 23, 3) := zsh_g zdk_486 (r := 3) (k := 1) rfl rfl rfl
theorem zd_486_18 : decode prog_10_method_29_code 18 = .ok (.aload_n 0, 1) := zsh_g zdk_486 (r := 4) (k := 0) rfl rfl rfl
theorem zd_486_19 : decode prog_10_method_29_code 19 = .ok (.iload_n 1, 1) := zsh_g zdk_486 (r := 4) (k := 1) rfl rfl rfl
theorem zd_486_20 : decode prog_10_method_29_code 20 = .ok (.iconst 0, 1) := zsh_g zdk_486 (r := 5) (k := 0) rfl rfl rfl
theorem zd_486_21 : decode prog_10_method_29_code 21 = .ok (.invokevirtual 248, 3) := zsh_g zdk_486 (r := 5) (k := 1) rfl rfl rfl
theorem zd_486_24 : decode prog_10_method_29_code 24 = .ok (.aload_n 0, 1) := zsh_g zdk_486 (r := 6) (k := 0) rfl rfl rfl
theorem zd_486_25 : decode prog_10_method_29_code 25 = .ok (.getfield 36, 3) := zsh_g zdk_486 (r := 6) (k := 1) rfl rfl rfl
theorem zd_486_28 : decode prog_10_method_29_code 28 = .ok (.bipush 11, 2) := zsh_g zdk_486 (r := 7) (k := 0) rfl rfl rfl
theorem zd_486_30 : decode prog_10_method_29_code 30 = .ok (.iconst 0, 1) := zsh_g zdk_486 (r := 7) (k := 1) rfl rfl rfl
theorem zd_486_31 : decode prog_10_method_29_code 31 = .ok (.iload_n 1, 1) := zsh_g zdk_486 (r := 7) (k := 2) rfl rfl rfl
theorem zd_486_32 : decode prog_10_method_29_code 32 = .ok (.invokevirtual 169, 3) := zsh_g zdk_486 (r := 8) (k := 0) rfl rfl rfl
theorem zd_486_35 : decode prog_10_method_29_code 35 = .ok (.goto 65, 3) := zsh_g zdk_486 (r := 8) (k := 1) rfl rfl rfl
theorem zd_486_38 : decode prog_10_method_29_code 38 = .ok (.aload_n 0, 1) := zsh_g zdk_486 (r := 9) (k := 0) rfl rfl rfl
theorem zd_486_39 : decode prog_10_method_29_code 39 = .ok (.invokevirtual 69, 3) := zsh_g zdk_486 (r := 9) (k := 1) rfl rfl rfl
theorem zd_486_42 : decode prog_10_method_29_code 42 = .ok (.bipush 91, 2) := zsh_g zdk_486 (r := 10) (k := 0) rfl rfl rfl
theorem zd_486_44 : decode prog_10_method_29_code 44 = .ok (.if_icmp .ne 34, 3) := zsh_g zdk_486 (r := 11) (k := 0) rfl rfl rfl
theorem zd_486_47 : decode prog_10_method_29_code 47 = .ok (.aload_n 0, 1) := zsh_g zdk_486 (r := 11) (k := 1) rfl rfl rfl
theorem zd_486_48 : decode prog_10_method_29_code 48 = .ok (.iload_n 1, 1) := zsh_g zdk_486 (r := 12) (k := 0) rfl rfl rfl
theorem zd_486_49 : decode prog_10_method_29_code 49 = .ok (.iconst 0, 1) := zsh_g zdk_486 (r := 12) (k := 1) rfl rfl rfl
theorem zd_486_50 : decode prog_10_method_29_code 50 = .ok (.invokevirtual 252, 3) := zsh_g zdk_486 (r := 12) (k := 2) rfl rfl rfl
theorem zd_486_53 : decode prog_10_method_29_code 53 = .ok (.aload_n 0, 1) := zsh_g zdk_486 (r := 13) (k := 0) rfl rfl rfl
theorem zd_486_54 : decode prog_10_method_29_code 54 = .ok (.bipush 61, 2) := zsh_g zdk_486 (r := 13) (k := 1) rfl rfl rfl
theorem zd_486_56 : decode prog_10_method_29_code 56 = .ok (.invokevirtual 157, 3) := zsh_g zdk_486 (r := 14) (k := 0) rfl rfl rfl
theorem zd_486_59 : decode prog_10_method_29_code 59 = .ok (.aload_n 0, 1) := zsh_g zdk_486 (r := 14) (k := 1) rfl rfl rfl
theorem zd_486_60 : decode prog_10_method_29_code 60 = .ok (.iconst 1, 1) := zsh_g zdk_486 (r := 15) (k := 0) rfl rfl rfl
theorem zd_486_61 : decode prog_10_method_29_code 61 = .ok (.invokevirtual 238, 3) := zsh_g zdk_486 (r := 15) (k := 1) rfl rfl rfl
theorem zd_486_64 : decode prog_10_method_29_code 64 = .ok (.aload_n 0, 1) := zsh_g zdk_486 (r := 16) (k := 0) rfl rfl rfl
theorem zd_486_65 : decode prog_10_method_29_code 65 = .ok (.getfield 36, 3) := zsh_g zdk_486 (r := 16) (k := 1) rfl rfl rfl
theorem zd_486_68 : decode prog_10_method_29_code 68 = .ok (.bipush 30, 2) := zsh_g zdk_486 (r := 17) (k := 0) rfl rfl rfl
theorem zd_486_70 : decode prog_10_method_29_code 70 = .ok (.iconst 0, 1) := zsh_g zdk_486 (r := 17) (k := 1) rfl rfl rfl
theorem zd_486_71 : decode prog_10_method_29_code 71 = .ok (.iload_n 1, 1) := zsh_g zdk_486 (r := 17) (k := 2) rfl rfl rfl
theorem zd_486_72 : decode prog_10_method_29_code 72 = .ok (.invokevirtual 169, 3) := zsh_g zdk_486 (r := 18) (k := 0) rfl rfl rfl
theorem zd_486_75 : decode prog_10_method_29_code 75 = .ok (.goto 25, 3) := zsh_g zdk_486 (r := 18) (k := 1) rfl rfl rfl
theorem zd_486_78 : decode prog_10_method_29_code 78 = .ok (.aload_n 0, 1) := zsh_g zdk_486 (r := 19) (k := 0) rfl rfl rfl
theorem zd_486_79 : decode prog_10_method_29_code 79 = .ok (.bipush 61, 2) := zsh_g zdk_486 (r := 19) (k := 1) rfl rfl rfl
theorem zd_486_81 : decode prog_10_method_29_code 81 = .ok (.invokevirtual 157, 3) := zsh_g zdk_486 (r := 20) (k := 0) rfl rfl rfl
theorem zd_486_84 : decode prog_10_method_29_code 84 = .ok (.aload_n 0, 1) := zsh_g zdk_486 (r := 21) (k := 0) rfl rfl rfl
theorem zd_486_85 : decode prog_10_method_29_code 85 = .ok (.iconst 0, 1) := zsh_g zdk_486 (r := 21) (k := 1) rfl rfl rfl
theorem zd_486_86 : decode prog_10_method_29_code 86 = .ok (.invokevirtual 238, 3) := zsh_g zdk_486 (r := 21) (k := 2) rfl rfl rfl
theorem zd_486_89 : decode prog_10_method_29_code 89 = .ok (.aload_n 0, 1) := zsh_g zdk_486 (r := 22) (k := 0) rfl rfl rfl
theorem zd_486_90 : decode prog_10_method_29_code 90 = .ok (.getfield 36, 3) := zsh_g zdk_486 (r := 22) (k := 1) rfl rfl rfl
theorem zd_486_93 : decode prog_10_method_29_code 93 = .ok (.bipush 29, 2) := zsh_g zdk_486 (r := 23) (k := 0) rfl rfl rfl
theorem zd_486_95 : decode prog_10_method_29_code 95 = .ok (.iconst 0, 1) := zsh_g zdk_486 (r := 23) (k := 1) rfl rfl rfl
theorem zd_486_96 : decode prog_10_method_29_code 96 = .ok (.iload_n 1, 1) := zsh_g zdk_486 (r := 24) (k := 0) rfl rfl rfl
theorem zd_486_97 : decode prog_10_method_29_code 97 = .ok (.invokevirtual 169, 3) := zsh_g zdk_486 (r := 24) (k := 1) rfl rfl rfl
theorem zd_486_100 : decode prog_10_method_29_code 100 = .ok (.aload_n 0, 1) := zsh_g zdk_486 (r := 25) (k := 0) rfl rfl rfl
theorem zd_486_101 : decode prog_10_method_29_code 101 = .ok (.bipush 59, 2) := zsh_g zdk_486 (r := 25) (k := 1) rfl rfl rfl
theorem zd_486_103 : decode prog_10_method_29_code 103 = .ok (.invokevirtual 157, 3) := zsh_g zdk_486 (r := 25) (k := 2) rfl rfl rfl
def zdl_487 : List (List (Nat × Instr × Nat)) := [[(0, (.aload_n 0), 1), (1, (.invokevirtual 241), 3)], [(0, (.ifCond .ne 4), 3)], [(0, (.aload_n 0), 1), (1, (.invokevirtual 255), 3)], [(0, (.istore_n 1), 1), (1, (.aload_n 0), 1), (2, (.getfield 36), 3)], [(1, (.bipush 31), 2), (3, (.iconst 0), 1)], [(0, (.iload_n 1), 1), (1, (.invokevirtual 169), 3)], [(0, (.aload_n 0), 1), (1, (.invokevirtual 220), 3)], [(0, (.aload_n 0), 1), (1, (.invokevirtual 69), 3)], [(0, (.bipush 7), 2), (2, (.if_icmp .eq 9), 3)], [(1, (.aload_n 0), 1), (2, (.iload_n 1), 1), (3, (.invokevirtual 258), 3)], [(3, (.aload_n 0), 1)], [(0, (.invokevirtual 73), 3), (3, (.aload_n 0), 1)], [(0, (.invokevirtual 255), 3), (3, (.istore_n 2), 1)], [(0, (.aload_n 0), 1), (1, (.getfield 36), 3)], [(0, (.bipush 32), 2), (2, (.iconst 0), 1), (3, (.iload_n 2), 1)], [(0, (.invokevirtual 169), 3), (3, (.aload_n 0), 1)], [(0, (.iload_n 1), 1), (1, (.invokevirtual 258), 3)], [(0, (.aload_n 0), 1), (1, (.invokevirtual 220), 3)], [(0, (.aload_n 0), 1), (1, (.iload_n 2), 1), (2, (.invokevirtual 258), 3)]]
theorem zdk_487 : zsh_all 8 zdl_487 prog_10_method_31_code.data.toList = true := by decide +kernel
theorem zd_487_0 : decode prog_10_method_31_code 0 = .ok (.aload_n 0, 1) := zsh_g zdk_487 (r := 0) (k := 0) rfl rfl rfl
theorem zd_487_1 : decode prog_10_method_31_code 1 = .ok (.invokevirtual 241, 3) := zsh_g zdk_487 (r := 0) (k := 1) rfl rfl rfl
theorem zd_487_4 : decode prog_10_method_31_code 4 = .ok (.ifCond .ne 4, 3) := zsh_g zdk_487 (r := 1) (k := 0) rfl rfl rfl
theorem zd_487_8 : decode prog_10_method_31_code 8 = .ok (.aload_n 0, 1) := zsh_g zdk_487 (r := 2) (k := 0) rfl rfl rfl
theorem zd_487_9 : decode prog_10_method_31_code 9 = .ok (.invokevirtual 255, 3) := zsh_g zdk_487 (r := 2) (k := 1) rfl rfl rfl
theorem zd_487_12 : decode prog_10_method_31_code 12 = .ok (.istore_n 1, 1) := zsh_g zdk_487 (r := 3) (k := 0) rfl rfl rfl
theorem zd_487_13 : decode prog_10_method_31_code 13 = .ok (.aload_n 0, 1) := zsh_g zdk_487 (r := 3) (k := 1) rfl rfl rfl
theorem zd_487_14 : decode prog_10_method_31_code 14 = .ok (.getfield 36, 3) := zsh_g zdk_487 (r := 3) (k := 2) rfl rfl rfl
theorem zd_487_17 : decode prog_10_method_31_code 17 = .ok (.bipush 31, 2) := zsh_g zdk_487 (r := 4) (k := 0) rfl rfl rfl
theorem zd_487_19 : decode prog_10_method_31_code 19 = .ok (.iconst 0, 1) := zsh_g zdk_487 (r := 4) (k := 1) rfl rfl rfl
theorem zd_487_20 : decode prog_10_method_31_code 20 = .ok (.iload_n 1, 1) := zsh_g zdk_487 (r := 5) (k := 0) rfl rfl rfl
theorem zd_487_21 : decode prog_10_method_31_code 21 = .ok (.invokevirtual 169, 3) := zsh_g zdk_487 (r := 5) (k := 1) rfl rfl rfl
theorem zd_487_24 : decode prog_10_method_31_code 24 = .ok (.aload_n 0, 1) := zsh_g zdk_487 (r := 6) (k := 0) rfl rfl rfl
theorem zd_487_25 : decode prog_10_method_31_code 25 = .ok (.invokevirtual 220, 3) := zsh_g zdk_487 (r := 6) (k := 1) rfl rfl rfl
theorem zd_487_28 : decode prog_10_method_31_code 28 = .ok (.aload_n 0, 1) := zsh_g zdk_487 (r := 7) (k := 0) rfl rfl rfl
theorem zd_487_29 : decode prog_10_method_31_code 29 = .ok (.invokevirtual 69, 3) := zsh_g zdk_487 (r := 7) (k := 1) rfl rfl rfl
theorem zd_487_32 : decode prog_10_method_31_code 32 = .ok (.bipush 7, 2) := zsh_g zdk_487 (r := 8) (k := 0) rfl rfl rfl
theorem zd_487_34 : decode prog_10_method_31_code 34 = .ok (.if_icmp .eq 9, 3) := zsh_g zdk_487 (r := 8) (k := 1) rfl rfl rfl
theorem zd_487_37 : decode prog_10_method_31_code 37 = .ok (.aload_n 0, 1) := zsh_g zdk_487 (r := 9) (k := 0) rfl rfl rfl
theorem zd_487_38 : decode prog_10_method_31_code 38 = .ok (.iload_n 1, 1) := zsh_g zdk_487 (r := 9) (k := 1) rfl rfl rfl
theorem zd_487_39 : decode prog_10_method_31_code 39 = .ok (.invokevirtual 258, 3) := zsh_g zdk_487 (r := 9) (k := 2) rfl rfl rfl
theorem zd_487_43 : decode prog_10_method_31_code 43 = .ok (.aload_n 0, 1) := zsh_g zdk_487 (r := 10) (k := 0) rfl rfl rfl
theorem zd_487_44 : decode prog_10_method_31_code 44 = .ok (.invokevirtual 73, 3) := zsh_g zdk_487 (r := 11) (k := 0) rfl rfl rfl
theorem zd_487_47 : decode prog_10_method_31_code 47 = .ok (.aload_n 0, 1) := zsh_g zdk_487 (r := 11) (k := 1) rfl rfl rfl
theorem zd_487_48 : decode prog_10_method_31_code 48 = .ok (.invokevirtual 255, 3) := zsh_g zdk_487 (r := 12) (k := 0) rfl rfl rfl
theorem zd_487_51 : decode prog_10_method_31_code 51 = .ok (.istore_n 2, 1) := zsh_g zdk_487 (r := 12) (k := 1) rfl rfl rfl
theorem zd_487_52 : decode prog_10_method_31_code 52 = .ok (.aload_n 0, 1) := zsh_g zdk_487 (r := 13) (k := 0) rfl rfl rfl
theorem zd_487_53 : decode prog_10_method_31_code 53 = .ok (.getfield 36, 3) := zsh_g zdk_487 (r := 13) (k := 1) rfl rfl rfl
theorem zd_487_56 : decode prog_10_method_31_code 56 = .ok (.bipush 32, 2) := zsh_g zdk_487 (r := 14) (k := 0) rfl rfl rfl
theorem zd_487_58 : decode prog_10_method_31_code 58 = .ok (.iconst 0, 1) := zsh_g zdk_487 (r := 14) (k := 1) rfl rfl rfl
theorem zd_487_59 : decode prog_10_method_31_code 59 = .ok (.iload_n 2, 1) := zsh_g zdk_487 (r := 14) (k := 2) rfl rfl rfl
theorem zd_487_60 : decode prog_10_method_31_code 60 = .ok (.invokevirtual 169, 3) := zsh_g zdk_487 (r := 15) (k := 0) rfl rfl rfl
theorem zd_487_63 : decode prog_10_method_31_code 63 = .ok (.aload_n 0, 1) := zsh_g zdk_487 (r := 15) (k := 1) rfl rfl rfl
theorem zd_487_64 : decode prog_10_method_31_code 64 = .ok (.iload_n 1, 1) := zsh_g zdk_487 (r := 16) (k := 0) rfl rfl rfl
theorem zd_487_65 : decode prog_10_method_31_code 65 = .ok (.invokevirtual 258, 3) := zsh_g zdk_487 (r := 16) (k := 1) rfl rfl rfl
theorem zd_487_68 : decode prog_10_method_31_code 68 = .ok (.aload_n 0, 1) := zsh_g zdk_487 (r := 17) (k := 0) rfl rfl rfl
theorem zd_487_69 : decode prog_10_method_31_code 69 = .ok (.invokevirtual 220, 3) := zsh_g zdk_487 (r := 17) (k := 1) rfl rfl rfl
theorem zd_487_72 : decode prog_10_method_31_code 72 = .ok (.aload_n 0, 1) := zsh_g zdk_487 (r := 18) (k := 0) rfl rfl rfl
theorem zd_487_73 : decode prog_10_method_31_code 73 = .ok (.iload_n 2, 1) := zsh_g zdk_487 (r := 18) (k := 1) rfl rfl rfl
theorem zd_487_74 : decode prog_10_method_31_code 74 = .ok (.invokevirtual 258, 3) := zsh_g zdk_487 (r := 18) (k := 2) rfl rfl rfl
def zdl_488 : List (List (Nat × Instr × Nat)) := [[(0, (.aload_n 0), 1), (1, (.invokevirtual 255), 3)], [(0, (.istore_n 1), 1), (1, (.aload_n 0), 1), (2, (.invokevirtual 255), 3)], [(1, (.istore_n 2), 1), (2, (.aload_n 0), 1), (3, (.iload_n 1), 1)], [(0, (.invokevirtual 258), 3), (3, (.aload_n 0), 1)], [(0, (.getfield 36), 3), (3, (.iconst 4), 1)], [(0, (.iconst 0), 1), (1, (.iconst 0), 1), (2, (.invokevirtual 169), 3)], [(1, (.aload_n 0), 1), (2, (.invokevirtual 241), 3)], [(1, (.ifCond .ne 4), 3)], [(1, (.aload_n 0), 1), (2, (.getfield 36), 3)], [(1, (.bipush 31), 2), (3, (.iconst 0), 1)], [(0, (.iload_n 2), 1), (1, (.invokevirtual 169), 3)], [(0, (.aload_n 0), 1), (1, (.invokevirtual 220), 3)], [(0, (.aload_n 0), 1), (1, (.getfield 36), 3)], [(0, (.bipush 32), 2), (2, (.iconst 0), 1), (3, (.iload_n 1), 1)], [(0, (.invokevirtual 169), 3), (3, (.aload_n 0), 1)], [(0, (.iload_n 2), 1), (1, (.invokevirtual 258), 3)]]
theorem zdk_488 : zsh_all 8 zdl_488 prog_10_method_32_code.data.toList = true := by decide +kernel
theorem zd_488_0 : decode prog_10_method_32_code 0 = .ok (.aload_n 0, 1) := zsh_g zdk_488 (r := 0) (k := 0) rfl rfl rfl
theorem zd_488_1 : decode prog_10_method_32_code 1 = .ok (.invokevirtual 255, 3) := zsh_g zdk_488 (r := 0) (k := 1) rfl rfl rfl
theorem zd_488_4 : decode prog_10_method_32_code 4 = .ok (.istore_n 1, 1) := zsh_g zdk_488 (r := 1) (k := 0) rfl rfl rfl
theorem zd_488_5 : decode prog_10_method_32_code 5 = .ok (.aload_n 0, 1) := zsh_g zdk_488 (r := 1) (k := 1) rfl rfl rfl
theorem zd_488_6 : decode prog_10_method_32_code 6 = .ok (.invokevirtual 255, 3) := zsh_g zdk_488 (r := 1) (k := 2) rfl rfl rfl
theorem zd_488_9 : decode prog_10_method_32_code 9 = .ok (.istore_n 2, 1) := zsh_g zdk_488 (r := 2) (k := 0) rfl rfl rfl
theorem zd_488_10 : decode prog_10_method_32_code 10 = .ok (.aload_n 0, 1) := zsh_g zdk_488 (r := 2) (k := 1) rfl rfl rfl
theorem zd_488_11 : decode prog_10_method_32_code 11 = .ok (.iload_n 1, 1) := zsh_g zdk_488 (r := 2) (k := 2) rfl rfl rfl
theorem zd_488_12 : decode prog_10_method_32_code 12 = .ok (.invokevirtual 258, 3) := zsh_g zdk_488 (r := 3) (k := 0) rfl rfl rfl
theorem zd_488_15 : decode prog_10_method_32_code 15 = .ok (.aload_n 0, 1) := zsh_g zdk_488 (r := 3) (k := 1) rfl rfl rfl
theorem zd_488_16 : decode prog_10_method_32_code 16 = .ok (.getfield 36, 3) := zsh_g zdk_488 (r := 4) (k := 0) rfl rfl rfl
theorem zd_488_19 : decode prog_10_method_32_code 19 = .ok (.iconst 4, 1) := zsh_g zdk_488 (r := 4) (k := 1) rfl rfl rfl
theorem zd_488_20 : decode prog_10_method_32_code 20 = .ok (.iconst 0, 1) := zsh_g zdk_488 (r := 5) (k := 0) rfl rfl rfl
theorem zd_488_21 : decode prog_10_method_32_code 21 = .ok (.iconst 0, 1) := zsh_g zdk_488 (r := 5) (k := 1) rfl rfl rfl
theorem zd_488_22 : decode prog_10_method_32_code 22 = .ok (.invokevirtual 169, 3) := zsh_g zdk_488 (r := 5) (k := 2) rfl rfl rfl
theorem zd_488_25 : decode prog_10_method_32_code 25 = .ok (.aload_n 0, 1) := zsh_g zdk_488 (r := 6) (k := 0) rfl rfl rfl
theorem zd_488_26 : decode prog_10_method_32_code 26 = .ok (.invokevirtual 241, 3) := zsh_g zdk_488 (r := 6) (k := 1) rfl rfl rfl
theorem zd_488_29 : decode prog_10_method_32_code 29 = .ok (.ifCond .ne 4, 3) := zsh_g zdk_488 (r := 7) (k := 0) rfl rfl rfl
theorem zd_488_33 : decode prog_10_method_32_code 33 = .ok (.aload_n 0, 1) := zsh_g zdk_488 (r := 8) (k := 0) rfl rfl rfl
theorem zd_488_34 : decode prog_10_method_32_code 34 = .ok (.getfield 36, 3) := zsh_g zdk_488 (r := 8) (k := 1) rfl rfl rfl
theorem zd_488_37 : decode prog_10_method_32_code 37 = .ok (.bipush 31, 2) := zsh_g zdk_488 (r := 9) (k := 0) rfl rfl rfl
theorem zd_488_39 : decode prog_10_method_32_code 39 = .ok (.iconst 0, 1) := zsh_g zdk_488 (r := 9) (k := 1) rfl rfl rfl
theorem zd_488_40 : decode prog_10_method_32_code 40 = .ok (.iload_n 2, 1) := zsh_g zdk_488 (r := 10) (k := 0) rfl rfl rfl
theorem zd_488_41 : decode prog_10_method_32_code 41 = .ok (.invokevirtual 169, 3) := zsh_g zdk_488 (r := 10) (k := 1) rfl rfl rfl
theorem zd_488_44 : decode prog_10_method_32_code 44 = .ok (.aload_n 0, 1) := zsh_g zdk_488 (r := 11) (k := 0) rfl rfl rfl
theorem zd_488_45 : decode prog_10_method_32_code 45 = .ok (.invokevirtual 220, 3) := zsh_g zdk_488 (r := 11) (k := 1) rfl rfl rfl
theorem zd_488_48 : decode prog_10_method_32_code 48 = .ok (.aload_n 0, 1) := zsh_g zdk_488 (r := 12) (k := 0) rfl rfl rfl
theorem zd_488_49 : decode prog_10_method_32_code 49 = .ok (.getfield 36, 3) := zsh_g zdk_488 (r := 12) (k := 1) rfl rfl rfl
theorem zd_488_52 : decode prog_10_method_32_code 52 = .ok (.bipush 32, 2) := zsh_g zdk_488 (r := 13) (k := 0) rfl rfl rfl
theorem zd_488_54 : decode prog_10_method_32_code 54 = .ok (.iconst 0, 1) := zsh_g zdk_488 (r := 13) (k := 1) rfl rfl rfl
theorem zd_488_55 : decode prog_10_method_32_code 55 = .ok (.iload_n 1, 1) := zsh_g zdk_488 (r := 13) (k := 2) rfl rfl rfl
theorem zd_488_56 : decode prog_10_method_32_code 56 = .ok (.invokevirtual 169, 3) := zsh_g zdk_488 (r := 14) (k := 0) rfl rfl rfl
theorem zd_488_59 : decode prog_10_method_32_code 59 = .ok (.aload_n 0, 1) := zsh_g zdk_488 (r := 14) (k := 1) rfl rfl rfl
theorem zd_488_60 : decode prog_10_method_32_code 60 = .ok (.iload_n 2, 1) := zsh_g zdk_488 (r := 15) (k := 0) rfl rfl rfl
theorem zd_488_61 : decode prog_10_method_32_code 61 = .ok (.invokevirtual 258, 3) := zsh_g zdk_488 (r := 15) (k := 1) rfl rfl rfl
def zdl_489 : List (List (Nat × Instr × Nat)) := [[(0, (.aload_n 0), 1), (1, (.iload_n 1), 1), (2, (.invokevirtual 261), 3)], [(1, (.aload_n 0), 1), (2, (.invokevirtual 69), 3)], [(1, (.invokestatic 264), 3)], [(0, (.istore_n 2), 1), (1, (.iload_n 2), 1), (2, (.bipush 25), 2)], [(0, (.if_icmp .lt 24), 3), (3, (.aload_n 0), 1)], [(0, (.invokevirtual 73), 3), (3, (.aload_n 0), 1)], [(0, (.iload_n 1), 1), (1, (.iconst 1), 1), (2, .iadd, 1), (3, (.invokevirtual 261), 3)], [(2, (.aload_n 0), 1), (3, (.getfield 36), 3)], [(2, (.iload_n 2), 1), (3, (.iload_n 1), 1)], [(0, (.iconst 0), 1), (1, (.invokevirtual 169), 3)]]
theorem zdk_489 : zsh_all 8 zdl_489 prog_10_method_35_code.data.toList = true := by decide +kernel
theorem zd_489_0 : decode prog_10_method_35_code 0 = .ok (.aload_n 0, 1) := zsh_g zdk_489 (r := 0) (k := 0) rfl rfl rfl
theorem zd_489_1 : decode prog_10_method_35_code 1 = .ok (.iload_n 1, 1) := zsh_g zdk_489 (r := 0) (k := 1) rfl rfl rfl
theorem zd_489_2 : decode prog_10_method_35_code 2 = .ok (.invokevirtual 261, 3) := zsh_g zdk_489 (r := 0) (k := 2) rfl rfl rfl
theorem zd_489_5 : decode prog_10_method_35_code 5 = .ok (.aload_n 0, 1) := zsh_g zdk_489 (r := 1) (k := 0) rfl rfl rfl
theorem zd_489_6 : decode prog_10_method_35_code 6 = .ok (.invokevirtual 69, 3) := zsh_g zdk_489 (r := 1) (k := 1) rfl rfl rfl
theorem zd_489_9 : decode prog_10_method_35_code 9 = .ok (.invokestatic 264, 3) := zsh_g zdk_489 (r := 2) (k := 0) rfl rfl rfl
theorem zd_489_12 : decode prog_10_method_35_code 12 = .ok (.istore_n 2, 1) := zsh_g zdk_489 (r := 3) (k := 0) rfl rfl rfl
theorem zd_489_13 : decode prog_10_method_35_code 13 = .ok (.iload_n 2, 1) := zsh_g zdk_489 (r := 3) (k := 1) rfl rfl rfl
theorem zd_489_14 : decode prog_10_method_35_code 14 = .ok (.bipush 25, 2) := zsh_g zdk_489 (r := 3) (k := 2) rfl rfl rfl
theorem zd_489_16 : decode prog_10_method_35_code 16 = .ok (.if_icmp .lt 24, 3) := zsh_g zdk_489 (r := 4) (k := 0) rfl rfl rfl
theorem zd_489_19 : decode prog_10_method_35_code 19 = .ok (.aload_n 0, 1) := zsh_g zdk_489 (r := 4) (k := 1) rfl rfl rfl
theorem zd_489_20 : decode prog_10_method_35_code 20 = .ok (.invokevirtual 73, 3) := zsh_g zdk_489 (r := 5) (k := 0) rfl rfl rfl
theorem zd_489_23 : decode prog_10_method_35_code 23 = .ok (.aload_n 0, 1) := zsh_g zdk_489 (r := 5) (k := 1) rfl rfl rfl
theorem zd_489_24 : decode prog_10_method_35_code 24 = .ok (.iload_n 1, 1) := zsh_g zdk_489 (r := 6) (k := 0) rfl rfl rfl
theorem zd_489_25 : decode prog_10_method_35_code 25 = .ok (.iconst 1, 1) := zsh_g zdk_489 (r := 6) (k := 1) rfl rfl rfl
theorem zd_489_26 : decode prog_10_method_35_code 26 = .ok (.iadd, 1) := zsh_g zdk_489 (r := 6) (k := 2) rfl rfl rfl
theorem zd_489_27 : decode prog_10_method_35_code 27 = .ok (.invokevirtual 261, 3) := zsh_g zdk_489 (r := 6) (k := 3) rfl rfl rfl
theorem zd_489_30 : decode prog_10_method_35_code 30 = .ok (.aload_n 0, 1) := zsh_g zdk_489 (r := 7) (k := 0) rfl rfl rfl
theorem zd_489_31 : decode prog_10_method_35_code 31 = .ok (.getfield 36, 3) := zsh_g zdk_489 (r := 7) (k := 1) rfl rfl rfl
theorem zd_489_34 : decode prog_10_method_35_code 34 = .ok (.iload_n 2, 1) := zsh_g zdk_489 (r := 8) (k := 0) rfl rfl rfl
theorem zd_489_35 : decode prog_10_method_35_code 35 = .ok (.iload_n 1, 1) := zsh_g zdk_489 (r := 8) (k := 1) rfl rfl rfl
theorem zd_489_36 : decode prog_10_method_35_code 36 = .ok (.iconst 0, 1) := zsh_g zdk_489 (r := 9) (k := 0) rfl rfl rfl
theorem zd_489_37 : decode prog_10_method_35_code 37 = .ok (.invokevirtual 169, 3) := zsh_g zdk_489 (r := 9) (k := 1) rfl rfl rfl
def zdl_490 : List (List (Nat × Instr × Nat)) := [[(0, (.aload_n 0), 1), (1, (.bipush 40), 2), (3, (.invokevirtual 172), 3)], [(2, (.ifCond .ne 5), 3)], [(1, (.iconst 0), 1), (3, (.aload_n 0), 1)], [(0, (.iconst 0), 1), (1, (.invokevirtual 238), 3)], [(0, (.aload_n 0), 1), (1, (.bipush 41), 2), (3, (.invokevirtual 175), 3)], [(2, (.aload_n 0), 1), (3, (.getfield 47), 3)], [(2, (.iconst (-1)), 1), (3, (.if_icmp .ne 7), 3)], [(2, (.iconst 1), 1), (3, (.goto 4), 3)], [(2, (.iconst 0), 1)]]
theorem zdk_490 : zsh_all 8 zdl_490 prog_10_method_30_code.data.toList = true := by decide +kernel
theorem zd_490_0 : decode prog_10_method_30_code 0 = .ok (.aload_n 0, 1) := zsh_g zdk_490 (r := 0) (k := 0) rfl rfl rfl
theorem zd_490_1 : decode prog_10_method_30_code 1 = .ok (.bipush 40, 2) := zsh_g zdk_490 (r := 0) (k := 1) rfl rfl rfl
theorem zd_490_3 : decode prog_10_method_30_code 3 = .ok (.invokevirtual 172, 3) := zsh_g zdk_490 (r := 0) (k := 2) rfl rfl rfl
theorem zd_490_6 : decode prog_10_method_30_code 6 = .ok (.ifCond .ne 5, 3) := zsh_g zdk_490 (r := 1) (k := 0) rfl rfl rfl
theorem zd_490_9 : decode prog_10_method_30_code 9 = .ok (.iconst 0, 1) := zsh_g zdk_490 (r := 2) (k := 0) rfl rfl rfl
theorem zd_490_11 : decode prog_10_method_30_code 11 = .ok (.aload_n 0, 1) := zsh_g zdk_490 (r := 2) (k := 1) rfl rfl rfl
theorem zd_490_12 : decode prog_10_method_30_code 12 = .ok (.iconst 0, 1) := zsh_g zdk_490 (r := 3) (k := 0) rfl rfl rfl
theorem zd_490_13 : decode prog_10_method_30_code 13 = .ok (.invokevirtual 238, 3) := zsh_g zdk_490 (r := 3) (k := 1) rfl rfl rfl
theorem zd_490_16 : decode prog_10_method_30_code 16 = .ok (.aload_n 0, 1) := zsh_g zdk_490 (r := 4) (k := 0) rfl rfl rfl
theorem zd_490_17 : decode prog_10_method_30_code 17 = .ok (.bipush 41, 2) := zsh_g zdk_490 (r := 4) (k := 1) rfl rfl rfl
theorem zd_490_19 : decode prog_10_method_30_code 19 = .ok (.invokevirtual 175, 3) := zsh_g zdk_490 (r := 4) (k := 2) rfl rfl rfl
theorem zd_490_22 : decode prog_10_method_30_code 22 = .ok (.aload_n 0, 1) := zsh_g zdk_490 (r := 5) (k := 0) rfl rfl rfl
theorem zd_490_23 : decode prog_10_method_30_code 23 = .ok (.getfield 47, 3) := zsh_g zdk_490 (r := 5) (k := 1) rfl rfl rfl
theorem zd_490_26 : decode prog_10_method_30_code 26 = .ok (.iconst (-1), 1) := zsh_g zdk_490 (r := 6) (k := 0) rfl rfl rfl
theorem zd_490_27 : decode prog_10_method_30_code 27 = .ok (.if_icmp .ne 7, 3) := zsh_g zdk_490 (r := 6) (k := 1) rfl rfl rfl
theorem zd_490_30 : decode prog_10_method_30_code 30 = .ok (.iconst 1, 1) := zsh_g zdk_490 (r := 7) (k := 0) rfl rfl rfl
theorem zd_490_31 : decode prog_10_method_30_code 31 = .ok (.goto 4, 3) := zsh_g zdk_490 (r := 7) (k := 1) rfl rfl rfl
theorem zd_490_34 : decode prog_10_method_30_code 34 = .ok (.iconst 0, 1) := zsh_g zdk_490 (r := 8) (k := 0) rfl rfl rfl
def zdl_491 : List (List (Nat × Instr × Nat)) := [[(0, (.iload_n 0), 1), (1, (.bipush 43), 2), (3, (.if_icmp .eq 15), 3)], [(2, (.iload_n 0), 1), (3, (.bipush 46), 2)], [(1, (.if_icmp .eq 9), 3)], [(0, (.iload_n 0), 1), (1, (.bipush 48), 2), (3, (.if_icmp .ne 5), 3)], [(2, (.iconst 1), 1)], [(0, (.iload_n 0), 1), (1, (.bipush 44), 2), (3, (.if_icmp .eq 15), 3)], [(2, (.iload_n 0), 1), (3, (.bipush 47), 2)], [(1, (.if_icmp .eq 9), 3)], [(0, (.iload_n 0), 1), (1, (.bipush 49), 2), (3, (.if_icmp .ne 7), 3)], [(2, (.iconst 2), 1), (3, (.goto 4), 3)], [(2, (.iconst 4), 1)]]
theorem zdk_491 : zsh_all 8 zdl_491 prog_7_method_20_code.data.toList = true := by decide +kernel
theorem zd_491_0 : decode prog_7_method_20_code 0 = .ok (.iload_n 0, 1) := zsh_g zdk_491 (r := 0) (k := 0) rfl rfl rfl
theorem zd_491_1 : decode prog_7_method_20_code 1 = .ok (.bipush 43, 2) := zsh_g zdk_491 (r := 0) (k := 1) rfl rfl rfl
theorem zd_491_3 : decode prog_7_method_20_code 3 = .ok (.if_icmp .eq 15, 3) := zsh_g zdk_491 (r := 0) (k := 2) rfl rfl rfl
theorem zd_491_6 : decode prog_7_method_20_code 6 = .ok (.iload_n 0, 1) := zsh_g zdk_491 (r := 1) (k := 0) rfl rfl rfl
theorem zd_491_7 : decode prog_7_method_20_code 7 = .ok (.bipush 46, 2) := zsh_g zdk_491 (r := 1) (k := 1) rfl rfl rfl
theorem zd_491_9 : decode prog_7_method_20_code 9 = .ok (.if_icmp .eq 9, 3) := zsh_g zdk_491 (r := 2) (k := 0) rfl rfl rfl
theorem zd_491_12 : decode prog_7_method_20_code 12 = .ok (.iload_n 0, 1) := zsh_g zdk_491 (r := 3) (k := 0) rfl rfl rfl
theorem zd_491_13 : decode prog_7_method_20_code 13 = .ok (.bipush 48, 2) := zsh_g zdk_491 (r := 3) (k := 1) rfl rfl rfl
theorem zd_491_15 : decode prog_7_method_20_code 15 = .ok (.if_icmp .ne 5, 3) := zsh_g zdk_491 (r := 3) (k := 2) rfl rfl rfl
theorem zd_491_18 : decode prog_7_method_20_code 18 = .ok (.iconst 1, 1) := zsh_g zdk_491 (r := 4) (k := 0) rfl rfl rfl
theorem zd_491_20 : decode prog_7_method_20_code 20 = .ok (.iload_n 0, 1) := zsh_g zdk_491 (r := 5) (k := 0) rfl rfl rfl
theorem zd_491_21 : decode prog_7_method_20_code 21 = .ok (.bipush 44, 2) := zsh_g zdk_491 (r := 5) (k := 1) rfl rfl rfl
theorem zd_491_23 : decode prog_7_method_20_code 23 = .ok (.if_icmp .eq 15, 3) := zsh_g zdk_491 (r := 5) (k := 2) rfl rfl rfl
theorem zd_491_26 : decode prog_7_method_20_code 26 = .ok (.iload_n 0, 1) := zsh_g zdk_491 (r := 6) (k := 0) rfl rfl rfl
theorem zd_491_27 : decode prog_7_method_20_code 27 = .ok (.bipush 47, 2) := zsh_g zdk_491 (r := 6) (k := 1) rfl rfl rfl
theorem zd_491_29 : decode prog_7_method_20_code 29 = .ok (.if_icmp .eq 9, 3) := zsh_g zdk_491 (r := 7) (k := 0) rfl rfl rfl
theorem zd_491_32 : decode prog_7_method_20_code 32 = .ok (.iload_n 0, 1) := zsh_g zdk_491 (r := 8) (k := 0) rfl rfl rfl
theorem zd_491_33 : decode prog_7_method_20_code 33 = .ok (.bipush 49, 2) := zsh_g zdk_491 (r := 8) (k := 1) rfl rfl rfl
theorem zd_491_35 : decode prog_7_method_20_code 35 = .ok (.if_icmp .ne 7, 3) := zsh_g zdk_491 (r := 8) (k := 2) rfl rfl rfl
theorem zd_491_38 : decode prog_7_method_20_code 38 = .ok (.iconst 2, 1) := zsh_g zdk_491 (r := 9) (k := 0) rfl rfl rfl
theorem zd_491_39 : decode prog_7_method_20_code 39 = .ok (.goto 4, 3) := zsh_g zdk_491 (r := 9) (k := 1) rfl rfl rfl
theorem zd_491_42 : decode prog_7_method_20_code 42 = .ok (.iconst 4, 1) := zsh_g zdk_491 (r := 10) (k := 0) rfl rfl rfl
def zdl_492 : List (List (Nat × Instr × Nat)) := [[(0, (.aload_n 0), 1), (1, (.getfield 15), 3)], [(0, .arraylength, 1), (1, (.istore_n 2), 1), (2, (.iload_n 1), 1), (3, (.aload_n 0), 1)], [(0, (.getfield 22), 3), (3, .ishl, 1)], [(0, (.istore_n 3), 1), (1, (.iload_n 3), 1), (2, (.iload_n 2), 1), (3, .isub, 1)], [(0, (.istore 4), 2), (2, (.iload_n 2), 1), (3, (.iload 4), 2)], [(1, (.iload_n 2), 1), (2, (.iconst 2), 1), (3, (.aload_n 0), 1)], [(0, (.getfield 22), 3), (3, .ishl, 1)], [(0, .iadd, 1), (1, (.invokestatic 114), 3)], [(0, (.istore 5), 2), (2, (.iload 5), 2)], [(0, (.ldc 39), 2), (2, (.if_icmp .ne 13), 3)], [], [], [(3, (.iload 5), 2)], [(1, (.aload_n 0), 1), (2, (.getfield 22), 3)], [(1, .ishr, 1)]]
theorem zdk_492 : zsh_all 8 zdl_492 prog_15_method_10_code.data.toList = true := by decide +kernel
theorem zd_492_0 : decode prog_15_method_10_code 0 = .ok (.aload_n 0, 1) := zsh_g zdk_492 (r := 0) (k := 0) rfl rfl rfl
theorem zd_492_1 : decode prog_15_method_10_code 1 = .ok (.getfield 15, 3) := zsh_g zdk_492 (r := 0) (k := 1) rfl rfl rfl
theorem zd_492_4 : decode prog_15_method_10_code 4 = .ok (.arraylength, 1) := zsh_g zdk_492 (r := 1) (k := 0) rfl rfl rfl
theorem zd_492_5 : decode prog_15_method_10_code 5 = .ok (.istore_n 2, 1) := zsh_g zdk_492 (r := 1) (k := 1) rfl rfl rfl
theorem zd_492_6 : decode prog_15_method_10_code 6 = .ok (.iload_n 1, 1) := zsh_g zdk_492 (r := 1) (k := 2) rfl rfl rfl
theorem zd_492_7 : decode prog_15_method_10_code 7 = .ok (.aload_n 0, 1) := zsh_g zdk_492 (r := 1) (k := 3) rfl rfl rfl
theorem zd_492_8 : decode prog_15_method_10_code 8 = .ok (.getfield 22, 3) := zsh_g zdk_492 (r := 2) (k := 0) rfl rfl rfl
theorem zd_492_11 : decode prog_15_method_10_code 11 = .ok (.ishl, 1) := zsh_g zdk_492 (r := 2) (k := 1) rfl rfl rfl
theorem zd_492_12 : decode prog_15_method_10_code 12 = .ok (.istore_n 3, 1) := zsh_g zdk_492 (r := 3) (k := 0) rfl rfl rfl
theorem zd_492_13 : decode prog_15_method_10_code 13 = .ok (.iload_n 3, 1) := zsh_g zdk_492 (r := 3) (k := 1) rfl rfl rfl
theorem zd_492_14 : decode prog_15_method_10_code 14 = .ok (.iload_n 2, 1) := zsh_g zdk_492 (r := 3) (k := 2) rfl rfl rfl
theorem zd_492_15 : decode prog_15_method_10_code 15 = .ok (.isub, 1) := zsh_g zdk_492 (r := 3) (k := 3) rfl rfl rfl
theorem zd_492_16 : decode prog_15_method_10_code 16 = .ok (.istore 4, 2) := zsh_g zdk_492 (r := 4) (k := 0) rfl rfl rfl
theorem zd_492_18 : decode prog_15_method_10_code 18 = .ok (.iload_n 2, 1) := zsh_g zdk_492 (r := 4) (k := 1) rfl rfl rfl
theorem zd_492_19 : decode prog_15_method_10_code 19 = .ok (.iload 4, 2) := zsh_g zdk_492 (r := 4) (k := 2) rfl rfl rfl
theorem zd_492_21 : decode prog_15_method_10_code 21 = .ok (.iload_n 2, 1) := zsh_g zdk_492 (r := 5) (k := 0) rfl rfl rfl
theorem zd_492_22 : decode prog_15_method_10_code 22 = .ok (.iconst 2, 1) := zsh_g zdk_492 (r := 5) (k := 1) rfl rfl rfl
theorem zd_492_23 : decode prog_15_method_10_code 23 = .ok (.aload_n 0, 1) := zsh_g zdk_492 (r := 5) (k := 2) rfl rfl rfl
theorem zd_492_24 : decode prog_15_method_10_code 24 = .ok (.getfield 22, 3) := zsh_g zdk_492 (r := 6) (k := 0) rfl rfl rfl
theorem zd_492_27 : decode prog_15_method_10_code 27 = .ok (.ishl, 1) := zsh_g zdk_492 (r := 6) (k := 1) rfl rfl rfl
theorem zd_492_28 : decode prog_15_method_10_code 28 = .ok (.iadd, 1) := zsh_g zdk_492 (r := 7) (k := 0) rfl rfl rfl
theorem zd_492_29 : decode prog_15_method_10_code 29 = .ok (.invokestatic 114, 3) := zsh_g zdk_492 (r := 7) (k := 1) rfl rfl rfl
theorem zd_492_32 : decode prog_15_method_10_code 32 = .ok (.istore 5, 2) := zsh_g zdk_492 (r := 8) (k := 0) rfl rfl rfl
theorem zd_492_34 : decode prog_15_method_10_code 34 = .ok (.iload 5, 2) := zsh_g zdk_492 (r := 8) (k := 1) rfl rfl rfl
theorem zd_492_36 : decode prog_15_method_10_code 36 = .ok (.ldc 39, 2) := zsh_g zdk_492 (r := 9) (k := 0) rfl rfl rfl
theorem zd_492_38 : decode prog_15_method_10_code 38 = .ok (.if_icmp .ne 13, 3) := zsh_g zdk_492 (r := 9) (k := 1) rfl rfl rfl
theorem zd_492_51 : decode prog_15_method_10_code 51 = .ok (.iload 5, 2) := zsh_g zdk_492 (r := 12) (k := 0) rfl rfl rfl
theorem zd_492_53 : decode prog_15_method_10_code 53 = .ok (.aload_n 0, 1) := zsh_g zdk_492 (r := 13) (k := 0) rfl rfl rfl
theorem zd_492_54 : decode prog_15_method_10_code 54 = .ok (.getfield 22, 3) := zsh_g zdk_492 (r := 13) (k := 1) rfl rfl rfl
theorem zd_492_57 : decode prog_15_method_10_code 57 = .ok (.ishr, 1) := zsh_g zdk_492 (r := 14) (k := 0) rfl rfl rfl
def zdl_493 : List (List (Nat × Instr × Nat)) := [[(0, (.iload_n 1), 1), (1, (.aload_n 0), 1), (2, .arraylength, 1), (3, (.if_icmp .ne 11), 3)], [(2, (.aload_n 0), 1)], [], [(2, (.iload_n 1), 1), (3, (.newarray .byte), 2)], [(1, (.astore_n 2), 1), (2, (.aload_n 0), 1), (3, (.iconst 0), 1)], [(0, (.aload_n 2), 1), (1, (.iconst 0), 1), (2, (.aload_n 0), 1), (3, .arraylength, 1)], [(0, (.iload_n 1), 1), (1, (.invokestatic 304), 3)], [(0, (.invokestatic 150), 3), (3, (.aload_n 2), 1)]]
theorem zdk_493 : zsh_all 8 zdl_493 prog_34_method_121_code.data.toList = true := by decide +kernel
theorem zd_493_0 : decode prog_34_method_121_code 0 = .ok (.iload_n 1, 1) := zsh_g zdk_493 (r := 0) (k := 0) rfl rfl rfl
theorem zd_493_1 : decode prog_34_method_121_code 1 = .ok (.aload_n 0, 1) := zsh_g zdk_493 (r := 0) (k := 1) rfl rfl rfl
theorem zd_493_2 : decode prog_34_method_121_code 2 = .ok (.arraylength, 1) := zsh_g zdk_493 (r := 0) (k := 2) rfl rfl rfl
theorem zd_493_3 : decode prog_34_method_121_code 3 = .ok (.if_icmp .ne 11, 3) := zsh_g zdk_493 (r := 0) (k := 3) rfl rfl rfl
theorem zd_493_6 : decode prog_34_method_121_code 6 = .ok (.aload_n 0, 1) := zsh_g zdk_493 (r := 1) (k := 0) rfl rfl rfl
theorem zd_493_14 : decode prog_34_method_121_code 14 = .ok (.iload_n 1, 1) := zsh_g zdk_493 (r := 3) (k := 0) rfl rfl rfl
theorem zd_493_15 : decode prog_34_method_121_code 15 = .ok (.newarray .byte, 2) := zsh_g zdk_493 (r := 3) (k := 1) rfl rfl rfl
theorem zd_493_17 : decode prog_34_method_121_code 17 = .ok (.astore_n 2, 1) := zsh_g zdk_493 (r := 4) (k := 0) rfl rfl rfl
theorem zd_493_18 : decode prog_34_method_121_code 18 = .ok (.aload_n 0, 1) := zsh_g zdk_493 (r := 4) (k := 1) rfl rfl rfl
theorem zd_493_19 : decode prog_34_method_121_code 19 = .ok (.iconst 0, 1) := zsh_g zdk_493 (r := 4) (k := 2) rfl rfl rfl
theorem zd_493_20 : decode prog_34_method_121_code 20 = .ok (.aload_n 2, 1) := zsh_g zdk_493 (r := 5) (k := 0) rfl rfl rfl
theorem zd_493_21 : decode prog_34_method_121_code 21 = .ok (.iconst 0, 1) := zsh_g zdk_493 (r := 5) (k := 1) rfl rfl rfl
theorem zd_493_22 : decode prog_34_method_121_code 22 = .ok (.aload_n 0, 1) := zsh_g zdk_493 (r := 5) (k := 2) rfl rfl rfl
theorem zd_493_23 : decode prog_34_method_121_code 23 = .ok (.arraylength, 1) := zsh_g zdk_493 (r := 5) (k := 3) rfl rfl rfl
theorem zd_493_24 : decode prog_34_method_121_code 24 = .ok (.iload_n 1, 1) := zsh_g zdk_493 (r := 6) (k := 0) rfl rfl rfl
theorem zd_493_25 : decode prog_34_method_121_code 25 = .ok (.invokestatic 304, 3) := zsh_g zdk_493 (r := 6) (k := 1) rfl rfl rfl
theorem zd_493_28 : decode prog_34_method_121_code 28 = .ok (.invokestatic 150, 3) := zsh_g zdk_493 (r := 7) (k := 0) rfl rfl rfl
theorem zd_493_31 : decode prog_34_method_121_code 31 = .ok (.aload_n 2, 1) := zsh_g zdk_493 (r := 7) (k := 1) rfl rfl rfl
def zdl_494 : List (List (Nat × Instr × Nat)) := [[(0, (.aload_n 0), 1), (1, .arraylength, 1), (2, (.iload_n 1), 1), (3, (.iload_n 2), 1)], [(0, (.invokestatic 13), 3), (3, (.iload_n 1), 1)], [(0, (.istore 4), 2), (2, (.iload 4), 2)], [(0, (.iload_n 2), 1), (1, (.if_icmp .ge 14), 3)], [(0, (.aload_n 0), 1), (1, (.iload 4), 2), (3, (.iload_n 3), 1)], [(0, .bastore, 1), (1, (.iinc 4 1), 3)], [(0, (.goto (-14)), 3)]]
theorem zdk_494 : zsh_all 8 zdl_494 prog_34_method_110_code.data.toList = true := by decide +kernel
theorem zd_494_0 : decode prog_34_method_110_code 0 = .ok (.aload_n 0, 1) := zsh_g zdk_494 (r := 0) (k := 0) rfl rfl rfl
theorem zd_494_1 : decode prog_34_method_110_code 1 = .ok (.arraylength, 1) := zsh_g zdk_494 (r := 0) (k := 1) rfl rfl rfl
theorem zd_494_2 : decode prog_34_method_110_code 2 = .ok (.iload_n 1, 1) := zsh_g zdk_494 (r := 0) (k := 2) rfl rfl rfl
theorem zd_494_3 : decode prog_34_method_110_code 3 = .ok (.iload_n 2, 1) := zsh_g zdk_494 (r := 0) (k := 3) rfl rfl rfl
theorem zd_494_4 : decode prog_34_method_110_code 4 = .ok (.invokestatic 13, 3) := zsh_g zdk_494 (r := 1) (k := 0) rfl rfl rfl
theorem zd_494_7 : decode prog_34_method_110_code 7 = .ok (.iload_n 1, 1) := zsh_g zdk_494 (r := 1) (k := 1) rfl rfl rfl
theorem zd_494_8 : decode prog_34_method_110_code 8 = .ok (.istore 4, 2) := zsh_g zdk_494 (r := 2) (k := 0) rfl rfl rfl
theorem zd_494_10 : decode prog_34_method_110_code 10 = .ok (.iload 4, 2) := zsh_g zdk_494 (r := 2) (k := 1) rfl rfl rfl
theorem zd_494_12 : decode prog_34_method_110_code 12 = .ok (.iload_n 2, 1) := zsh_g zdk_494 (r := 3) (k := 0) rfl rfl rfl
theorem zd_494_13 : decode prog_34_method_110_code 13 = .ok (.if_icmp .ge 14, 3) := zsh_g zdk_494 (r := 3) (k := 1) rfl rfl rfl
theorem zd_494_16 : decode prog_34_method_110_code 16 = .ok (.aload_n 0, 1) := zsh_g zdk_494 (r := 4) (k := 0) rfl rfl rfl
theorem zd_494_17 : decode prog_34_method_110_code 17 = .ok (.iload 4, 2) := zsh_g zdk_494 (r := 4) (k := 1) rfl rfl rfl
theorem zd_494_19 : decode prog_34_method_110_code 19 = .ok (.iload_n 3, 1) := zsh_g zdk_494 (r := 4) (k := 2) rfl rfl rfl
theorem zd_494_20 : decode prog_34_method_110_code 20 = .ok (.bastore, 1) := zsh_g zdk_494 (r := 5) (k := 0) rfl rfl rfl
theorem zd_494_21 : decode prog_34_method_110_code 21 = .ok (.iinc 4 1, 3) := zsh_g zdk_494 (r := 5) (k := 1) rfl rfl rfl
theorem zd_494_24 : decode prog_34_method_110_code 24 = .ok (.goto (-14), 3) := zsh_g zdk_494 (r := 6) (k := 0) rfl rfl rfl
def zdl_495 : List (List (Nat × Instr × Nat)) := [[(0, (.iload_n 1), 1), (1, (.iconst 4), 1), (2, .iadd, 1), (3, (.istore 6), 2)], [(1, (.iload_n 1), 1), (2, (.iload 6), 2)], [(0, (.aload_n 0), 1), (1, (.invokestatic 96), 3)], [(0, (.aload_n 0), 1), (1, (.iload_n 1), 1), (2, (.iinc 1 1), 3)], [(1, (.iload_n 2), 1), (2, (.invokestatic 111), 3)], [(1, (.aload_n 0), 1), (2, (.iload_n 1), 1), (3, (.iinc 1 1), 3)], [(2, (.iload_n 3), 1), (3, (.invokestatic 111), 3)], [(2, (.aload_n 0), 1), (3, (.iload_n 1), 1)], [(0, (.iinc 1 1), 3), (3, (.iload 4), 2)], [(1, (.invokestatic 111), 3)], [(0, (.aload_n 0), 1), (1, (.iload_n 1), 1), (2, (.iinc 1 1), 3)], [(1, (.iload 5), 2), (3, (.invokestatic 111), 3)], [(2, (.getstatic 44), 3)], [(1, (.ifCond .ne 17), 3)], [(0, (.iload_n 1), 1), (1, (.iload 6), 2), (3, (.if_icmp .eq 11), 3)], [], [], [(2, (.iload 6), 2)]]
theorem zdk_495 : zsh_all 8 zdl_495 prog_30_method_81_code.data.toList = true := by decide +kernel
theorem zd_495_0 : decode prog_30_method_81_code 0 = .ok (.iload_n 1, 1) := zsh_g zdk_495 (r := 0) (k := 0) rfl rfl rfl
theorem zd_495_1 : decode prog_30_method_81_code 1 = .ok (.iconst 4, 1) := zsh_g zdk_495 (r := 0) (k := 1) rfl rfl rfl
theorem zd_495_2 : decode prog_30_method_81_code 2 = .ok (.iadd, 1) := zsh_g zdk_495 (r := 0) (k := 2) rfl rfl rfl
theorem zd_495_3 : decode prog_30_method_81_code 3 = .ok (.istore 6, 2) := zsh_g zdk_495 (r := 0) (k := 3) rfl rfl rfl
theorem zd_495_5 : decode prog_30_method_81_code 5 = .ok (.iload_n 1, 1) := zsh_g zdk_495 (r := 1) (k := 0) rfl rfl rfl
theorem zd_495_6 : decode prog_30_method_81_code 6 = .ok (.iload 6, 2) := zsh_g zdk_495 (r := 1) (k := 1) rfl rfl rfl
theorem zd_495_8 : decode prog_30_method_81_code 8 = .ok (.aload_n 0, 1) := zsh_g zdk_495 (r := 2) (k := 0) rfl rfl rfl
theorem zd_495_9 : decode prog_30_method_81_code 9 = .ok (.invokestatic 96, 3) := zsh_g zdk_495 (r := 2) (k := 1) rfl rfl rfl
theorem zd_495_12 : decode prog_30_method_81_code 12 = .ok (.aload_n 0, 1) := zsh_g zdk_495 (r := 3) (k := 0) rfl rfl rfl
theorem zd_495_13 : decode prog_30_method_81_code 13 = .ok (.iload_n 1, 1) := zsh_g zdk_495 (r := 3) (k := 1) rfl rfl rfl
theorem zd_495_14 : decode prog_30_method_81_code 14 = .ok (.iinc 1 1, 3) := zsh_g zdk_495 (r := 3) (k := 2) rfl rfl rfl
theorem zd_495_17 : decode prog_30_method_81_code 17 = .ok (.iload_n 2, 1) := zsh_g zdk_495 (r := 4) (k := 0) rfl rfl rfl
theorem zd_495_18 : decode prog_30_method_81_code 18 = .ok (.invokestatic 111, 3) := zsh_g zdk_495 (r := 4) (k := 1) rfl rfl rfl
theorem zd_495_21 : decode prog_30_method_81_code 21 = .ok (.aload_n 0, 1) := zsh_g zdk_495 (r := 5) (k := 0) rfl rfl rfl
theorem zd_495_22 : decode prog_30_method_81_code 22 = .ok (.iload_n 1, 1) := zsh_g zdk_495 (r := 5) (k := 1) rfl rfl rfl
theorem zd_495_23 : decode prog_30_method_81_code 23 = .ok (.iinc 1 1, 3) := zsh_g zdk_495 (r := 5) (k := 2) rfl rfl rfl
theorem zd_495_26 : decode prog_30_method_81_code 26 = .ok (.iload_n 3, 1) := zsh_g zdk_495 (r := 6) (k := 0) rfl rfl rfl
theorem zd_495_27 : decode prog_30_method_81_code 27 = .ok (.invokestatic 111, 3) := zsh_g zdk_495 (r := 6) (k := 1) rfl rfl rfl
theorem zd_495_30 : decode prog_30_method_81_code 30 = .ok (.aload_n 0, 1) := zsh_g zdk_495 (r := 7) (k := 0) rfl rfl rfl
theorem zd_495_31 : decode prog_30_method_81_code 31 = .ok (.iload_n 1, 1) := zsh_g zdk_495 (r := 7) (k := 1) rfl rfl rfl
theorem zd_495_32 : decode prog_30_method_81_code 32 = .ok (.iinc 1 1, 3) := zsh_g zdk_495 (r := 8) (k := 0) rfl rfl rfl
theorem zd_495_35 : decode prog_30_method_81_code 35 = .ok (.iload 4, 2) := zsh_g zdk_495 (r := 8) (k := 1) rfl rfl rfl
theorem zd_495_37 : decode prog_30_method_81_code 37 = .ok (.invokestatic 111, 3) := zsh_g zdk_495 (r := 9) (k := 0) rfl rfl rfl
theorem zd_495_40 : decode prog_30_method_81_code 40 = .ok (.aload_n 0, 1) := zsh_g zdk_495 (r := 10) (k := 0) rfl rfl rfl
theorem zd_495_41 : decode prog_30_method_81_code 41 = .ok (.iload_n 1, 1) := zsh_g zdk_495 (r := 10) (k := 1) rfl rfl rfl
theorem zd_495_42 : decode prog_30_method_81_code 42 = .ok (.iinc 1 1, 3) := zsh_g zdk_495 (r := 10) (k := 2) rfl rfl rfl
theorem zd_495_45 : decode prog_30_method_81_code 45 = .ok (.iload 5, 2) := zsh_g zdk_495 (r := 11) (k := 0) rfl rfl rfl
theorem zd_495_47 : decode prog_30_method_81_code 47 = .ok (.invokestatic 111, 3) := zsh_g zdk_495 (r := 11) (k := 1) rfl rfl rfl
theorem zd_495_50 : decode prog_30_method_81_code 50 = .ok (.getstatic 44, 3) := zsh_g zdk_495 (r := 12) (k := 0) rfl rfl rfl
theorem zd_495_53 : decode prog_30_method_81_code 53 = .ok (.ifCond .ne 17, 3) := zsh_g zdk_495 (r := 13) (k := 0) rfl rfl rfl
theorem zd_495_56 : decode prog_30_method_81_code 56 = .ok (.iload_n 1, 1) := zsh_g zdk_495 (r := 14) (k := 0) rfl rfl rfl
theorem zd_495_57 : decode prog_30_method_81_code 57 = .ok (.iload 6, 2) := zsh_g zdk_495 (r := 14) (k := 1) rfl rfl rfl
theorem zd_495_59 : decode prog_30_method_81_code 59 = .ok (.if_icmp .eq 11, 3) := zsh_g zdk_495 (r := 14) (k := 2) rfl rfl rfl
theorem zd_495_70 : decode prog_30_method_81_code 70 = .ok (.iload 6, 2) := zsh_g zdk_495 (r := 17) (k := 0) rfl rfl rfl
def zdl_496 : List (List (Nat × Instr × Nat)) := [[(0, (.getstatic 18), 3), (3, (.ifCond .eq 18), 3)], [(2, (.aload_n 0), 1), (3, (.getfield 22), 3)], [(2, (.aload_n 1), 1), (3, (.invokevirtual 40), 3)], [(2, (.if_icmp .eq 7), 3)], [(1, (.aload_n 0), 1), (2, (.invokevirtual 195), 3)]]
theorem zdk_496 : zsh_all 8 zdl_496 prog_15_method_71_code.data.toList = true := by decide +kernel
theorem zd_496_0 : decode prog_15_method_71_code 0 = .ok (.getstatic 18, 3) := zsh_g zdk_496 (r := 0) (k := 0) rfl rfl rfl
theorem zd_496_3 : decode prog_15_method_71_code 3 = .ok (.ifCond .eq 18, 3) := zsh_g zdk_496 (r := 0) (k := 1) rfl rfl rfl
theorem zd_496_6 : decode prog_15_method_71_code 6 = .ok (.aload_n 0, 1) := zsh_g zdk_496 (r := 1) (k := 0) rfl rfl rfl
theorem zd_496_7 : decode prog_15_method_71_code 7 = .ok (.getfield 22, 3) := zsh_g zdk_496 (r := 1) (k := 1) rfl rfl rfl
theorem zd_496_10 : decode prog_15_method_71_code 10 = .ok (.aload_n 1, 1) := zsh_g zdk_496 (r := 2) (k := 0) rfl rfl rfl
theorem zd_496_11 : decode prog_15_method_71_code 11 = .ok (.invokevirtual 40, 3) := zsh_g zdk_496 (r := 2) (k := 1) rfl rfl rfl
theorem zd_496_14 : decode prog_15_method_71_code 14 = .ok (.if_icmp .eq 7, 3) := zsh_g zdk_496 (r := 3) (k := 0) rfl rfl rfl
theorem zd_496_17 : decode prog_15_method_71_code 17 = .ok (.aload_n 0, 1) := zsh_g zdk_496 (r := 4) (k := 0) rfl rfl rfl
theorem zd_496_18 : decode prog_15_method_71_code 18 = .ok (.invokevirtual 195, 3) := zsh_g zdk_496 (r := 4) (k := 1) rfl rfl rfl
def zdl_497 : List (List (Nat × Instr × Nat)) := [[(0, (.aload_n 0), 1), (1, (.invokevirtual 335), 3)], [(0, (.iload_n 3), 1), (1, (.if_icmp .ne 23), 3)], [(0, (.aload_n 0), 1), (1, (.getfield 9), 3)], [(0, (.iconst 0), 1), (1, (.aload_n 1), 1), (2, (.iload_n 2), 1), (3, (.iload_n 3), 1)], [(0, .ishl, 1), (1, (.aload_n 0), 1), (2, (.getfield 9), 3)], [(1, .arraylength, 1), (2, (.invokestatic 212), 3)], [(1, (.goto 18), 3)], [(0, (.aload_n 0), 1), (1, (.getfield 9), 3)], [(0, (.iconst 0), 1), (1, (.aload_n 1), 1), (2, (.iload_n 2), 1), (3, (.aload_n 0), 1)], [(0, (.getfield 9), 3), (3, .arraylength, 1)], [(0, (.invokestatic 106), 3)]]
theorem zdk_497 : zsh_all 8 zdl_497 prog_26_method_147_code.data.toList = true := by decide +kernel
theorem zd_497_0 : decode prog_26_method_147_code 0 = .ok (.aload_n 0, 1) := zsh_g zdk_497 (r := 0) (k := 0) rfl rfl rfl
theorem zd_497_1 : decode prog_26_method_147_code 1 = .ok (.invokevirtual 335, 3) := zsh_g zdk_497 (r := 0) (k := 1) rfl rfl rfl
theorem zd_497_4 : decode prog_26_method_147_code 4 = .ok (.iload_n 3, 1) := zsh_g zdk_497 (r := 1) (k := 0) rfl rfl rfl
theorem zd_497_5 : decode prog_26_method_147_code 5 = .ok (.if_icmp .ne 23, 3) := zsh_g zdk_497 (r := 1) (k := 1) rfl rfl rfl
theorem zd_497_8 : decode prog_26_method_147_code 8 = .ok (.aload_n 0, 1) := zsh_g zdk_497 (r := 2) (k := 0) rfl rfl rfl
theorem zd_497_9 : decode prog_26_method_147_code 9 = .ok (.getfield 9, 3) := zsh_g zdk_497 (r := 2) (k := 1) rfl rfl rfl
theorem zd_497_12 : decode prog_26_method_147_code 12 = .ok (.iconst 0, 1) := zsh_g zdk_497 (r := 3) (k := 0) rfl rfl rfl
theorem zd_497_13 : decode prog_26_method_147_code 13 = .ok (.aload_n 1, 1) := zsh_g zdk_497 (r := 3) (k := 1) rfl rfl rfl
theorem zd_497_14 : decode prog_26_method_147_code 14 = .ok (.iload_n 2, 1) := zsh_g zdk_497 (r := 3) (k := 2) rfl rfl rfl
theorem zd_497_15 : decode prog_26_method_147_code 15 = .ok (.iload_n 3, 1) := zsh_g zdk_497 (r := 3) (k := 3) rfl rfl rfl
theorem zd_497_16 : decode prog_26_method_147_code 16 = .ok (.ishl, 1) := zsh_g zdk_497 (r := 4) (k := 0) rfl rfl rfl
theorem zd_497_17 : decode prog_26_method_147_code 17 = .ok (.aload_n 0, 1) := zsh_g zdk_497 (r := 4) (k := 1) rfl rfl rfl
theorem zd_497_18 : decode prog_26_method_147_code 18 = .ok (.getfield 9, 3) := zsh_g zdk_497 (r := 4) (k := 2) rfl rfl rfl
theorem zd_497_21 : decode prog_26_method_147_code 21 = .ok (.arraylength, 1) := zsh_g zdk_497 (r := 5) (k := 0) rfl rfl rfl
theorem zd_497_22 : decode prog_26_method_147_code 22 = .ok (.invokestatic 212, 3) := zsh_g zdk_497 (r := 5) (k := 1) rfl rfl rfl
theorem zd_497_25 : decode prog_26_method_147_code 25 = .ok (.goto 18, 3) := zsh_g zdk_497 (r := 6) (k := 0) rfl rfl rfl
theorem zd_497_28 : decode prog_26_method_147_code 28 = .ok (.aload_n 0, 1) := zsh_g zdk_497 (r := 7) (k := 0) rfl rfl rfl
theorem zd_497_29 : decode prog_26_method_147_code 29 = .ok (.getfield 9, 3) := zsh_g zdk_497 (r := 7) (k := 1) rfl rfl rfl
theorem zd_497_32 : decode prog_26_method_147_code 32 = .ok (.iconst 0, 1) := zsh_g zdk_497 (r := 8) (k := 0) rfl rfl rfl
theorem zd_497_33 : decode prog_26_method_147_code 33 = .ok (.aload_n 1, 1) := zsh_g zdk_497 (r := 8) (k := 1) rfl rfl rfl
theorem zd_497_34 : decode prog_26_method_147_code 34 = .ok (.iload_n 2, 1) := zsh_g zdk_497 (r := 8) (k := 2) rfl rfl rfl
theorem zd_497_35 : decode prog_26_method_147_code 35 = .ok (.aload_n 0, 1) := zsh_g zdk_497 (r := 8) (k := 3) rfl rfl rfl
theorem zd_497_36 : decode prog_26_method_147_code 36 = .ok (.getfield 9, 3) := zsh_g zdk_497 (r := 9) (k := 0) rfl rfl rfl
theorem zd_497_39 : decode prog_26_method_147_code 39 = .ok (.arraylength, 1) := zsh_g zdk_497 (r := 9) (k := 1) rfl rfl rfl
theorem zd_497_40 : decode prog_26_method_147_code 40 = .ok (.invokestatic 106, 3) := zsh_g zdk_497 (r := 10) (k := 0) rfl rfl rfl
def zdl_498 : List (List (Nat × Instr × Nat)) := [[(0, (.iload_n 0), 1), (1, (.iload_n 1), 1), (2, (.aload_n 2), 1), (3, (.invokestatic 48), 3)], [(2, (.invokestatic 241), 3)]]
theorem zdk_498 : zsh_all 8 zdl_498 prog_30_method_93_code.data.toList = true := by decide +kernel
theorem zd_498_0 : decode prog_30_method_93_code 0 = .ok (.iload_n 0, 1) := zsh_g zdk_498 (r := 0) (k := 0) rfl rfl rfl
theorem zd_498_1 : decode prog_30_method_93_code 1 = .ok (.iload_n 1, 1) := zsh_g zdk_498 (r := 0) (k := 1) rfl rfl rfl
theorem zd_498_2 : decode prog_30_method_93_code 2 = .ok (.aload_n 2, 1) := zsh_g zdk_498 (r := 0) (k := 2) rfl rfl rfl
theorem zd_498_3 : decode prog_30_method_93_code 3 = .ok (.invokestatic 48, 3) := zsh_g zdk_498 (r := 0) (k := 3) rfl rfl rfl
theorem zd_498_6 : decode prog_30_method_93_code 6 = .ok (.invokestatic 241, 3) := zsh_g zdk_498 (r := 1) (k := 0) rfl rfl rfl
def zdl_499 : List (List (Nat × Instr × Nat)) := [[(0, (.iload_n 1), 1), (1, (.istore 5), 2), (3, (.iload_n 0), 1)], [(0, (.ifCond .ge 7), 3), (3, (.iconst 1), 1)], [(0, (.goto 4), 3), (3, (.iconst 0), 1)], [(0, (.istore 6), 2), (2, (.iload 6), 2)], [(0, (.ifCond .ne 6), 3), (3, (.iload_n 0), 1)], [(0, .ineg, 1), (1, (.istore_n 0), 1), (2, (.iload_n 0), 1), (3, (.bipush (-100)), 2)], [(1, (.if_icmp .gt 51), 3)], [(0, (.iload_n 0), 1), (1, (.bipush 100), 2), (3, .idiv, 1)], [(0, (.istore_n 3), 1), (1, (.iload_n 3), 1), (2, (.bipush 100), 2)], [(0, .imul, 1), (1, (.iload_n 0), 1), (2, .isub, 1), (3, (.istore 4), 2)], [(1, (.iload_n 3), 1), (2, (.istore_n 0), 1), (3, (.aload_n 2), 1)], [(0, (.iinc 5 (-1)), 3), (3, (.iload 5), 2)], [(1, (.getstatic 403), 3)], [(0, (.iload 4), 2), (2, .baload, 1), (3, (.invokestatic 111), 3)], [(2, (.aload_n 2), 1), (3, (.iinc 5 (-1)), 3)], [(2, (.iload 5), 2)], [(0, (.getstatic 407), 3), (3, (.iload 4), 2)], [(1, .baload, 1), (2, (.invokestatic 111), 3)], [(1, (.goto (-51)), 3)], [(0, (.aload_n 2), 1), (1, (.iinc 5 (-1)), 3)], [(0, (.iload 5), 2), (2, (.getstatic 403), 3)], [(1, (.iload_n 0), 1), (2, .ineg, 1), (3, .baload, 1)], [(0, (.invokestatic 111), 3), (3, (.iload_n 0), 1)], [(0, (.bipush (-9)), 2), (2, (.if_icmp .ge 18), 3)], [(1, (.aload_n 2), 1), (2, (.iinc 5 (-1)), 3)], [(1, (.iload 5), 2), (3, (.getstatic 407), 3)], [(2, (.iload_n 0), 1), (3, .ineg, 1)], [(0, .baload, 1), (1, (.invokestatic 111), 3)], [(0, (.iload 6), 2), (2, (.ifCond .eq 14), 3)], [(1, (.aload_n 2), 1), (2, (.iinc 5 (-1)), 3)], [(1, (.iload 5), 2), (3, (.bipush 45), 2)], [(1, (.invokestatic 111), 3)], [(0, (.iload 5), 2)]]
theorem zdk_499 : zsh_all 8 zdl_499 prog_30_method_89_code.data.toList = true := by decide +kernel
theorem zd_499_0 : decode prog_30_method_89_code 0 = .ok (.iload_n 1, 1) := zsh_g zdk_499 (r := 0) (k := 0) rfl rfl rfl
theorem zd_499_1 : decode prog_30_method_89_code 1 = .ok (.istore 5, 2) := zsh_g zdk_499 (r := 0) (k := 1) rfl rfl rfl
theorem zd_499_3 : decode prog_30_method_89_code 3 = .ok (.iload_n 0, 1) := zsh_g zdk_499 (r := 0) (k := 2) rfl rfl rfl
theorem zd_499_4 : decode prog_30_method_89_code 4 = .ok (.ifCond .ge 7, 3) := zsh_g zdk_499 (r := 1) (k := 0) rfl rfl rfl
theorem zd_499_7 : decode prog_30_method_89_code 7 = .ok (.iconst 1, 1) := zsh_g zdk_499 (r := 1) (k := 1) rfl rfl rfl
theorem zd_499_8 : decode prog_30_method_89_code 8 = .ok (.goto 4, 3) := zsh_g zdk_499 (r := 2) (k := 0) rfl rfl rfl
theorem zd_499_11 : decode prog_30_method_89_code 11 = .ok (.iconst 0, 1) := zsh_g zdk_499 (r := 2) (k := 1) rfl rfl rfl
theorem zd_499_12 : decode prog_30_method_89_code 12 = .ok (.istore 6, 2) := zsh_g zdk_499 (r := 3) (k := 0) rfl rfl rfl
theorem zd_499_14 : decode prog_30_method_89_code 14 = .ok (.iload 6, 2) := zsh_g zdk_499 (r := 3) (k := 1) rfl rfl rfl
theorem zd_499_16 : decode prog_30_method_89_code 16 = .ok (.ifCond .ne 6, 3) := zsh_g zdk_499 (r := 4) (k := 0) rfl rfl rfl
theorem zd_499_19 : decode prog_30_method_89_code 19 = .ok (.iload_n 0, 1) := zsh_g zdk_499 (r := 4) (k := 1) rfl rfl rfl
theorem zd_499_20 : decode prog_30_method_89_code 20 = .ok (.ineg, 1) := zsh_g zdk_499 (r := 5) (k := 0) rfl rfl rfl
theorem zd_499_21 : decode prog_30_method_89_code 21 = .ok (.istore_n 0, 1) := zsh_g zdk_499 (r := 5) (k := 1) rfl rfl rfl
theorem zd_499_22 : decode prog_30_method_89_code 22 = .ok (.iload_n 0, 1) := zsh_g zdk_499 (r := 5) (k := 2) rfl rfl rfl
theorem zd_499_23 : decode prog_30_method_89_code 23 = .ok (.bipush (-100), 2) := zsh_g zdk_499 (r := 5) (k := 3) rfl rfl rfl
theorem zd_499_25 : decode prog_30_method_89_code 25 = .ok (.if_icmp .gt 51, 3) := zsh_g zdk_499 (r := 6) (k := 0) rfl rfl rfl
theorem zd_499_28 : decode prog_30_method_89_code 28 = .ok (.iload_n 0, 1) := zsh_g zdk_499 (r := 7) (k := 0) rfl rfl rfl
theorem zd_499_29 : decode prog_30_method_89_code 29 = .ok (.bipush 100, 2) := zsh_g zdk_499 (r := 7) (k := 1) rfl rfl rfl
theorem zd_499_31 : decode prog_30_method_89_code 31 = .ok (.idiv, 1) := zsh_g zdk_499 (r := 7) (k := 2) rfl rfl rfl
theorem zd_499_32 : decode prog_30_method_89_code 32 = .ok (.istore_n 3, 1) := zsh_g zdk_499 (r := 8) (k := 0) rfl rfl rfl
theorem zd_499_33 : decode prog_30_method_89_code 33 = .ok (.iload_n 3, 1) := zsh_g zdk_499 (r := 8) (k := 1) rfl rfl rfl
theorem zd_499_34 : decode prog_30_method_89_code 34 = .ok (.bipush 100, 2) := zsh_g zdk_499 (r := 8) (k := 2) rfl rfl rfl
theorem zd_499_36 : decode prog_30_method_89_code 36 = .ok (.imul, 1) := zsh_g zdk_499 (r := 9) (k := 0) rfl rfl rfl
theorem zd_499_37 : decode prog_30_method_89_code 37 = .ok (.iload_n 0, 1) := zsh_g zdk_499 (r := 9) (k := 1) rfl rfl rfl
theorem zd_499_38 : decode prog_30_method_89_code 38 = .ok (.isub, 1) := zsh_g zdk_499 (r := 9) (k := 2) rfl rfl rfl
theorem zd_499_39 : decode prog_30_method_89_code 39 = .ok (.istore 4, 2) := zsh_g zdk_499 (r := 9) (k := 3) rfl rfl rfl
theorem zd_499_41 : decode prog_30_method_89_code 41 = .ok (.iload_n 3, 1) := zsh_g zdk_499 (r := 10) (k := 0) rfl rfl rfl
theorem zd_499_42 : decode prog_30_method_89_code 42 = .ok (.istore_n 0, 1) := zsh_g zdk_499 (r := 10) (k := 1) rfl rfl rfl
theorem zd_499_43 : decode prog_30_method_89_code 43 = .ok (.aload_n 2, 1) := zsh_g zdk_499 (r := 10) (k := 2) rfl rfl rfl
theorem zd_499_44 : decode prog_30_method_89_code 44 = .ok (.iinc 5 (-1), 3) := zsh_g zdk_499 (r := 11) (k := 0) rfl rfl rfl
theorem zd_499_47 : decode prog_30_method_89_code 47 = .ok (.iload 5, 2) := zsh_g zdk_499 (r := 11) (k := 1) rfl rfl rfl
theorem zd_499_49 : decode prog_30_method_89_code 49 = .ok (.getstatic 403, 3) := zsh_g zdk_499 (r := 12) (k := 0) rfl rfl rfl
theorem zd_499_52 : decode prog_30_method_89_code 52 = .ok (.iload 4, 2) := zsh_g zdk_499 (r := 13) (k := 0) rfl rfl rfl
theorem zd_499_54 : decode prog_30_method_89_code 54 = .ok (.baload, 1) := zsh_g zdk_499 (r := 13) (k := 1) rfl rfl rfl
theorem zd_499_55 : decode prog_30_method_89_code 55 = .ok (.invokestatic 111, 3) := zsh_g zdk_499 (r := 13) (k := 2) rfl rfl rfl
theorem zd_499_58 : decode prog_30_method_89_code 58 = .ok (.aload_n 2, 1) := zsh_g zdk_499 (r := 14) (k := 0) rfl rfl rfl
theorem zd_499_59 : decode prog_30_method_89_code 59 = .ok (.iinc 5 (-1), 3) := zsh_g zdk_499 (r := 14) (k := 1) rfl rfl rfl
theorem zd_499_62 : decode prog_30_method_89_code 62 = .ok (.iload 5, 2) := zsh_g zdk_499 (r := 15) (k := 0) rfl rfl rfl
theorem zd_499_64 : decode prog_30_method_89_code 64 = .ok (.getstatic 407, 3) := zsh_g zdk_499 (r := 16) (k := 0) rfl rfl rfl
theorem zd_499_67 : decode prog_30_method_89_code 67 = .ok (.iload 4, 2) := zsh_g zdk_499 (r := 16) (k := 1) rfl rfl rfl
theorem zd_499_69 : decode prog_30_method_89_code 69 = .ok (.baload, 1) := zsh_g zdk_499 (r := 17) (k := 0) rfl rfl rfl
theorem zd_499_70 : decode prog_30_method_89_code 70 = .ok (.invokestatic 111, 3) := zsh_g zdk_499 (r := 17) (k := 1) rfl rfl rfl
theorem zd_499_73 : decode prog_30_method_89_code 73 = .ok (.goto (-51), 3) := zsh_g zdk_499 (r := 18) (k := 0) rfl rfl rfl
theorem zd_499_76 : decode prog_30_method_89_code 76 = .ok (.aload_n 2, 1) := zsh_g zdk_499 (r := 19) (k := 0) rfl rfl rfl
theorem zd_499_77 : decode prog_30_method_89_code 77 = .ok (.iinc 5 (-1), 3) := zsh_g zdk_499 (r := 19) (k := 1) rfl rfl rfl
theorem zd_499_80 : decode prog_30_method_89_code 80 = .ok (.iload 5, 2) := zsh_g zdk_499 (r := 20) (k := 0) rfl rfl rfl
theorem zd_499_82 : decode prog_30_method_89_code 82 = .ok (.getstatic 403, 3) := zsh_g zdk_499 (r := 20) (k := 1) rfl rfl rfl
theorem zd_499_85 : decode prog_30_method_89_code 85 = .ok (.iload_n 0, 1) := zsh_g zdk_499 (r := 21) (k := 0) rfl rfl rfl
theorem zd_499_86 : decode prog_30_method_89_code 86 = .ok (.ineg, 1) := zsh_g zdk_499 (r := 21) (k := 1) rfl rfl rfl
theorem zd_499_87 : decode prog_30_method_89_code 87 = .ok (.baload, 1) := zsh_g zdk_499 (r := 21) (k := 2) rfl rfl rfl
theorem zd_499_88 : decode prog_30_method_89_code 88 = .ok (.invokestatic 111, 3) := zsh_g zdk_499 (r := 22) (k := 0) rfl rfl rfl
theorem zd_499_91 : decode prog_30_method_89_code 91 = .ok (.iload_n 0, 1) := zsh_g zdk_499 (r := 22) (k := 1) rfl rfl rfl
theorem zd_499_92 : decode prog_30_method_89_code 92 = .ok (.bipush (-9), 2) := zsh_g zdk_499 (r := 23) (k := 0) rfl rfl rfl
theorem zd_499_94 : decode prog_30_method_89_code 94 = .ok (.if_icmp .ge 18, 3) := zsh_g zdk_499 (r := 23) (k := 1) rfl rfl rfl
theorem zd_499_97 : decode prog_30_method_89_code 97 = .ok (.aload_n 2, 1) := zsh_g zdk_499 (r := 24) (k := 0) rfl rfl rfl
theorem zd_499_98 : decode prog_30_method_89_code 98 = .ok (.iinc 5 (-1), 3) := zsh_g zdk_499 (r := 24) (k := 1) rfl rfl rfl
theorem zd_499_101 : decode prog_30_method_89_code 101 = .ok (.iload 5, 2) := zsh_g zdk_499 (r := 25) (k := 0) rfl rfl rfl
theorem zd_499_103 : decode prog_30_method_89_code 103 = .ok (.getstatic 407, 3) := zsh_g zdk_499 (r := 25) (k := 1) rfl rfl rfl
theorem zd_499_106 : decode prog_30_method_89_code 106 = .ok (.iload_n 0, 1) := zsh_g zdk_499 (r := 26) (k := 0) rfl rfl rfl
theorem zd_499_107 : decode prog_30_method_89_code 107 = .ok (.ineg, 1) := zsh_g zdk_499 (r := 26) (k := 1) rfl rfl rfl
theorem zd_499_108 : decode prog_30_method_89_code 108 = .ok (.baload, 1) := zsh_g zdk_499 (r := 27) (k := 0) rfl rfl rfl
theorem zd_499_109 : decode prog_30_method_89_code 109 = .ok (.invokestatic 111, 3) := zsh_g zdk_499 (r := 27) (k := 1) rfl rfl rfl
theorem zd_499_112 : decode prog_30_method_89_code 112 = .ok (.iload 6, 2) := zsh_g zdk_499 (r := 28) (k := 0) rfl rfl rfl
theorem zd_499_114 : decode prog_30_method_89_code 114 = .ok (.ifCond .eq 14, 3) := zsh_g zdk_499 (r := 28) (k := 1) rfl rfl rfl
theorem zd_499_117 : decode prog_30_method_89_code 117 = .ok (.aload_n 2, 1) := zsh_g zdk_499 (r := 29) (k := 0) rfl rfl rfl
theorem zd_499_118 : decode prog_30_method_89_code 118 = .ok (.iinc 5 (-1), 3) := zsh_g zdk_499 (r := 29) (k := 1) rfl rfl rfl
theorem zd_499_121 : decode prog_30_method_89_code 121 = .ok (.iload 5, 2) := zsh_g zdk_499 (r := 30) (k := 0) rfl rfl rfl
theorem zd_499_123 : decode prog_30_method_89_code 123 = .ok (.bipush 45, 2) := zsh_g zdk_499 (r := 30) (k := 1) rfl rfl rfl
theorem zd_499_125 : decode prog_30_method_89_code 125 = .ok (.invokestatic 111, 3) := zsh_g zdk_499 (r := 31) (k := 0) rfl rfl rfl
theorem zd_499_128 : decode prog_30_method_89_code 128 = .ok (.iload 5, 2) := zsh_g zdk_499 (r := 32) (k := 0) rfl rfl rfl
def zdl_500 : List (List (Nat × Instr × Nat)) := [[(0, (.aload_n 0), 1), (1, (.iload_n 1), 1), (2, (.aload_n 2), 1), (3, (.iload_n 3), 1)], [(0, (.iload 4), 2), (2, (.invokestatic 240), 3)]]
theorem zdk_500 : zsh_all 8 zdl_500 prog_29_method_50_code.data.toList = true := by decide +kernel
theorem zd_500_0 : decode prog_29_method_50_code 0 = .ok (.aload_n 0, 1) := zsh_g zdk_500 (r := 0) (k := 0) rfl rfl rfl
theorem zd_500_1 : decode prog_29_method_50_code 1 = .ok (.iload_n 1, 1) := zsh_g zdk_500 (r := 0) (k := 1) rfl rfl rfl
theorem zd_500_2 : decode prog_29_method_50_code 2 = .ok (.aload_n 2, 1) := zsh_g zdk_500 (r := 0) (k := 2) rfl rfl rfl
theorem zd_500_3 : decode prog_29_method_50_code 3 = .ok (.iload_n 3, 1) := zsh_g zdk_500 (r := 0) (k := 3) rfl rfl rfl
theorem zd_500_4 : decode prog_29_method_50_code 4 = .ok (.iload 4, 2) := zsh_g zdk_500 (r := 1) (k := 0) rfl rfl rfl
theorem zd_500_6 : decode prog_29_method_50_code 6 = .ok (.invokestatic 240, 3) := zsh_g zdk_500 (r := 1) (k := 1) rfl rfl rfl
def zdl_501 : List (List (Nat × Instr × Nat)) := [[(0, (.getstatic 44), 3), (3, (.ifCond .ne 25), 3)], [(2, (.iload_n 1), 1), (3, (.ifCond .lt 11), 3)], [(2, (.iload_n 1), 1), (3, (.aload_n 0), 1)], [(0, (.invokestatic 48), 3), (3, (.if_icmp .lt 13), 3)], [], [], [], [(0, (.iload_n 1), 1), (1, (.iconst 1), 1), (2, .ishl, 1), (3, (.istore_n 1), 1)], [(0, (.aload_n 0), 1), (1, (.iload_n 1), 1), (2, (.iinc 1 1), 3)], [(1, (.iload_n 2), 1), (2, (.getstatic 59), 3)], [(1, .ishr, 1), (2, .i2b, 1), (3, .bastore, 1)], [(0, (.aload_n 0), 1), (1, (.iload_n 1), 1), (2, (.iload_n 2), 1), (3, (.getstatic 63), 3)], [(2, .ishr, 1), (3, .i2b, 1)], [(0, .bastore, 1)]]
theorem zdk_501 : zsh_all 8 zdl_501 prog_30_method_4_code.data.toList = true := by decide +kernel
theorem zd_501_0 : decode prog_30_method_4_code 0 = .ok (.getstatic 44, 3) := zsh_g zdk_501 (r := 0) (k := 0) rfl rfl rfl
theorem zd_501_3 : decode prog_30_method_4_code 3 = .ok (.ifCond .ne 25, 3) := zsh_g zdk_501 (r := 0) (k := 1) rfl rfl rfl
theorem zd_501_6 : decode prog_30_method_4_code 6 = .ok (.iload_n 1, 1) := zsh_g zdk_501 (r := 1) (k := 0) rfl rfl rfl
theorem zd_501_7 : decode prog_30_method_4_code 7 = .ok (.ifCond .lt 11, 3) := zsh_g zdk_501 (r := 1) (k := 1) rfl rfl rfl
theorem zd_501_10 : decode prog_30_method_4_code 10 = .ok (.iload_n 1, 1) := zsh_g zdk_501 (r := 2) (k := 0) rfl rfl rfl
theorem zd_501_11 : decode prog_30_method_4_code 11 = .ok (.aload_n 0, 1) := zsh_g zdk_501 (r := 2) (k := 1) rfl rfl rfl
theorem zd_501_12 : decode prog_30_method_4_code 12 = .ok (.invokestatic 48, 3) := zsh_g zdk_501 (r := 3) (k := 0) rfl rfl rfl
theorem zd_501_15 : decode prog_30_method_4_code 15 = .ok (.if_icmp .lt 13, 3) := zsh_g zdk_501 (r := 3) (k := 1) rfl rfl rfl
theorem zd_501_28 : decode prog_30_method_4_code 28 = .ok (.iload_n 1, 1) := zsh_g zdk_501 (r := 7) (k := 0) rfl rfl rfl
theorem zd_501_29 : decode prog_30_method_4_code 29 = .ok (.iconst 1, 1) := zsh_g zdk_501 (r := 7) (k := 1) rfl rfl rfl
theorem zd_501_30 : decode prog_30_method_4_code 30 = .ok (.ishl, 1) := zsh_g zdk_501 (r := 7) (k := 2) rfl rfl rfl
theorem zd_501_31 : decode prog_30_method_4_code 31 = .ok (.istore_n 1, 1) := zsh_g zdk_501 (r := 7) (k := 3) rfl rfl rfl
theorem zd_501_32 : decode prog_30_method_4_code 32 = .ok (.aload_n 0, 1) := zsh_g zdk_501 (r := 8) (k := 0) rfl rfl rfl
theorem zd_501_33 : decode prog_30_method_4_code 33 = .ok (.iload_n 1, 1) := zsh_g zdk_501 (r := 8) (k := 1) rfl rfl rfl
theorem zd_501_34 : decode prog_30_method_4_code 34 = .ok (.iinc 1 1, 3) := zsh_g zdk_501 (r := 8) (k := 2) rfl rfl rfl
theorem zd_501_37 : decode prog_30_method_4_code 37 = .ok (.iload_n 2, 1) := zsh_g zdk_501 (r := 9) (k := 0) rfl rfl rfl
theorem zd_501_38 : decode prog_30_method_4_code 38 = .ok (.getstatic 59, 3) := zsh_g zdk_501 (r := 9) (k := 1) rfl rfl rfl
theorem zd_501_41 : decode prog_30_method_4_code 41 = .ok (.ishr, 1) := zsh_g zdk_501 (r := 10) (k := 0) rfl rfl rfl
theorem zd_501_42 : decode prog_30_method_4_code 42 = .ok (.i2b, 1) := zsh_g zdk_501 (r := 10) (k := 1) rfl rfl rfl
theorem zd_501_43 : decode prog_30_method_4_code 43 = .ok (.bastore, 1) := zsh_g zdk_501 (r := 10) (k := 2) rfl rfl rfl
theorem zd_501_44 : decode prog_30_method_4_code 44 = .ok (.aload_n 0, 1) := zsh_g zdk_501 (r := 11) (k := 0) rfl rfl rfl
theorem zd_501_45 : decode prog_30_method_4_code 45 = .ok (.iload_n 1, 1) := zsh_g zdk_501 (r := 11) (k := 1) rfl rfl rfl
theorem zd_501_46 : decode prog_30_method_4_code 46 = .ok (.iload_n 2, 1) := zsh_g zdk_501 (r := 11) (k := 2) rfl rfl rfl
theorem zd_501_47 : decode prog_30_method_4_code 47 = .ok (.getstatic 63, 3) := zsh_g zdk_501 (r := 11) (k := 3) rfl rfl rfl
theorem zd_501_50 : decode prog_30_method_4_code 50 = .ok (.ishr, 1) := zsh_g zdk_501 (r := 12) (k := 0) rfl rfl rfl
theorem zd_501_51 : decode prog_30_method_4_code 51 = .ok (.i2b, 1) := zsh_g zdk_501 (r := 12) (k := 1) rfl rfl rfl
theorem zd_501_52 : decode prog_30_method_4_code 52 = .ok (.bastore, 1) := zsh_g zdk_501 (r := 13) (k := 0) rfl rfl rfl
def zdl_502 : List (List (Nat × Instr × Nat)) := [[(0, (.aload_n 0), 1), (1, (.iload_n 1), 1), (2, (.invokevirtual 595), 3)], [(1, (.istore 4), 2), (3, (.iload 4), 2)], [(1, (.ifCond .lt 31), 3)], [(0, (.iload_n 2), 1), (1, (.aload_n 0), 1), (2, (.getfield 187), 3)], [(1, (.iload 4), 2), (3, .iaload, 1)], [(0, (.ifCond .le 7), 3), (3, (.iconst 2), 1)], [(0, (.goto 4), 3), (3, (.iconst 1), 1)], [(0, (.if_icmp .eq 9), 3), (3, (.aload_n 0), 1)], [(0, (.iconst 3), 1), (1, (.iload_n 3), 1), (2, (.invokevirtual 579), 3)], [(1, (.iload 4), 2)], [(0, (.aload_n 0), 1), (1, (.getfield 196), 3)], [(0, (.aload_n 0), 1), (1, (.getfield 598), 3)], [(0, (.iload_n 1), 1), (1, .iastore, 1), (2, (.aload_n 0), 1), (3, (.getfield 199), 3)], [(2, (.aload_n 0), 1), (3, (.getfield 598), 3)], [(2, (.iload_n 2), 1), (3, .iastore, 1)], [(0, (.aload_n 0), 1), (1, (.getfield 202), 3)], [(0, (.aload_n 0), 1), (1, (.getfield 598), 3)], [(0, (.iload_n 3), 1), (1, .iastore, 1), (2, (.aload_n 0), 1), (3, .dup, 1)], [(0, (.getfield 598), 3), (3, (.iconst 1), 1)], [(0, .iadd, 1), (1, (.putfield 598), 3)], [(0, (.iconst (-1)), 1)]]
theorem zdk_502 : zsh_all 8 zdl_502 prog_14_method_26_code.data.toList = true := by decide +kernel
theorem zd_502_0 : decode prog_14_method_26_code 0 = .ok (.aload_n 0, 1) := zsh_g zdk_502 (r := 0) (k := 0) rfl rfl rfl
theorem zd_502_1 : decode prog_14_method_26_code 1 = .ok (.iload_n 1, 1) := zsh_g zdk_502 (r := 0) (k := 1) rfl rfl rfl
theorem zd_502_2 : decode prog_14_method_26_code 2 = .ok (.invokevirtual 595, 3) := zsh_g zdk_502 (r := 0) (k := 2) rfl rfl rfl
theorem zd_502_5 : decode prog_14_method_26_code 5 = .ok (.istore 4, 2) := zsh_g zdk_502 (r := 1) (k := 0) rfl rfl rfl
theorem zd_502_7 : decode prog_14_method_26_code 7 = .ok (.iload 4, 2) := zsh_g zdk_502 (r := 1) (k := 1) rfl rfl rfl
theorem zd_502_9 : decode prog_14_method_26_code 9 = .ok (.ifCond .lt 31, 3) := zsh_g zdk_502 (r := 2) (k := 0) rfl rfl rfl
theorem zd_502_12 : decode prog_14_method_26_code 12 = .ok (.iload_n 2, 1) := zsh_g zdk_502 (r := 3) (k := 0) rfl rfl rfl
theorem zd_502_13 : decode prog_14_method_26_code 13 = .ok (.aload_n 0, 1) := zsh_g zdk_502 (r := 3) (k := 1) rfl rfl rfl
theorem zd_502_14 : decode prog_14_method_26_code 14 = .ok (.getfield 187, 3) := zsh_g zdk_502 (r := 3) (k := 2) rfl rfl rfl
theorem zd_502_17 : decode prog_14_method_26_code 17 = .ok (.iload 4, 2) := zsh_g zdk_502 (r := 4) (k := 0) rfl rfl rfl
theorem zd_502_19 : decode prog_14_method_26_code 19 = .ok (.iaload, 1) := zsh_g zdk_502 (r := 4) (k := 1) rfl rfl rfl
theorem zd_502_20 : decode prog_14_method_26_code 20 = .ok (.ifCond .le 7, 3) := zsh_g zdk_502 (r := 5) (k := 0) rfl rfl rfl
theorem zd_502_23 : decode prog_14_method_26_code 23 = .ok (.iconst 2, 1) := zsh_g zdk_502 (r := 5) (k := 1) rfl rfl rfl
theorem zd_502_24 : decode prog_14_method_26_code 24 = .ok (.goto 4, 3) := zsh_g zdk_502 (r := 6) (k := 0) rfl rfl rfl
theorem zd_502_27 : decode prog_14_method_26_code 27 = .ok (.iconst 1, 1) := zsh_g zdk_502 (r := 6) (k := 1) rfl rfl rfl
theorem zd_502_28 : decode prog_14_method_26_code 28 = .ok (.if_icmp .eq 9, 3) := zsh_g zdk_502 (r := 7) (k := 0) rfl rfl rfl
theorem zd_502_31 : decode prog_14_method_26_code 31 = .ok (.aload_n 0, 1) := zsh_g zdk_502 (r := 7) (k := 1) rfl rfl rfl
theorem zd_502_32 : decode prog_14_method_26_code 32 = .ok (.iconst 3, 1) := zsh_g zdk_502 (r := 8) (k := 0) rfl rfl rfl
theorem zd_502_33 : decode prog_14_method_26_code 33 = .ok (.iload_n 3, 1) := zsh_g zdk_502 (r := 8) (k := 1) rfl rfl rfl
theorem zd_502_34 : decode prog_14_method_26_code 34 = .ok (.invokevirtual 579, 3) := zsh_g zdk_502 (r := 8) (k := 2) rfl rfl rfl
theorem zd_502_37 : decode prog_14_method_26_code 37 = .ok (.iload 4, 2) := zsh_g zdk_502 (r := 9) (k := 0) rfl rfl rfl
theorem zd_502_40 : decode prog_14_method_26_code 40 = .ok (.aload_n 0, 1) := zsh_g zdk_502 (r := 10) (k := 0) rfl rfl rfl
theorem zd_502_41 : decode prog_14_method_26_code 41 = .ok (.getfield 196, 3) := zsh_g zdk_502 (r := 10) (k := 1) rfl rfl rfl
theorem zd_502_44 : decode prog_14_method_26_code 44 = .ok (.aload_n 0, 1) := zsh_g zdk_502 (r := 11) (k := 0) rfl rfl rfl
theorem zd_502_45 : decode prog_14_method_26_code 45 = .ok (.getfield 598, 3) := zsh_g zdk_502 (r := 11) (k := 1) rfl rfl rfl
theorem zd_502_48 : decode prog_14_method_26_code 48 = .ok (.iload_n 1, 1) := zsh_g zdk_502 (r := 12) (k := 0) rfl rfl rfl
theorem zd_502_49 : decode prog_14_method_26_code 49 = .ok (.iastore, 1) := zsh_g zdk_502 (r := 12) (k := 1) rfl rfl rfl
theorem zd_502_50 : decode prog_14_method_26_code 50 = .ok (.aload_n 0, 1) := zsh_g zdk_502 (r := 12) (k := 2) rfl rfl rfl
theorem zd_502_51 : decode prog_14_method_26_code 51 = .ok (.getfield 199, 3) := zsh_g zdk_502 (r := 12) (k := 3) rfl rfl rfl
theorem zd_502_54 : decode prog_14_method_26_code 54 = .ok (.aload_n 0, 1) := zsh_g zdk_502 (r := 13) (k := 0) rfl rfl rfl
theorem zd_502_55 : decode prog_14_method_26_code 55 = .ok (.getfield 598, 3) := zsh_g zdk_502 (r := 13) (k := 1) rfl rfl rfl
theorem zd_502_58 : decode prog_14_method_26_code 58 = .ok (.iload_n 2, 1) := zsh_g zdk_502 (r := 14) (k := 0) rfl rfl rfl
theorem zd_502_59 : decode prog_14_method_26_code 59 = .ok (.iastore, 1) := zsh_g zdk_502 (r := 14) (k := 1) rfl rfl rfl
theorem zd_502_60 : decode prog_14_method_26_code 60 = .ok (.aload_n 0, 1) := zsh_g zdk_502 (r := 15) (k := 0) rfl rfl rfl
theorem zd_502_61 : decode prog_14_method_26_code 61 = .ok (.getfield 202, 3) := zsh_g zdk_502 (r := 15) (k := 1) rfl rfl rfl
theorem zd_502_64 : decode prog_14_method_26_code 64 = .ok (.aload_n 0, 1) := zsh_g zdk_502 (r := 16) (k := 0) rfl rfl rfl
theorem zd_502_65 : decode prog_14_method_26_code 65 = .ok (.getfield 598, 3) := zsh_g zdk_502 (r := 16) (k := 1) rfl rfl rfl
theorem zd_502_68 : decode prog_14_method_26_code 68 = .ok (.iload_n 3, 1) := zsh_g zdk_502 (r := 17) (k := 0) rfl rfl rfl
theorem zd_502_69 : decode prog_14_method_26_code 69 = .ok (.iastore, 1) := zsh_g zdk_502 (r := 17) (k := 1) rfl rfl rfl
theorem zd_502_70 : decode prog_14_method_26_code 70 = .ok (.aload_n 0, 1) := zsh_g zdk_502 (r := 17) (k := 2) rfl rfl rfl
theorem zd_502_71 : decode prog_14_method_26_code 71 = .ok (.dup, 1) := zsh_g zdk_502 (r := 17) (k := 3) rfl rfl rfl
theorem zd_502_72 : decode prog_14_method_26_code 72 = .ok (.getfield 598, 3) := zsh_g zdk_502 (r := 18) (k := 0) rfl rfl rfl
theorem zd_502_75 : decode prog_14_method_26_code 75 = .ok (.iconst 1, 1) := zsh_g zdk_502 (r := 18) (k := 1) rfl rfl rfl
theorem zd_502_76 : decode prog_14_method_26_code 76 = .ok (.iadd, 1) := zsh_g zdk_502 (r := 19) (k := 0) rfl rfl rfl
theorem zd_502_77 : decode prog_14_method_26_code 77 = .ok (.putfield 598, 3) := zsh_g zdk_502 (r := 19) (k := 1) rfl rfl rfl
theorem zd_502_80 : decode prog_14_method_26_code 80 = .ok (.iconst (-1), 1) := zsh_g zdk_502 (r := 20) (k := 0) rfl rfl rfl
def zdl_503 : List (List (Nat × Instr × Nat)) := [[(0, (.iload_n 1), 1), (1, (.ifCond .ge 7), 3)], [(0, (.iconst (-1)), 1), (1, (.goto 9), 3)], [(0, (.aload_n 0), 1), (1, (.getfield 190), 3)], [(0, (.iload_n 1), 1), (1, .iaload, 1)]]
theorem zdk_503 : zsh_all 8 zdl_503 prog_14_method_27_code.data.toList = true := by decide +kernel
theorem zd_503_0 : decode prog_14_method_27_code 0 = .ok (.iload_n 1, 1) := zsh_g zdk_503 (r := 0) (k := 0) rfl rfl rfl
theorem zd_503_1 : decode prog_14_method_27_code 1 = .ok (.ifCond .ge 7, 3) := zsh_g zdk_503 (r := 0) (k := 1) rfl rfl rfl
theorem zd_503_4 : decode prog_14_method_27_code 4 = .ok (.iconst (-1), 1) := zsh_g zdk_503 (r := 1) (k := 0) rfl rfl rfl
theorem zd_503_5 : decode prog_14_method_27_code 5 = .ok (.goto 9, 3) := zsh_g zdk_503 (r := 1) (k := 1) rfl rfl rfl
theorem zd_503_8 : decode prog_14_method_27_code 8 = .ok (.aload_n 0, 1) := zsh_g zdk_503 (r := 2) (k := 0) rfl rfl rfl
theorem zd_503_9 : decode prog_14_method_27_code 9 = .ok (.getfield 190, 3) := zsh_g zdk_503 (r := 2) (k := 1) rfl rfl rfl
theorem zd_503_12 : decode prog_14_method_27_code 12 = .ok (.iload_n 1, 1) := zsh_g zdk_503 (r := 3) (k := 0) rfl rfl rfl
theorem zd_503_13 : decode prog_14_method_27_code 13 = .ok (.iaload, 1) := zsh_g zdk_503 (r := 3) (k := 1) rfl rfl rfl
def zdl_504 : List (List (Nat × Instr × Nat)) := [[(0, (.iload_n 1), 1), (1, (.ifCond .ge 7), 3)], [(0, (.iconst 0), 1), (1, (.goto 9), 3)], [(0, (.aload_n 0), 1), (1, (.getfield 187), 3)], [(0, (.iload_n 1), 1), (1, .iaload, 1)]]
theorem zdk_504 : zsh_all 8 zdl_504 prog_14_method_28_code.data.toList = true := by decide +kernel
theorem zd_504_0 : decode prog_14_method_28_code 0 = .ok (.iload_n 1, 1) := zsh_g zdk_504 (r := 0) (k := 0) rfl rfl rfl
theorem zd_504_1 : decode prog_14_method_28_code 1 = .ok (.ifCond .ge 7, 3) := zsh_g zdk_504 (r := 0) (k := 1) rfl rfl rfl
theorem zd_504_4 : decode prog_14_method_28_code 4 = .ok (.iconst 0, 1) := zsh_g zdk_504 (r := 1) (k := 0) rfl rfl rfl
theorem zd_504_5 : decode prog_14_method_28_code 5 = .ok (.goto 9, 3) := zsh_g zdk_504 (r := 1) (k := 1) rfl rfl rfl
theorem zd_504_8 : decode prog_14_method_28_code 8 = .ok (.aload_n 0, 1) := zsh_g zdk_504 (r := 2) (k := 0) rfl rfl rfl
theorem zd_504_9 : decode prog_14_method_28_code 9 = .ok (.getfield 187, 3) := zsh_g zdk_504 (r := 2) (k := 1) rfl rfl rfl
theorem zd_504_12 : decode prog_14_method_28_code 12 = .ok (.iload_n 1, 1) := zsh_g zdk_504 (r := 3) (k := 0) rfl rfl rfl
theorem zd_504_13 : decode prog_14_method_28_code 13 = .ok (.iaload, 1) := zsh_g zdk_504 (r := 3) (k := 1) rfl rfl rfl
def zdl_505 : List (List (Nat × Instr × Nat)) := [[(0, (.aload_n 0), 1), (1, (.invokevirtual 628), 3)], [(0, (.aload_n 0), 1), (1, .dup, 1), (2, (.getfield 576), 3)], [(1, (.iconst 1), 1), (2, .iadd, 1), (3, (.putfield 576), 3)], [(2, (.aload_n 0), 1), (3, (.bipush 41), 2)], [(1, (.invokevirtual 583), 3)], [(0, (.ifCond .eq 35), 3), (3, (.aload_n 0), 1)], [(0, .dup, 1), (1, (.getfield 576), 3)], [(0, (.iconst 1), 1), (1, .iadd, 1), (2, (.putfield 576), 3)], [(1, (.aload_n 0), 1), (2, .dup, 1), (3, (.getfield 601), 3)], [(2, (.iconst 1), 1), (3, .isub, 1)], [(0, (.putfield 601), 3), (3, (.aload_n 0), 1)], [(0, (.iload_n 1), 1), (1, (.iload_n 2), 1), (2, (.iconst 0), 1), (3, (.iload_n 3), 1)], [(0, (.iload 4), 2), (2, (.invokevirtual 645), 3)], [(1, (.iconst 1), 1), (3, (.aload_n 0), 1)], [(0, (.iconst 3), 1), (1, (.iload_n 3), 1), (2, (.iload_n 1), 1), (3, (.iload_n 2), 1)], [(0, (.invokevirtual 634), 3), (3, (.aload_n 0), 1)], [(0, (.getfield 262), 3), (3, (.aload_n 0), 1)], [(0, (.getfield 604), 3), (3, (.iconst 1), 1)], [(0, .isub, 1), (1, (.iload 4), 2), (3, .bastore, 1)], [(0, (.iconst 0), 1)]]
theorem zdk_505 : zsh_all 8 zdl_505 prog_14_method_35_code.data.toList = true := by decide +kernel
theorem zd_505_0 : decode prog_14_method_35_code 0 = .ok (.aload_n 0, 1) := zsh_g zdk_505 (r := 0) (k := 0) rfl rfl rfl
theorem zd_505_1 : decode prog_14_method_35_code 1 = .ok (.invokevirtual 628, 3) := zsh_g zdk_505 (r := 0) (k := 1) rfl rfl rfl
theorem zd_505_4 : decode prog_14_method_35_code 4 = .ok (.aload_n 0, 1) := zsh_g zdk_505 (r := 1) (k := 0) rfl rfl rfl
theorem zd_505_5 : decode prog_14_method_35_code 5 = .ok (.dup, 1) := zsh_g zdk_505 (r := 1) (k := 1) rfl rfl rfl
theorem zd_505_6 : decode prog_14_method_35_code 6 = .ok (.getfield 576, 3) := zsh_g zdk_505 (r := 1) (k := 2) rfl rfl rfl
theorem zd_505_9 : decode prog_14_method_35_code 9 = .ok (.iconst 1, 1) := zsh_g zdk_505 (r := 2) (k := 0) rfl rfl rfl
theorem zd_505_10 : decode prog_14_method_35_code 10 = .ok (.iadd, 1) := zsh_g zdk_505 (r := 2) (k := 1) rfl rfl rfl
theorem zd_505_11 : decode prog_14_method_35_code 11 = .ok (.putfield 576, 3) := zsh_g zdk_505 (r := 2) (k := 2) rfl rfl rfl
theorem zd_505_14 : decode prog_14_method_35_code 14 = .ok (.aload_n 0, 1) := zsh_g zdk_505 (r := 3) (k := 0) rfl rfl rfl
theorem zd_505_15 : decode prog_14_method_35_code 15 = .ok (.bipush 41, 2) := zsh_g zdk_505 (r := 3) (k := 1) rfl rfl rfl
theorem zd_505_17 : decode prog_14_method_35_code 17 = .ok (.invokevirtual 583, 3) := zsh_g zdk_505 (r := 4) (k := 0) rfl rfl rfl
theorem zd_505_20 : decode prog_14_method_35_code 20 = .ok (.ifCond .eq 35, 3) := zsh_g zdk_505 (r := 5) (k := 0) rfl rfl rfl
theorem zd_505_23 : decode prog_14_method_35_code 23 = .ok (.aload_n 0, 1) := zsh_g zdk_505 (r := 5) (k := 1) rfl rfl rfl
theorem zd_505_24 : decode prog_14_method_35_code 24 = .ok (.dup, 1) := zsh_g zdk_505 (r := 6) (k := 0) rfl rfl rfl
theorem zd_505_25 : decode prog_14_method_35_code 25 = .ok (.getfield 576, 3) := zsh_g zdk_505 (r := 6) (k := 1) rfl rfl rfl
theorem zd_505_28 : decode prog_14_method_35_code 28 = .ok (.iconst 1, 1) := zsh_g zdk_505 (r := 7) (k := 0) rfl rfl rfl
theorem zd_505_29 : decode prog_14_method_35_code 29 = .ok (.iadd, 1) := zsh_g zdk_505 (r := 7) (k := 1) rfl rfl rfl
theorem zd_505_30 : decode prog_14_method_35_code 30 = .ok (.putfield 576, 3) := zsh_g zdk_505 (r := 7) (k := 2) rfl rfl rfl
theorem zd_505_33 : decode prog_14_method_35_code 33 = .ok (.aload_n 0, 1) := zsh_g zdk_505 (r := 8) (k := 0) rfl rfl rfl
theorem zd_505_34 : decode prog_14_method_35_code 34 = .ok (.dup, 1) := zsh_g zdk_505 (r := 8) (k := 1) rfl rfl rfl
theorem zd_505_35 : decode prog_14_method_35_code 35 = .ok (.getfield 601, 3) := zsh_g zdk_505 (r := 8) (k := 2) rfl rfl rfl
theorem zd_505_38 : decode prog_14_method_35_code 38 = .ok (.iconst 1, 1) := zsh_g zdk_505 (r := 9) (k := 0) rfl rfl rfl
theorem zd_505_39 : decode prog_14_method_35_code 39 = .ok (.isub, 1) := zsh_g zdk_505 (r := 9) (k := 1) rfl rfl rfl
theorem zd_505_40 : decode prog_14_method_35_code 40 = .ok (.putfield 601, 3) := zsh_g zdk_505 (r := 10) (k := 0) rfl rfl rfl
theorem zd_505_43 : decode prog_14_method_35_code 43 = .ok (.aload_n 0, 1) := zsh_g zdk_505 (r := 10) (k := 1) rfl rfl rfl
theorem zd_505_44 : decode prog_14_method_35_code 44 = .ok (.iload_n 1, 1) := zsh_g zdk_505 (r := 11) (k := 0) rfl rfl rfl
theorem zd_505_45 : decode prog_14_method_35_code 45 = .ok (.iload_n 2, 1) := zsh_g zdk_505 (r := 11) (k := 1) rfl rfl rfl
theorem zd_505_46 : decode prog_14_method_35_code 46 = .ok (.iconst 0, 1) := zsh_g zdk_505 (r := 11) (k := 2) rfl rfl rfl
theorem zd_505_47 : decode prog_14_method_35_code 47 = .ok (.iload_n 3, 1) := zsh_g zdk_505 (r := 11) (k := 3) rfl rfl rfl
theorem zd_505_48 : decode prog_14_method_35_code 48 = .ok (.iload 4, 2) := zsh_g zdk_505 (r := 12) (k := 0) rfl rfl rfl
theorem zd_505_50 : decode prog_14_method_35_code 50 = .ok (.invokevirtual 645, 3) := zsh_g zdk_505 (r := 12) (k := 1) rfl rfl rfl
theorem zd_505_53 : decode prog_14_method_35_code 53 = .ok (.iconst 1, 1) := zsh_g zdk_505 (r := 13) (k := 0) rfl rfl rfl
theorem zd_505_55 : decode prog_14_method_35_code 55 = .ok (.aload_n 0, 1) := zsh_g zdk_505 (r := 13) (k := 1) rfl rfl rfl
theorem zd_505_56 : decode prog_14_method_35_code 56 = .ok (.iconst 3, 1) := zsh_g zdk_505 (r := 14) (k := 0) rfl rfl rfl
theorem zd_505_57 : decode prog_14_method_35_code 57 = .ok (.iload_n 3, 1) := zsh_g zdk_505 (r := 14) (k := 1) rfl rfl rfl
theorem zd_505_58 : decode prog_14_method_35_code 58 = .ok (.iload_n 1, 1) := zsh_g zdk_505 (r := 14) (k := 2) rfl rfl rfl
theorem zd_505_59 : decode prog_14_method_35_code 59 = .ok (.iload_n 2, 1) := zsh_g zdk_505 (r := 14) (k := 3) rfl rfl rfl
theorem zd_505_60 : decode prog_14_method_35_code 60 = .ok (.invokevirtual 634, 3) := zsh_g zdk_505 (r := 15) (k := 0) rfl rfl rfl
theorem zd_505_63 : decode prog_14_method_35_code 63 = .ok (.aload_n 0, 1) := zsh_g zdk_505 (r := 15) (k := 1) rfl rfl rfl
theorem zd_505_64 : decode prog_14_method_35_code 64 = .ok (.getfield 262, 3) := zsh_g zdk_505 (r := 16) (k := 0) rfl rfl rfl
theorem zd_505_67 : decode prog_14_method_35_code 67 = .ok (.aload_n 0, 1) := zsh_g zdk_505 (r := 16) (k := 1) rfl rfl rfl
theorem zd_505_68 : decode prog_14_method_35_code 68 = .ok (.getfield 604, 3) := zsh_g zdk_505 (r := 17) (k := 0) rfl rfl rfl
theorem zd_505_71 : decode prog_14_method_35_code 71 = .ok (.iconst 1, 1) := zsh_g zdk_505 (r := 17) (k := 1) rfl rfl rfl
theorem zd_505_72 : decode prog_14_method_35_code 72 = .ok (.isub, 1) := zsh_g zdk_505 (r := 18) (k := 0) rfl rfl rfl
theorem zd_505_73 : decode prog_14_method_35_code 73 = .ok (.iload 4, 2) := zsh_g zdk_505 (r := 18) (k := 1) rfl rfl rfl
theorem zd_505_75 : decode prog_14_method_35_code 75 = .ok (.bastore, 1) := zsh_g zdk_505 (r := 18) (k := 2) rfl rfl rfl
theorem zd_505_76 : decode prog_14_method_35_code 76 = .ok (.iconst 0, 1) := zsh_g zdk_505 (r := 19) (k := 0) rfl rfl rfl
def zdl_506 : List (List (Nat × Instr × Nat)) := [[(0, (.iconst 0), 1), (1, (.istore_n 1), 1), (2, (.aload_n 0), 1), (3, (.getfield 572), 3)], [(2, (.ifCond .ne 52), 3)], [(1, (.iload_n 1), 1), (2, (.ifCond .ne 11), 3)], [(1, (.aload_n 0), 1), (2, (.invokevirtual 661), 3)], [(1, (.istore_n 1), 1), (2, (.goto (-16)), 3)], [(1, (.aload_n 0), 1), (2, (.invokevirtual 665), 3)], [(1, (.ifCond .eq 8), 3)], [(0, (.iconst 0), 1), (1, (.istore_n 1), 1), (2, (.goto (-28)), 3)], [(1, (.aload_n 0), 1), (2, (.invokevirtual 668), 3)], [(1, (.istore_n 2), 1), (2, (.iload_n 2), 1), (3, (.iconst 2), 1)], [(0, (.if_icmp .ne 4), 3)], [(0, (.iload_n 2), 1), (1, (.iconst 1), 1), (2, (.if_icmp .ne 7), 3)], [(1, (.iconst 1), 1), (2, (.goto 4), 3)], [(1, (.iconst 0), 1), (2, (.istore_n 1), 1), (3, (.goto (-53)), 3)]]
theorem zdk_506 : zsh_all 8 zdl_506 prog_14_method_41_code.data.toList = true := by decide +kernel
theorem zd_506_0 : decode prog_14_method_41_code 0 = .ok (.iconst 0, 1) := zsh_g zdk_506 (r := 0) (k := 0) rfl rfl rfl
theorem zd_506_1 : decode prog_14_method_41_code 1 = .ok (.istore_n 1, 1) := zsh_g zdk_506 (r := 0) (k := 1) rfl rfl rfl
theorem zd_506_2 : decode prog_14_method_41_code 2 = .ok (.aload_n 0, 1) := zsh_g zdk_506 (r := 0) (k := 2) rfl rfl rfl
theorem zd_506_3 : decode prog_14_method_41_code 3 = .ok (.getfield 572, 3) := zsh_g zdk_506 (r := 0) (k := 3) rfl rfl rfl
theorem zd_506_6 : decode prog_14_method_41_code 6 = .ok (.ifCond .ne 52, 3) := zsh_g zdk_506 (r := 1) (k := 0) rfl rfl rfl
theorem zd_506_9 : decode prog_14_method_41_code 9 = .ok (.iload_n 1, 1) := zsh_g zdk_506 (r := 2) (k := 0) rfl rfl rfl
theorem zd_506_10 : decode prog_14_method_41_code 10 = .ok (.ifCond .ne 11, 3) := zsh_g zdk_506 (r := 2) (k := 1) rfl rfl rfl
theorem zd_506_13 : decode prog_14_method_41_code 13 = .ok (.aload_n 0, 1) := zsh_g zdk_506 (r := 3) (k := 0) rfl rfl rfl
theorem zd_506_14 : decode prog_14_method_41_code 14 = .ok (.invokevirtual 661, 3) := zsh_g zdk_506 (r := 3) (k := 1) rfl rfl rfl
theorem zd_506_17 : decode prog_14_method_41_code 17 = .ok (.istore_n 1, 1) := zsh_g zdk_506 (r := 4) (k := 0) rfl rfl rfl
theorem zd_506_18 : decode prog_14_method_41_code 18 = .ok (.goto (-16), 3) := zsh_g zdk_506 (r := 4) (k := 1) rfl rfl rfl
theorem zd_506_21 : decode prog_14_method_41_code 21 = .ok (.aload_n 0, 1) := zsh_g zdk_506 (r := 5) (k := 0) rfl rfl rfl
theorem zd_506_22 : decode prog_14_method_41_code 22 = .ok (.invokevirtual 665, 3) := zsh_g zdk_506 (r := 5) (k := 1) rfl rfl rfl
theorem zd_506_25 : decode prog_14_method_41_code 25 = .ok (.ifCond .eq 8, 3) := zsh_g zdk_506 (r := 6) (k := 0) rfl rfl rfl
theorem zd_506_28 : decode prog_14_method_41_code 28 = .ok (.iconst 0, 1) := zsh_g zdk_506 (r := 7) (k := 0) rfl rfl rfl
theorem zd_506_29 : decode prog_14_method_41_code 29 = .ok (.istore_n 1, 1) := zsh_g zdk_506 (r := 7) (k := 1) rfl rfl rfl
theorem zd_506_30 : decode prog_14_method_41_code 30 = .ok (.goto (-28), 3) := zsh_g zdk_506 (r := 7) (k := 2) rfl rfl rfl
theorem zd_506_33 : decode prog_14_method_41_code 33 = .ok (.aload_n 0, 1) := zsh_g zdk_506 (r := 8) (k := 0) rfl rfl rfl
theorem zd_506_34 : decode prog_14_method_41_code 34 = .ok (.invokevirtual 668, 3) := zsh_g zdk_506 (r := 8) (k := 1) rfl rfl rfl
theorem zd_506_37 : decode prog_14_method_41_code 37 = .ok (.istore_n 2, 1) := zsh_g zdk_506 (r := 9) (k := 0) rfl rfl rfl
theorem zd_506_38 : decode prog_14_method_41_code 38 = .ok (.iload_n 2, 1) := zsh_g zdk_506 (r := 9) (k := 1) rfl rfl rfl
theorem zd_506_39 : decode prog_14_method_41_code 39 = .ok (.iconst 2, 1) := zsh_g zdk_506 (r := 9) (k := 2) rfl rfl rfl
theorem zd_506_40 : decode prog_14_method_41_code 40 = .ok (.if_icmp .ne 4, 3) := zsh_g zdk_506 (r := 10) (k := 0) rfl rfl rfl
theorem zd_506_44 : decode prog_14_method_41_code 44 = .ok (.iload_n 2, 1) := zsh_g zdk_506 (r := 11) (k := 0) rfl rfl rfl
theorem zd_506_45 : decode prog_14_method_41_code 45 = .ok (.iconst 1, 1) := zsh_g zdk_506 (r := 11) (k := 1) rfl rfl rfl
theorem zd_506_46 : decode prog_14_method_41_code 46 = .ok (.if_icmp .ne 7, 3) := zsh_g zdk_506 (r := 11) (k := 2) rfl rfl rfl
theorem zd_506_49 : decode prog_14_method_41_code 49 = .ok (.iconst 1, 1) := zsh_g zdk_506 (r := 12) (k := 0) rfl rfl rfl
theorem zd_506_50 : decode prog_14_method_41_code 50 = .ok (.goto 4, 3) := zsh_g zdk_506 (r := 12) (k := 1) rfl rfl rfl
theorem zd_506_53 : decode prog_14_method_41_code 53 = .ok (.iconst 0, 1) := zsh_g zdk_506 (r := 13) (k := 0) rfl rfl rfl
theorem zd_506_54 : decode prog_14_method_41_code 54 = .ok (.istore_n 1, 1) := zsh_g zdk_506 (r := 13) (k := 1) rfl rfl rfl
theorem zd_506_55 : decode prog_14_method_41_code 55 = .ok (.goto (-53), 3) := zsh_g zdk_506 (r := 13) (k := 2) rfl rfl rfl
def zdl_507 : List (List (Nat × Instr × Nat)) := [[(0, (.aload_n 0), 1), (1, (.getfield 226), 3)], [(0, (.aload_n 0), 1), (1, (.getfield 604), 3)], [(0, (.iload_n 1), 1), (1, .iastore, 1), (2, (.aload_n 0), 1), (3, (.getfield 259), 3)], [(2, (.aload_n 0), 1), (3, (.getfield 604), 3)], [(2, (.iload_n 2), 1), (3, .iastore, 1)], [(0, (.aload_n 0), 1), (1, (.getfield 250), 3)], [(0, (.aload_n 0), 1), (1, (.getfield 604), 3)], [(0, (.iload_n 3), 1), (1, .iastore, 1), (2, (.aload_n 0), 1), (3, (.getfield 253), 3)], [(2, (.aload_n 0), 1), (3, (.getfield 604), 3)], [(2, (.iload 4), 2)], [(0, .iastore, 1), (1, (.aload_n 0), 1), (2, (.getfield 256), 3)], [(1, (.aload_n 0), 1), (2, (.getfield 604), 3)], [(1, (.iconst 0), 1), (2, .iastore, 1), (3, (.aload_n 0), 1)], [(0, (.getfield 262), 3), (3, (.aload_n 0), 1)], [(0, (.getfield 604), 3), (3, (.iconst 0), 1)], [(0, .bastore, 1), (1, (.aload_n 0), 1), (2, .dup, 1), (3, (.getfield 604), 3)], [(2, (.iconst 1), 1), (3, .iadd, 1)], [(0, (.putfield 604), 3), (3, (.aload_n 0), 1)], [(0, (.iload_n 2), 1), (1, (.invokevirtual 607), 3)]]
theorem zdk_507 : zsh_all 8 zdl_507 prog_14_method_30_code.data.toList = true := by decide +kernel
theorem zd_507_0 : decode prog_14_method_30_code 0 = .ok (.aload_n 0, 1) := zsh_g zdk_507 (r := 0) (k := 0) rfl rfl rfl
theorem zd_507_1 : decode prog_14_method_30_code 1 = .ok (.getfield 226, 3) := zsh_g zdk_507 (r := 0) (k := 1) rfl rfl rfl
theorem zd_507_4 : decode prog_14_method_30_code 4 = .ok (.aload_n 0, 1) := zsh_g zdk_507 (r := 1) (k := 0) rfl rfl rfl
theorem zd_507_5 : decode prog_14_method_30_code 5 = .ok (.getfield 604, 3) := zsh_g zdk_507 (r := 1) (k := 1) rfl rfl rfl
theorem zd_507_8 : decode prog_14_method_30_code 8 = .ok (.iload_n 1, 1) := zsh_g zdk_507 (r := 2) (k := 0) rfl rfl rfl
theorem zd_507_9 : decode prog_14_method_30_code 9 = .ok (.iastore, 1) := zsh_g zdk_507 (r := 2) (k := 1) rfl rfl rfl
theorem zd_507_10 : decode prog_14_method_30_code 10 = .ok (.aload_n 0, 1) := zsh_g zdk_507 (r := 2) (k := 2) rfl rfl rfl
theorem zd_507_11 : decode prog_14_method_30_code 11 = .ok (.getfield 259, 3) := zsh_g zdk_507 (r := 2) (k := 3) rfl rfl rfl
theorem zd_507_14 : decode prog_14_method_30_code 14 = .ok (.aload_n 0, 1) := zsh_g zdk_507 (r := 3) (k := 0) rfl rfl rfl
theorem zd_507_15 : decode prog_14_method_30_code 15 = .ok (.getfield 604, 3) := zsh_g zdk_507 (r := 3) (k := 1) rfl rfl rfl
theorem zd_507_18 : decode prog_14_method_30_code 18 = .ok (.iload_n 2, 1) := zsh_g zdk_507 (r := 4) (k := 0) rfl rfl rfl
theorem zd_507_19 : decode prog_14_method_30_code 19 = .ok (.iastore, 1) := zsh_g zdk_507 (r := 4) (k := 1) rfl rfl rfl
theorem zd_507_20 : decode prog_14_method_30_code 20 = .ok (.aload_n 0, 1) := zsh_g zdk_507 (r := 5) (k := 0) rfl rfl rfl
theorem zd_507_21 : decode prog_14_method_30_code 21 = .ok (.getfield 250, 3) := zsh_g zdk_507 (r := 5) (k := 1) rfl rfl rfl
theorem zd_507_24 : decode prog_14_method_30_code 24 = .ok (.aload_n 0, 1) := zsh_g zdk_507 (r := 6) (k := 0) rfl rfl rfl
theorem zd_507_25 : decode prog_14_method_30_code 25 = .ok (.getfield 604, 3) := zsh_g zdk_507 (r := 6) (k := 1) rfl rfl rfl
theorem zd_507_28 : decode prog_14_method_30_code 28 = .ok (.iload_n 3, 1) := zsh_g zdk_507 (r := 7) (k := 0) rfl rfl rfl
theorem zd_507_29 : decode prog_14_method_30_code 29 = .ok (.iastore, 1) := zsh_g zdk_507 (r := 7) (k := 1) rfl rfl rfl
theorem zd_507_30 : decode prog_14_method_30_code 30 = .ok (.aload_n 0, 1) := zsh_g zdk_507 (r := 7) (k := 2) rfl rfl rfl
theorem zd_507_31 : decode prog_14_method_30_code 31 = .ok (.getfield 253, 3) := zsh_g zdk_507 (r := 7) (k := 3) rfl rfl rfl
theorem zd_507_34 : decode prog_14_method_30_code 34 = .ok (.aload_n 0, 1) := zsh_g zdk_507 (r := 8) (k := 0) rfl rfl rfl
theorem zd_507_35 : decode prog_14_method_30_code 35 = .ok (.getfield 604, 3) := zsh_g zdk_507 (r := 8) (k := 1) rfl rfl rfl
theorem zd_507_38 : decode prog_14_method_30_code 38 = .ok (.iload 4, 2) := zsh_g zdk_507 (r := 9) (k := 0) rfl rfl rfl
theorem zd_507_40 : decode prog_14_method_30_code 40 = .ok (.iastore, 1) := zsh_g zdk_507 (r := 10) (k := 0) rfl rfl rfl
theorem zd_507_41 : decode prog_14_method_30_code 41 = .ok (.aload_n 0, 1) := zsh_g zdk_507 (r := 10) (k := 1) rfl rfl rfl
theorem zd_507_42 : decode prog_14_method_30_code 42 = .ok (.getfield 256, 3) := zsh_g zdk_507 (r := 10) (k := 2) rfl rfl rfl
theorem zd_507_45 : decode prog_14_method_30_code 45 = .ok (.aload_n 0, 1) := zsh_g zdk_507 (r := 11) (k := 0) rfl rfl rfl
theorem zd_507_46 : decode prog_14_method_30_code 46 = .ok (.getfield 604, 3) := zsh_g zdk_507 (r := 11) (k := 1) rfl rfl rfl
theorem zd_507_49 : decode prog_14_method_30_code 49 = .ok (.iconst 0, 1) := zsh_g zdk_507 (r := 12) (k := 0) rfl rfl rfl
theorem zd_507_50 : decode prog_14_method_30_code 50 = .ok (.iastore, 1) := zsh_g zdk_507 (r := 12) (k := 1) rfl rfl rfl
theorem zd_507_51 : decode prog_14_method_30_code 51 = .ok (.aload_n 0, 1) := zsh_g zdk_507 (r := 12) (k := 2) rfl rfl rfl
theorem zd_507_52 : decode prog_14_method_30_code 52 = .ok (.getfield 262, 3) := zsh_g zdk_507 (r := 13) (k := 0) rfl rfl rfl
theorem zd_507_55 : decode prog_14_method_30_code 55 = .ok (.aload_n 0, 1) := zsh_g zdk_507 (r := 13) (k := 1) rfl rfl rfl
theorem zd_507_56 : decode prog_14_method_30_code 56 = .ok (.getfield 604, 3) := zsh_g zdk_507 (r := 14) (k := 0) rfl rfl rfl
theorem zd_507_59 : decode prog_14_method_30_code 59 = .ok (.iconst 0, 1) := zsh_g zdk_507 (r := 14) (k := 1) rfl rfl rfl
theorem zd_507_60 : decode prog_14_method_30_code 60 = .ok (.bastore, 1) := zsh_g zdk_507 (r := 15) (k := 0) rfl rfl rfl
theorem zd_507_61 : decode prog_14_method_30_code 61 = .ok (.aload_n 0, 1) := zsh_g zdk_507 (r := 15) (k := 1) rfl rfl rfl
theorem zd_507_62 : decode prog_14_method_30_code 62 = .ok (.dup, 1) := zsh_g zdk_507 (r := 15) (k := 2) rfl rfl rfl
theorem zd_507_63 : decode prog_14_method_30_code 63 = .ok (.getfield 604, 3) := zsh_g zdk_507 (r := 15) (k := 3) rfl rfl rfl
theorem zd_507_66 : decode prog_14_method_30_code 66 = .ok (.iconst 1, 1) := zsh_g zdk_507 (r := 16) (k := 0) rfl rfl rfl
theorem zd_507_67 : decode prog_14_method_30_code 67 = .ok (.iadd, 1) := zsh_g zdk_507 (r := 16) (k := 1) rfl rfl rfl
theorem zd_507_68 : decode prog_14_method_30_code 68 = .ok (.putfield 604, 3) := zsh_g zdk_507 (r := 17) (k := 0) rfl rfl rfl
theorem zd_507_71 : decode prog_14_method_30_code 71 = .ok (.aload_n 0, 1) := zsh_g zdk_507 (r := 17) (k := 1) rfl rfl rfl
theorem zd_507_72 : decode prog_14_method_30_code 72 = .ok (.iload_n 2, 1) := zsh_g zdk_507 (r := 18) (k := 0) rfl rfl rfl
theorem zd_507_73 : decode prog_14_method_30_code 73 = .ok (.invokevirtual 607, 3) := zsh_g zdk_507 (r := 18) (k := 1) rfl rfl rfl
def zdl_508 : List (List (Nat × Instr × Nat)) := [[(0, (.iconst (-1)), 1), (1, (.istore_n 2), 1), (2, (.iconst 0), 1), (3, (.istore_n 3), 1)], [(0, (.iload_n 3), 1), (1, (.aload_n 0), 1), (2, (.getfield 1450), 3)], [(1, (.if_icmp .ge 25), 3)], [(0, (.aload_n 0), 1), (1, (.getfield 335), 3)], [(0, (.iload_n 3), 1), (1, .iaload, 1), (2, (.iload_n 1), 1), (3, (.if_icmp .ne 7), 3)], [(2, (.iload_n 3), 1), (3, (.goto 4), 3)], [(2, (.iload_n 2), 1), (3, (.istore_n 2), 1)], [(0, (.iinc 3 1), 3), (3, (.goto (-27)), 3)], [(2, (.iload_n 2), 1)]]
theorem zdk_508 : zsh_all 8 zdl_508 prog_14_method_163_code.data.toList = true := by decide +kernel
theorem zd_508_0 : decode prog_14_method_163_code 0 = .ok (.iconst (-1), 1) := zsh_g zdk_508 (r := 0) (k := 0) rfl rfl rfl
theorem zd_508_1 : decode prog_14_method_163_code 1 = .ok (.istore_n 2, 1) := zsh_g zdk_508 (r := 0) (k := 1) rfl rfl rfl
theorem zd_508_2 : decode prog_14_method_163_code 2 = .ok (.iconst 0, 1) := zsh_g zdk_508 (r := 0) (k := 2) rfl rfl rfl
theorem zd_508_3 : decode prog_14_method_163_code 3 = .ok (.istore_n 3, 1) := zsh_g zdk_508 (r := 0) (k := 3) rfl rfl rfl
theorem zd_508_4 : decode prog_14_method_163_code 4 = .ok (.iload_n 3, 1) := zsh_g zdk_508 (r := 1) (k := 0) rfl rfl rfl
theorem zd_508_5 : decode prog_14_method_163_code 5 = .ok (.aload_n 0, 1) := zsh_g zdk_508 (r := 1) (k := 1) rfl rfl rfl
theorem zd_508_6 : decode prog_14_method_163_code 6 = .ok (.getfield 1450, 3) := zsh_g zdk_508 (r := 1) (k := 2) rfl rfl rfl
theorem zd_508_9 : decode prog_14_method_163_code 9 = .ok (.if_icmp .ge 25, 3) := zsh_g zdk_508 (r := 2) (k := 0) rfl rfl rfl
theorem zd_508_12 : decode prog_14_method_163_code 12 = .ok (.aload_n 0, 1) := zsh_g zdk_508 (r := 3) (k := 0) rfl rfl rfl
theorem zd_508_13 : decode prog_14_method_163_code 13 = .ok (.getfield 335, 3) := zsh_g zdk_508 (r := 3) (k := 1) rfl rfl rfl
theorem zd_508_16 : decode prog_14_method_163_code 16 = .ok (.iload_n 3, 1) := zsh_g zdk_508 (r := 4) (k := 0) rfl rfl rfl
theorem zd_508_17 : decode prog_14_method_163_code 17 = .ok (.iaload, 1) := zsh_g zdk_508 (r := 4) (k := 1) rfl rfl rfl
theorem zd_508_18 : decode prog_14_method_163_code 18 = .ok (.iload_n 1, 1) := zsh_g zdk_508 (r := 4) (k := 2) rfl rfl rfl
theorem zd_508_19 : decode prog_14_method_163_code 19 = .ok (.if_icmp .ne 7, 3) := zsh_g zdk_508 (r := 4) (k := 3) rfl rfl rfl
theorem zd_508_22 : decode prog_14_method_163_code 22 = .ok (.iload_n 3, 1) := zsh_g zdk_508 (r := 5) (k := 0) rfl rfl rfl
theorem zd_508_23 : decode prog_14_method_163_code 23 = .ok (.goto 4, 3) := zsh_g zdk_508 (r := 5) (k := 1) rfl rfl rfl
theorem zd_508_26 : decode prog_14_method_163_code 26 = .ok (.iload_n 2, 1) := zsh_g zdk_508 (r := 6) (k := 0) rfl rfl rfl
theorem zd_508_27 : decode prog_14_method_163_code 27 = .ok (.istore_n 2, 1) := zsh_g zdk_508 (r := 6) (k := 1) rfl rfl rfl
theorem zd_508_28 : decode prog_14_method_163_code 28 = .ok (.iinc 3 1, 3) := zsh_g zdk_508 (r := 7) (k := 0) rfl rfl rfl
theorem zd_508_31 : decode prog_14_method_163_code 31 = .ok (.goto (-27), 3) := zsh_g zdk_508 (r := 7) (k := 1) rfl rfl rfl
theorem zd_508_34 : decode prog_14_method_163_code 34 = .ok (.iload_n 2, 1) := zsh_g zdk_508 (r := 8) (k := 0) rfl rfl rfl
def zdl_509 : List (List (Nat × Instr × Nat)) := [[(0, (.aload_n 0), 1), (1, (.getfield 1447), 3)], [(0, (.istore_n 2), 1), (1, (.iconst 0), 1), (2, (.istore_n 3), 1), (3, (.iconst 1), 1)], [(0, (.istore 4), 2), (2, (.aload_n 0), 1), (3, (.getfield 1468), 3)], [(2, (.istore 5), 2)], [(0, (.aload_n 0), 1), (1, (.invokevirtual 1225), 3)], [(0, (.aload_n 0), 1), (1, (.getfield 1219), 3)], [(0, (.aload_n 0), 1), (1, (.getfield 1204), 3)], [(0, (.if_icmp .ge 228), 3), (3, (.iload 4), 2)], [(1, (.ifCond .eq 223), 3)], [(0, (.aload_n 0), 1), (1, (.getfield 1219), 3)], [(0, (.istore 6), 2), (2, (.iload 6), 2)], [(0, (.aload_n 0), 1), (1, (.getfield 1204), 3)], [(0, (.if_icmp .ge 21), 3), (3, (.aload_n 0), 1)], [(0, (.getfield 298), 3), (3, (.iload 6), 2)], [(1, .iaload, 1), (2, (.bipush 44), 2)], [(0, (.if_icmp .eq 9), 3), (3, (.iinc 6 1), 3)], [(2, (.goto (-24)), 3)], [(1, (.aload_n 0), 1), (2, (.getfield 1219), 3)], [(1, (.istore 7), 2), (3, (.iload 6), 2)], [(1, (.istore 8), 2), (3, (.iload 7), 2)], [(1, (.iload 8), 2), (3, (.if_icmp .ge 21), 3)], [(2, (.aload_n 0), 1), (3, (.getfield 298), 3)], [(2, (.iload 7), 2)], [(0, .iaload, 1), (1, (.bipush 32), 2), (3, (.if_icmp .ne 9), 3)], [(2, (.iinc 7 1), 3)], [(1, (.goto (-22)), 3)], [(0, (.iload 7), 2), (2, (.iload 8), 2)], [(0, (.if_icmp .ge 23), 3), (3, (.aload_n 0), 1)], [(0, (.getfield 298), 3), (3, (.iload 8), 2)], [(1, (.iconst 1), 1), (2, .isub, 1), (3, .iaload, 1)], [(0, (.bipush 32), 2), (2, (.if_icmp .ne 9), 3)], [(1, (.iinc 8 (-1)), 3)], [(0, (.goto (-24)), 3), (3, (.iload 7), 2)], [(1, (.iload 8), 2), (3, (.if_icmp .ge 12), 3)], [(2, (.iload_n 3), 1), (3, (.iconst 4), 1)], [(0, (.if_icmp .ge 7), 3), (3, (.iconst 1), 1)], [(0, (.goto 4), 3), (3, (.iconst 0), 1)], [(0, (.istore 4), 2), (2, (.iload 4), 2)], [(0, (.ifCond .eq 67), 3), (3, (.iload_n 2), 1)], [(0, (.bipush 12), 2), (2, (.if_icmp .ge 61), 3)], [(1, (.aload_n 0), 1), (2, (.getfield 329), 3)], [(1, (.iconst 4), 1), (2, (.iload_n 2), 1), (3, .imul, 1)], [(0, (.iload_n 3), 1), (1, .iadd, 1), (2, (.iload 5), 2)], [(0, .iastore, 1), (1, (.iload 7), 2), (3, (.istore 9), 2)], [(1, (.iload 9), 2), (3, (.iload 8), 2)], [(1, (.if_icmp .ge 26), 3)], [(0, (.aload_n 0), 1), (1, (.getfield 326), 3)], [(0, (.iload 5), 2), (2, (.aload_n 0), 1), (3, (.getfield 298), 3)], [(2, (.iload 9), 2)], [(0, .iaload, 1), (1, .iastore, 1), (2, (.iinc 5 1), 3)], [(1, (.iinc 9 1), 3)], [(0, (.goto (-27)), 3), (3, (.aload_n 0), 1)], [(0, (.getfield 332), 3), (3, (.iconst 4), 1)], [(0, (.iload_n 2), 1), (1, .imul, 1), (2, (.iload_n 3), 1), (3, .iadd, 1)], [(0, (.iload 5), 2), (2, .iastore, 1), (3, (.iinc 3 1), 3)], [(2, (.iload 4), 2)], [(0, (.ifCond .eq 18), 3), (3, (.iload 6), 2)], [(1, (.aload_n 0), 1), (2, (.getfield 1204), 3)], [(1, (.iconst 1), 1), (2, .isub, 1), (3, (.if_icmp .eq 7), 3)], [(2, (.iconst 1), 1), (3, (.goto 4), 3)], [(2, (.iconst 0), 1), (3, (.istore 4), 2)], [(1, (.aload_n 0), 1), (2, (.iload 6), 2)], [(0, (.iconst 1), 1), (1, .iadd, 1), (2, (.putfield 1219), 3)], [(1, (.goto (-233)), 3)], [(0, (.iload 4), 2), (2, (.ifCond .eq 13), 3)], [(1, (.iload_n 3), 1), (2, (.aload_n 0), 1), (3, (.getfield 344), 3)], [(2, (.iload_n 1), 1), (3, .iaload, 1)], [(0, (.if_icmp .eq 9), 3), (3, (.aload_n 0), 1)], [(0, (.iconst 1), 1), (1, (.invokevirtual 1216), 3)], [(1, (.aload_n 0), 1), (2, (.getfield 1447), 3)], [(1, (.bipush 11), 2), (3, (.if_icmp .ne 10), 3)], [(2, (.aload_n 0), 1), (3, (.bipush 6), 2)], [(1, (.invokevirtual 1216), 3)], [(1, (.aload_n 0), 1), (2, (.getfield 446), 3)], [(1, (.iload_n 2), 1), (2, (.aload_n 0), 1), (3, (.getfield 1468), 3)], [(2, .iastore, 1), (3, (.aload_n 0), 1)], [(0, (.iload 5), 2), (2, (.putfield 1468), 3)], [(1, (.aload_n 0), 1), (2, (.aload_n 0), 1), (3, (.getfield 338), 3)], [(2, (.iload_n 1), 1), (3, .iaload, 1)], [(0, (.aload_n 0), 1), (1, (.getfield 341), 3)], [(0, (.iload_n 1), 1), (1, .iaload, 1), (2, (.iconst 1), 1), (3, (.iload_n 1), 1)], [(0, (.iload_n 2), 1), (1, (.invokevirtual 1471), 3)], [(0, (.aload_n 0), 1), (1, .dup, 1), (2, (.getfield 1465), 3)], [(1, (.iconst 1), 1), (2, .iadd, 1), (3, (.putfield 1465), 3)]]
theorem zdk_509 : zsh_all 8 zdl_509 prog_14_method_168_code.data.toList = true := by decide +kernel
theorem zd_509_0 : decode prog_14_method_168_code 0 = .ok (.aload_n 0, 1) := zsh_g zdk_509 (r := 0) (k := 0) rfl rfl rfl
theorem zd_509_1 : decode prog_14_method_168_code 1 = .ok (.getfield 1447, 3) := zsh_g zdk_509 (r := 0) (k := 1) rfl rfl rfl
theorem zd_509_4 : decode prog_14_method_168_code 4 = .ok (.istore_n 2, 1) := zsh_g zdk_509 (r := 1) (k := 0) rfl rfl rfl
theorem zd_509_5 : decode prog_14_method_168_code 5 = .ok (.iconst 0, 1) := zsh_g zdk_509 (r := 1) (k := 1) rfl rfl rfl
theorem zd_509_6 : decode prog_14_method_168_code 6 = .ok (.istore_n 3, 1) := zsh_g zdk_509 (r := 1) (k := 2) rfl rfl rfl
theorem zd_509_7 : decode prog_14_method_168_code 7 = .ok (.iconst 1, 1) := zsh_g zdk_509 (r := 1) (k := 3) rfl rfl rfl
theorem zd_509_8 : decode prog_14_method_168_code 8 = .ok (.istore 4, 2) := zsh_g zdk_509 (r := 2) (k := 0) rfl rfl rfl
theorem zd_509_10 : decode prog_14_method_168_code 10 = .ok (.aload_n 0, 1) := zsh_g zdk_509 (r := 2) (k := 1) rfl rfl rfl
theorem zd_509_11 : decode prog_14_method_168_code 11 = .ok (.getfield 1468, 3) := zsh_g zdk_509 (r := 2) (k := 2) rfl rfl rfl
theorem zd_509_14 : decode prog_14_method_168_code 14 = .ok (.istore 5, 2) := zsh_g zdk_509 (r := 3) (k := 0) rfl rfl rfl
theorem zd_509_16 : decode prog_14_method_168_code 16 = .ok (.aload_n 0, 1) := zsh_g zdk_509 (r := 4) (k := 0) rfl rfl rfl
theorem zd_509_17 : decode prog_14_method_168_code 17 = .ok (.invokevirtual 1225, 3) := zsh_g zdk_509 (r := 4) (k := 1) rfl rfl rfl
theorem zd_509_20 : decode prog_14_method_168_code 20 = .ok (.aload_n 0, 1) := zsh_g zdk_509 (r := 5) (k := 0) rfl rfl rfl
theorem zd_509_21 : decode prog_14_method_168_code 21 = .ok (.getfield 1219, 3) := zsh_g zdk_509 (r := 5) (k := 1) rfl rfl rfl
theorem zd_509_24 : decode prog_14_method_168_code 24 = .ok (.aload_n 0, 1) := zsh_g zdk_509 (r := 6) (k := 0) rfl rfl rfl
theorem zd_509_25 : decode prog_14_method_168_code 25 = .ok (.getfield 1204, 3) := zsh_g zdk_509 (r := 6) (k := 1) rfl rfl rfl
theorem zd_509_28 : decode prog_14_method_168_code 28 = .ok (.if_icmp .ge 228, 3) := zsh_g zdk_509 (r := 7) (k := 0) rfl rfl rfl
theorem zd_509_31 : decode prog_14_method_168_code 31 = .ok (.iload 4, 2) := zsh_g zdk_509 (r := 7) (k := 1) rfl rfl rfl
theorem zd_509_33 : decode prog_14_method_168_code 33 = .ok (.ifCond .eq 223, 3) := zsh_g zdk_509 (r := 8) (k := 0) rfl rfl rfl
theorem zd_509_36 : decode prog_14_method_168_code 36 = .ok (.aload_n 0, 1) := zsh_g zdk_509 (r := 9) (k := 0) rfl rfl rfl
theorem zd_509_37 : decode prog_14_method_168_code 37 = .ok (.getfield 1219, 3) := zsh_g zdk_509 (r := 9) (k := 1) rfl rfl rfl
theorem zd_509_40 : decode prog_14_method_168_code 40 = .ok (.istore 6, 2) := zsh_g zdk_509 (r := 10) (k := 0) rfl rfl rfl
theorem zd_509_42 : decode prog_14_method_168_code 42 = .ok (.iload 6, 2) := zsh_g zdk_509 (r := 10) (k := 1) rfl rfl rfl
theorem zd_509_44 : decode prog_14_method_168_code 44 = .ok (.aload_n 0, 1) := zsh_g zdk_509 (r := 11) (k := 0) rfl rfl rfl
theorem zd_509_45 : decode prog_14_method_168_code 45 = .ok (.getfield 1204, 3) := zsh_g zdk_509 (r := 11) (k := 1) rfl rfl rfl
theorem zd_509_48 : decode prog_14_method_168_code 48 = .ok (.if_icmp .ge 21, 3) := zsh_g zdk_509 (r := 12) (k := 0) rfl rfl rfl
theorem zd_509_51 : decode prog_14_method_168_code 51 = .ok (.aload_n 0, 1) := zsh_g zdk_509 (r := 12) (k := 1) rfl rfl rfl
theorem zd_509_52 : decode prog_14_method_168_code 52 = .ok (.getfield 298, 3) := zsh_g zdk_509 (r := 13) (k := 0) rfl rfl rfl
theorem zd_509_55 : decode prog_14_method_168_code 55 = .ok (.iload 6, 2) := zsh_g zdk_509 (r := 13) (k := 1) rfl rfl rfl
theorem zd_509_57 : decode prog_14_method_168_code 57 = .ok (.iaload, 1) := zsh_g zdk_509 (r := 14) (k := 0) rfl rfl rfl
theorem zd_509_58 : decode prog_14_method_168_code 58 = .ok (.bipush 44, 2) := zsh_g zdk_509 (r := 14) (k := 1) rfl rfl rfl
theorem zd_509_60 : decode prog_14_method_168_code 60 = .ok (.if_icmp .eq 9, 3) := zsh_g zdk_509 (r := 15) (k := 0) rfl rfl rfl
theorem zd_509_63 : decode prog_14_method_168_code 63 = .ok (.iinc 6 1, 3) := zsh_g zdk_509 (r := 15) (k := 1) rfl rfl rfl
theorem zd_509_66 : decode prog_14_method_168_code 66 = .ok (.goto (-24), 3) := zsh_g zdk_509 (r := 16) (k := 0) rfl rfl rfl
theorem zd_509_69 : decode prog_14_method_168_code 69 = .ok (.aload_n 0, 1) := zsh_g zdk_509 (r := 17) (k := 0) rfl rfl rfl
theorem zd_509_70 : decode prog_14_method_168_code 70 = .ok (.getfield 1219, 3) := zsh_g zdk_509 (r := 17) (k := 1) rfl rfl rfl
theorem zd_509_73 : decode prog_14_method_168_code 73 = .ok (.istore 7, 2) := zsh_g zdk_509 (r := 18) (k := 0) rfl rfl rfl
theorem zd_509_75 : decode prog_14_method_168_code 75 = .ok (.iload 6, 2) := zsh_g zdk_509 (r := 18) (k := 1) rfl rfl rfl
theorem zd_509_77 : decode prog_14_method_168_code 77 = .ok (.istore 8, 2) := zsh_g zdk_509 (r := 19) (k := 0) rfl rfl rfl
theorem zd_509_79 : decode prog_14_method_168_code 79 = .ok (.iload 7, 2) := zsh_g zdk_509 (r := 19) (k := 1) rfl rfl rfl
theorem zd_509_81 : decode prog_14_method_168_code 81 = .ok (.iload 8, 2) := zsh_g zdk_509 (r := 20) (k := 0) rfl rfl rfl
theorem zd_509_83 : decode prog_14_method_168_code 83 = .ok (.if_icmp .ge 21, 3) := zsh_g zdk_509 (r := 20) (k := 1) rfl rfl rfl
theorem zd_509_86 : decode prog_14_method_168_code 86 = .ok (.aload_n 0, 1) := zsh_g zdk_509 (r := 21) (k := 0) rfl rfl rfl
theorem zd_509_87 : decode prog_14_method_168_code 87 = .ok (.getfield 298, 3) := zsh_g zdk_509 (r := 21) (k := 1) rfl rfl rfl
theorem zd_509_90 : decode prog_14_method_168_code 90 = .ok (.iload 7, 2) := zsh_g zdk_509 (r := 22) (k := 0) rfl rfl rfl
theorem zd_509_92 : decode prog_14_method_168_code 92 = .ok (.iaload, 1) := zsh_g zdk_509 (r := 23) (k := 0) rfl rfl rfl
theorem zd_509_93 : decode prog_14_method_168_code 93 = .ok (.bipush 32, 2) := zsh_g zdk_509 (r := 23) (k := 1) rfl rfl rfl
theorem zd_509_95 : decode prog_14_method_168_code 95 = .ok (.if_icmp .ne 9, 3) := zsh_g zdk_509 (r := 23) (k := 2) rfl rfl rfl
theorem zd_509_98 : decode prog_14_method_168_code 98 = .ok (.iinc 7 1, 3) := zsh_g zdk_509 (r := 24) (k := 0) rfl rfl rfl
theorem zd_509_101 : decode prog_14_method_168_code 101 = .ok (.goto (-22), 3) := zsh_g zdk_509 (r := 25) (k := 0) rfl rfl rfl
theorem zd_509_104 : decode prog_14_method_168_code 104 = .ok (.iload 7, 2) := zsh_g zdk_509 (r := 26) (k := 0) rfl rfl rfl
theorem zd_509_106 : decode prog_14_method_168_code 106 = .ok (.iload 8, 2) := zsh_g zdk_509 (r := 26) (k := 1) rfl rfl rfl
theorem zd_509_108 : decode prog_14_method_168_code 108 = .ok (.if_icmp .ge 23, 3) := zsh_g zdk_509 (r := 27) (k := 0) rfl rfl rfl
theorem zd_509_111 : decode prog_14_method_168_code 111 = .ok (.aload_n 0, 1) := zsh_g zdk_509 (r := 27) (k := 1) rfl rfl rfl
theorem zd_509_112 : decode prog_14_method_168_code 112 = .ok (.getfield 298, 3) := zsh_g zdk_509 (r := 28) (k := 0) rfl rfl rfl
theorem zd_509_115 : decode prog_14_method_168_code 115 = .ok (.iload 8, 2) := zsh_g zdk_509 (r := 28) (k := 1) rfl rfl rfl
theorem zd_509_117 : decode prog_14_method_168_code 117 = .ok (.iconst 1, 1) := zsh_g zdk_509 (r := 29) (k := 0) rfl rfl rfl
theorem zd_509_118 : decode prog_14_method_168_code 118 = .ok (.isub, 1) := zsh_g zdk_509 (r := 29) (k := 1) rfl rfl rfl
theorem zd_509_119 : decode prog_14_method_168_code 119 = .ok (.iaload, 1) := zsh_g zdk_509 (r := 29) (k := 2) rfl rfl rfl
theorem zd_509_120 : decode prog_14_method_168_code 120 = .ok (.bipush 32, 2) := zsh_g zdk_509 (r := 30) (k := 0) rfl rfl rfl
theorem zd_509_122 : decode prog_14_method_168_code 122 = .ok (.if_icmp .ne 9, 3) := zsh_g zdk_509 (r := 30) (k := 1) rfl rfl rfl
theorem zd_509_125 : decode prog_14_method_168_code 125 = .ok (.iinc 8 (-1), 3) := zsh_g zdk_509 (r := 31) (k := 0) rfl rfl rfl
theorem zd_509_128 : decode prog_14_method_168_code 128 = .ok (.goto (-24), 3) := zsh_g zdk_509 (r := 32) (k := 0) rfl rfl rfl
theorem zd_509_131 : decode prog_14_method_168_code 131 = .ok (.iload 7, 2) := zsh_g zdk_509 (r := 32) (k := 1) rfl rfl rfl
theorem zd_509_133 : decode prog_14_method_168_code 133 = .ok (.iload 8, 2) := zsh_g zdk_509 (r := 33) (k := 0) rfl rfl rfl
theorem zd_509_135 : decode prog_14_method_168_code 135 = .ok (.if_icmp .ge 12, 3) := zsh_g zdk_509 (r := 33) (k := 1) rfl rfl rfl
theorem zd_509_138 : decode prog_14_method_168_code 138 = .ok (.iload_n 3, 1) := zsh_g zdk_509 (r := 34) (k := 0) rfl rfl rfl
theorem zd_509_139 : decode prog_14_method_168_code 139 = .ok (.iconst 4, 1) := zsh_g zdk_509 (r := 34) (k := 1) rfl rfl rfl
theorem zd_509_140 : decode prog_14_method_168_code 140 = .ok (.if_icmp .ge 7, 3) := zsh_g zdk_509 (r := 35) (k := 0) rfl rfl rfl
theorem zd_509_143 : decode prog_14_method_168_code 143 = .ok (.iconst 1, 1) := zsh_g zdk_509 (r := 35) (k := 1) rfl rfl rfl
theorem zd_509_144 : decode prog_14_method_168_code 144 = .ok (.goto 4, 3) := zsh_g zdk_509 (r := 36) (k := 0) rfl rfl rfl
theorem zd_509_147 : decode prog_14_method_168_code 147 = .ok (.iconst 0, 1) := zsh_g zdk_509 (r := 36) (k := 1) rfl rfl rfl
theorem zd_509_148 : decode prog_14_method_168_code 148 = .ok (.istore 4, 2) := zsh_g zdk_509 (r := 37) (k := 0) rfl rfl rfl
theorem zd_509_150 : decode prog_14_method_168_code 150 = .ok (.iload 4, 2) := zsh_g zdk_509 (r := 37) (k := 1) rfl rfl rfl
theorem zd_509_152 : decode prog_14_method_168_code 152 = .ok (.ifCond .eq 67, 3) := zsh_g zdk_509 (r := 38) (k := 0) rfl rfl rfl
theorem zd_509_155 : decode prog_14_method_168_code 155 = .ok (.iload_n 2, 1) := zsh_g zdk_509 (r := 38) (k := 1) rfl rfl rfl
theorem zd_509_156 : decode prog_14_method_168_code 156 = .ok (.bipush 12, 2) := zsh_g zdk_509 (r := 39) (k := 0) rfl rfl rfl
theorem zd_509_158 : decode prog_14_method_168_code 158 = .ok (.if_icmp .ge 61, 3) := zsh_g zdk_509 (r := 39) (k := 1) rfl rfl rfl
theorem zd_509_161 : decode prog_14_method_168_code 161 = .ok (.aload_n 0, 1) := zsh_g zdk_509 (r := 40) (k := 0) rfl rfl rfl
theorem zd_509_162 : decode prog_14_method_168_code 162 = .ok (.getfield 329, 3) := zsh_g zdk_509 (r := 40) (k := 1) rfl rfl rfl
theorem zd_509_165 : decode prog_14_method_168_code 165 = .ok (.iconst 4, 1) := zsh_g zdk_509 (r := 41) (k := 0) rfl rfl rfl
theorem zd_509_166 : decode prog_14_method_168_code 166 = .ok (.iload_n 2, 1) := zsh_g zdk_509 (r := 41) (k := 1) rfl rfl rfl
theorem zd_509_167 : decode prog_14_method_168_code 167 = .ok (.imul, 1) := zsh_g zdk_509 (r := 41) (k := 2) rfl rfl rfl
theorem zd_509_168 : decode prog_14_method_168_code 168 = .ok (.iload_n 3, 1) := zsh_g zdk_509 (r := 42) (k := 0) rfl rfl rfl
theorem zd_509_169 : decode prog_14_method_168_code 169 = .ok (.iadd, 1) := zsh_g zdk_509 (r := 42) (k := 1) rfl rfl rfl
theorem zd_509_170 : decode prog_14_method_168_code 170 = .ok (.iload 5, 2) := zsh_g zdk_509 (r := 42) (k := 2) rfl rfl rfl
theorem zd_509_172 : decode prog_14_method_168_code 172 = .ok (.iastore, 1) := zsh_g zdk_509 (r := 43) (k := 0) rfl rfl rfl
theorem zd_509_173 : decode prog_14_method_168_code 173 = .ok (.iload 7, 2) := zsh_g zdk_509 (r := 43) (k := 1) rfl rfl rfl
theorem zd_509_175 : decode prog_14_method_168_code 175 = .ok (.istore 9, 2) := zsh_g zdk_509 (r := 43) (k := 2) rfl rfl rfl
theorem zd_509_177 : decode prog_14_method_168_code 177 = .ok (.iload 9, 2) := zsh_g zdk_509 (r := 44) (k := 0) rfl rfl rfl
theorem zd_509_179 : decode prog_14_method_168_code 179 = .ok (.iload 8, 2) := zsh_g zdk_509 (r := 44) (k := 1) rfl rfl rfl
theorem zd_509_181 : decode prog_14_method_168_code 181 = .ok (.if_icmp .ge 26, 3) := zsh_g zdk_509 (r := 45) (k := 0) rfl rfl rfl
theorem zd_509_184 : decode prog_14_method_168_code 184 = .ok (.aload_n 0, 1) := zsh_g zdk_509 (r := 46) (k := 0) rfl rfl rfl
theorem zd_509_185 : decode prog_14_method_168_code 185 = .ok (.getfield 326, 3) := zsh_g zdk_509 (r := 46) (k := 1) rfl rfl rfl
theorem zd_509_188 : decode prog_14_method_168_code 188 = .ok (.iload 5, 2) := zsh_g zdk_509 (r := 47) (k := 0) rfl rfl rfl
theorem zd_509_190 : decode prog_14_method_168_code 190 = .ok (.aload_n 0, 1) := zsh_g zdk_509 (r := 47) (k := 1) rfl rfl rfl
theorem zd_509_191 : decode prog_14_method_168_code 191 = .ok (.getfield 298, 3) := zsh_g zdk_509 (r := 47) (k := 2) rfl rfl rfl
theorem zd_509_194 : decode prog_14_method_168_code 194 = .ok (.iload 9, 2) := zsh_g zdk_509 (r := 48) (k := 0) rfl rfl rfl
theorem zd_509_196 : decode prog_14_method_168_code 196 = .ok (.iaload, 1) := zsh_g zdk_509 (r := 49) (k := 0) rfl rfl rfl
theorem zd_509_197 : decode prog_14_method_168_code 197 = .ok (.iastore, 1) := zsh_g zdk_509 (r := 49) (k := 1) rfl rfl rfl
theorem zd_509_198 : decode prog_14_method_168_code 198 = .ok (.iinc 5 1, 3) := zsh_g zdk_509 (r := 49) (k := 2) rfl rfl rfl
theorem zd_509_201 : decode prog_14_method_168_code 201 = .ok (.iinc 9 1, 3) := zsh_g zdk_509 (r := 50) (k := 0) rfl rfl rfl
theorem zd_509_204 : decode prog_14_method_168_code 204 = .ok (.goto (-27), 3) := zsh_g zdk_509 (r := 51) (k := 0) rfl rfl rfl
theorem zd_509_207 : decode prog_14_method_168_code 207 = .ok (.aload_n 0, 1) := zsh_g zdk_509 (r := 51) (k := 1) rfl rfl rfl
theorem zd_509_208 : decode prog_14_method_168_code 208 = .ok (.getfield 332, 3) := zsh_g zdk_509 (r := 52) (k := 0) rfl rfl rfl
theorem zd_509_211 : decode prog_14_method_168_code 211 = .ok (.iconst 4, 1) := zsh_g zdk_509 (r := 52) (k := 1) rfl rfl rfl
theorem zd_509_212 : decode prog_14_method_168_code 212 = .ok (.iload_n 2, 1) := zsh_g zdk_509 (r := 53) (k := 0) rfl rfl rfl
theorem zd_509_213 : decode prog_14_method_168_code 213 = .ok (.imul, 1) := zsh_g zdk_509 (r := 53) (k := 1) rfl rfl rfl
theorem zd_509_214 : decode prog_14_method_168_code 214 = .ok (.iload_n 3, 1) := zsh_g zdk_509 (r := 53) (k := 2) rfl rfl rfl
theorem zd_509_215 : decode prog_14_method_168_code 215 = .ok (.iadd, 1) := zsh_g zdk_509 (r := 53) (k := 3) rfl rfl rfl
theorem zd_509_216 : decode prog_14_method_168_code 216 = .ok (.iload 5, 2) := zsh_g zdk_509 (r := 54) (k := 0) rfl rfl rfl
theorem zd_509_218 : decode prog_14_method_168_code 218 = .ok (.iastore, 1) := zsh_g zdk_509 (r := 54) (k := 1) rfl rfl rfl
theorem zd_509_219 : decode prog_14_method_168_code 219 = .ok (.iinc 3 1, 3) := zsh_g zdk_509 (r := 54) (k := 2) rfl rfl rfl
theorem zd_509_222 : decode prog_14_method_168_code 222 = .ok (.iload 4, 2) := zsh_g zdk_509 (r := 55) (k := 0) rfl rfl rfl
theorem zd_509_224 : decode prog_14_method_168_code 224 = .ok (.ifCond .eq 18, 3) := zsh_g zdk_509 (r := 56) (k := 0) rfl rfl rfl
theorem zd_509_227 : decode prog_14_method_168_code 227 = .ok (.iload 6, 2) := zsh_g zdk_509 (r := 56) (k := 1) rfl rfl rfl
theorem zd_509_229 : decode prog_14_method_168_code 229 = .ok (.aload_n 0, 1) := zsh_g zdk_509 (r := 57) (k := 0) rfl rfl rfl
theorem zd_509_230 : decode prog_14_method_168_code 230 = .ok (.getfield 1204, 3) := zsh_g zdk_509 (r := 57) (k := 1) rfl rfl rfl
theorem zd_509_233 : decode prog_14_method_168_code 233 = .ok (.iconst 1, 1) := zsh_g zdk_509 (r := 58) (k := 0) rfl rfl rfl
theorem zd_509_234 : decode prog_14_method_168_code 234 = .ok (.isub, 1) := zsh_g zdk_509 (r := 58) (k := 1) rfl rfl rfl
theorem zd_509_235 : decode prog_14_method_168_code 235 = .ok (.if_icmp .eq 7, 3) := zsh_g zdk_509 (r := 58) (k := 2) rfl rfl rfl
theorem zd_509_238 : decode prog_14_method_168_code 238 = .ok (.iconst 1, 1) := zsh_g zdk_509 (r := 59) (k := 0) rfl rfl rfl
theorem zd_509_239 : decode prog_14_method_168_code 239 = .ok (.goto 4, 3) := zsh_g zdk_509 (r := 59) (k := 1) rfl rfl rfl
theorem zd_509_242 : decode prog_14_method_168_code 242 = .ok (.iconst 0, 1) := zsh_g zdk_509 (r := 60) (k := 0) rfl rfl rfl
theorem zd_509_243 : decode prog_14_method_168_code 243 = .ok (.istore 4, 2) := zsh_g zdk_509 (r := 60) (k := 1) rfl rfl rfl
theorem zd_509_245 : decode prog_14_method_168_code 245 = .ok (.aload_n 0, 1) := zsh_g zdk_509 (r := 61) (k := 0) rfl rfl rfl
theorem zd_509_246 : decode prog_14_method_168_code 246 = .ok (.iload 6, 2) := zsh_g zdk_509 (r := 61) (k := 1) rfl rfl rfl
theorem zd_509_248 : decode prog_14_method_168_code 248 = .ok (.iconst 1, 1) := zsh_g zdk_509 (r := 62) (k := 0) rfl rfl rfl
theorem zd_509_249 : decode prog_14_method_168_code 249 = .ok (.iadd, 1) := zsh_g zdk_509 (r := 62) (k := 1) rfl rfl rfl
theorem zd_509_250 : decode prog_14_method_168_code 250 = .ok (.putfield 1219, 3) := zsh_g zdk_509 (r := 62) (k := 2) rfl rfl rfl
theorem zd_509_253 : decode prog_14_method_168_code 253 = .ok (.goto (-233), 3) := zsh_g zdk_509 (r := 63) (k := 0) rfl rfl rfl
theorem zd_509_256 : decode prog_14_method_168_code 256 = .ok (.iload 4, 2) := zsh_g zdk_509 (r := 64) (k := 0) rfl rfl rfl
theorem zd_509_258 : decode prog_14_method_168_code 258 = .ok (.ifCond .eq 13, 3) := zsh_g zdk_509 (r := 64) (k := 1) rfl rfl rfl
theorem zd_509_261 : decode prog_14_method_168_code 261 = .ok (.iload_n 3, 1) := zsh_g zdk_509 (r := 65) (k := 0) rfl rfl rfl
theorem zd_509_262 : decode prog_14_method_168_code 262 = .ok (.aload_n 0, 1) := zsh_g zdk_509 (r := 65) (k := 1) rfl rfl rfl
theorem zd_509_263 : decode prog_14_method_168_code 263 = .ok (.getfield 344, 3) := zsh_g zdk_509 (r := 65) (k := 2) rfl rfl rfl
theorem zd_509_266 : decode prog_14_method_168_code 266 = .ok (.iload_n 1, 1) := zsh_g zdk_509 (r := 66) (k := 0) rfl rfl rfl
theorem zd_509_267 : decode prog_14_method_168_code 267 = .ok (.iaload, 1) := zsh_g zdk_509 (r := 66) (k := 1) rfl rfl rfl
theorem zd_509_268 : decode prog_14_method_168_code 268 = .ok (.if_icmp .eq 9, 3) := zsh_g zdk_509 (r := 67) (k := 0) rfl rfl rfl
theorem zd_509_271 : decode prog_14_method_168_code 271 = .ok (.aload_n 0, 1) := zsh_g zdk_509 (r := 67) (k := 1) rfl rfl rfl
theorem zd_509_272 : decode prog_14_method_168_code 272 = .ok (.iconst 1, 1) := zsh_g zdk_509 (r := 68) (k := 0) rfl rfl rfl
theorem zd_509_273 : decode prog_14_method_168_code 273 = .ok (.invokevirtual 1216, 3) := zsh_g zdk_509 (r := 68) (k := 1) rfl rfl rfl
theorem zd_509_277 : decode prog_14_method_168_code 277 = .ok (.aload_n 0, 1) := zsh_g zdk_509 (r := 69) (k := 0) rfl rfl rfl
theorem zd_509_278 : decode prog_14_method_168_code 278 = .ok (.getfield 1447, 3) := zsh_g zdk_509 (r := 69) (k := 1) rfl rfl rfl
theorem zd_509_281 : decode prog_14_method_168_code 281 = .ok (.bipush 11, 2) := zsh_g zdk_509 (r := 70) (k := 0) rfl rfl rfl
theorem zd_509_283 : decode prog_14_method_168_code 283 = .ok (.if_icmp .ne 10, 3) := zsh_g zdk_509 (r := 70) (k := 1) rfl rfl rfl
theorem zd_509_286 : decode prog_14_method_168_code 286 = .ok (.aload_n 0, 1) := zsh_g zdk_509 (r := 71) (k := 0) rfl rfl rfl
theorem zd_509_287 : decode prog_14_method_168_code 287 = .ok (.bipush 6, 2) := zsh_g zdk_509 (r := 71) (k := 1) rfl rfl rfl
theorem zd_509_289 : decode prog_14_method_168_code 289 = .ok (.invokevirtual 1216, 3) := zsh_g zdk_509 (r := 72) (k := 0) rfl rfl rfl
theorem zd_509_293 : decode prog_14_method_168_code 293 = .ok (.aload_n 0, 1) := zsh_g zdk_509 (r := 73) (k := 0) rfl rfl rfl
theorem zd_509_294 : decode prog_14_method_168_code 294 = .ok (.getfield 446, 3) := zsh_g zdk_509 (r := 73) (k := 1) rfl rfl rfl
theorem zd_509_297 : decode prog_14_method_168_code 297 = .ok (.iload_n 2, 1) := zsh_g zdk_509 (r := 74) (k := 0) rfl rfl rfl
theorem zd_509_298 : decode prog_14_method_168_code 298 = .ok (.aload_n 0, 1) := zsh_g zdk_509 (r := 74) (k := 1) rfl rfl rfl
theorem zd_509_299 : decode prog_14_method_168_code 299 = .ok (.getfield 1468, 3) := zsh_g zdk_509 (r := 74) (k := 2) rfl rfl rfl
theorem zd_509_302 : decode prog_14_method_168_code 302 = .ok (.iastore, 1) := zsh_g zdk_509 (r := 75) (k := 0) rfl rfl rfl
theorem zd_509_303 : decode prog_14_method_168_code 303 = .ok (.aload_n 0, 1) := zsh_g zdk_509 (r := 75) (k := 1) rfl rfl rfl
theorem zd_509_304 : decode prog_14_method_168_code 304 = .ok (.iload 5, 2) := zsh_g zdk_509 (r := 76) (k := 0) rfl rfl rfl
theorem zd_509_306 : decode prog_14_method_168_code 306 = .ok (.putfield 1468, 3) := zsh_g zdk_509 (r := 76) (k := 1) rfl rfl rfl
theorem zd_509_309 : decode prog_14_method_168_code 309 = .ok (.aload_n 0, 1) := zsh_g zdk_509 (r := 77) (k := 0) rfl rfl rfl
theorem zd_509_310 : decode prog_14_method_168_code 310 = .ok (.aload_n 0, 1) := zsh_g zdk_509 (r := 77) (k := 1) rfl rfl rfl
theorem zd_509_311 : decode prog_14_method_168_code 311 = .ok (.getfield 338, 3) := zsh_g zdk_509 (r := 77) (k := 2) rfl rfl rfl
theorem zd_509_314 : decode prog_14_method_168_code 314 = .ok (.iload_n 1, 1) := zsh_g zdk_509 (r := 78) (k := 0) rfl rfl rfl
theorem zd_509_315 : decode prog_14_method_168_code 315 = .ok (.iaload, 1) := zsh_g zdk_509 (r := 78) (k := 1) rfl rfl rfl
theorem zd_509_316 : decode prog_14_method_168_code 316 = .ok (.aload_n 0, 1) := zsh_g zdk_509 (r := 79) (k := 0) rfl rfl rfl
theorem zd_509_317 : decode prog_14_method_168_code 317 = .ok (.getfield 341, 3) := zsh_g zdk_509 (r := 79) (k := 1) rfl rfl rfl
theorem zd_509_320 : decode prog_14_method_168_code 320 = .ok (.iload_n 1, 1) := zsh_g zdk_509 (r := 80) (k := 0) rfl rfl rfl
theorem zd_509_321 : decode prog_14_method_168_code 321 = .ok (.iaload, 1) := zsh_g zdk_509 (r := 80) (k := 1) rfl rfl rfl
theorem zd_509_322 : decode prog_14_method_168_code 322 = .ok (.iconst 1, 1) := zsh_g zdk_509 (r := 80) (k := 2) rfl rfl rfl
theorem zd_509_323 : decode prog_14_method_168_code 323 = .ok (.iload_n 1, 1) := zsh_g zdk_509 (r := 80) (k := 3) rfl rfl rfl
theorem zd_509_324 : decode prog_14_method_168_code 324 = .ok (.iload_n 2, 1) := zsh_g zdk_509 (r := 81) (k := 0) rfl rfl rfl
theorem zd_509_325 : decode prog_14_method_168_code 325 = .ok (.invokevirtual 1471, 3) := zsh_g zdk_509 (r := 81) (k := 1) rfl rfl rfl
theorem zd_509_328 : decode prog_14_method_168_code 328 = .ok (.aload_n 0, 1) := zsh_g zdk_509 (r := 82) (k := 0) rfl rfl rfl
theorem zd_509_329 : decode prog_14_method_168_code 329 = .ok (.dup, 1) := zsh_g zdk_509 (r := 82) (k := 1) rfl rfl rfl
theorem zd_509_330 : decode prog_14_method_168_code 330 = .ok (.getfield 1465, 3) := zsh_g zdk_509 (r := 82) (k := 2) rfl rfl rfl
theorem zd_509_333 : decode prog_14_method_168_code 333 = .ok (.iconst 1, 1) := zsh_g zdk_509 (r := 83) (k := 0) rfl rfl rfl
theorem zd_509_334 : decode prog_14_method_168_code 334 = .ok (.iadd, 1) := zsh_g zdk_509 (r := 83) (k := 1) rfl rfl rfl
theorem zd_509_335 : decode prog_14_method_168_code 335 = .ok (.putfield 1465, 3) := zsh_g zdk_509 (r := 83) (k := 2) rfl rfl rfl
def zdl_510 : List (List (Nat × Instr × Nat)) := [[(0, (.aload_n 0), 1), (1, (.iconst 0), 1), (2, (.putfield 1306), 3)], [(1, (.aload_n 0), 1), (2, (.iconst 0), 1), (3, (.putfield 1309), 3)], [(2, (.aload_n 0), 1), (3, (.iconst 0), 1)], [(0, (.putfield 1312), 3), (3, (.aload_n 0), 1)], [(0, (.iload_n 1), 1), (1, (.invokevirtual 1333), 3)], [(0, (.aload_n 0), 1), (1, (.invokevirtual 1336), 3)], [(0, (.aload_n 0), 1), (1, (.getfield 1228), 3)], [(0, (.ifCond .eq 23), 3), (3, (.aload_n 0), 1)], [(0, (.getfield 50), 3), (3, (.bipush 64), 2)], [(1, (.aload_n 0), 1), (2, (.getfield 1174), 3)], [(1, .imul, 1), (2, (.aload_n 0), 1), (3, (.getfield 1272), 3)], [(2, .iadd, 1), (3, .baload, 1)], [(0, (.ifCond .eq 9), 3), (3, (.aload_n 0), 1)], [(0, (.iconst 1), 1), (1, (.invokevirtual 1216), 3)], [(1, (.aload_n 0), 1), (2, (.iload_n 1), 1), (3, (.invokevirtual 1339), 3)], [(2, (.ifCond .eq 12), 3)], [(1, (.aload_n 0), 1), (2, (.invokevirtual 1290), 3)], [(1, (.iconst 4), 1), (2, .irem, 1), (3, (.ifCond .eq 9), 3)], [(2, (.aload_n 0), 1), (3, (.iconst 3), 1)], [(0, (.invokevirtual 1216), 3)], [(0, (.aload_n 0), 1), (1, (.invokevirtual 1342), 3)], [(0, (.ifCond .ne 9), 3), (3, (.aload_n 0), 1)], [(0, (.iconst 4), 1), (1, (.invokevirtual 1216), 3)], [(1, (.iload_n 1), 1), (2, (.bipush 26), 2)], [(0, (.if_icmp .ge 11), 3), (3, (.aload_n 0), 1)], [(0, (.iload_n 1), 1), (1, (.invokevirtual 1345), 3)], [(0, (.goto 22), 3), (3, (.iload_n 1), 1)], [(0, (.bipush 40), 2), (2, (.if_icmp .gt 11), 3)], [(1, (.aload_n 0), 1), (2, (.iload_n 1), 1), (3, (.invokevirtual 1348), 3)], [(2, (.goto 8), 3)], [(1, (.aload_n 0), 1), (2, (.iload_n 1), 1), (3, (.invokevirtual 1351), 3)]]
theorem zdk_510 : zsh_all 8 zdl_510 prog_14_method_140_code.data.toList = true := by decide +kernel
theorem zd_510_0 : decode prog_14_method_140_code 0 = .ok (.aload_n 0, 1) := zsh_g zdk_510 (r := 0) (k := 0) rfl rfl rfl
theorem zd_510_1 : decode prog_14_method_140_code 1 = .ok (.iconst 0, 1) := zsh_g zdk_510 (r := 0) (k := 1) rfl rfl rfl
theorem zd_510_2 : decode prog_14_method_140_code 2 = .ok (.putfield 1306, 3) := zsh_g zdk_510 (r := 0) (k := 2) rfl rfl rfl
theorem zd_510_5 : decode prog_14_method_140_code 5 = .ok (.aload_n 0, 1) := zsh_g zdk_510 (r := 1) (k := 0) rfl rfl rfl
theorem zd_510_6 : decode prog_14_method_140_code 6 = .ok (.iconst 0, 1) := zsh_g zdk_510 (r := 1) (k := 1) rfl rfl rfl
theorem zd_510_7 : decode prog_14_method_140_code 7 = .ok (.putfield 1309, 3) := zsh_g zdk_510 (r := 1) (k := 2) rfl rfl rfl
theorem zd_510_10 : decode prog_14_method_140_code 10 = .ok (.aload_n 0, 1) := zsh_g zdk_510 (r := 2) (k := 0) rfl rfl rfl
theorem zd_510_11 : decode prog_14_method_140_code 11 = .ok (.iconst 0, 1) := zsh_g zdk_510 (r := 2) (k := 1) rfl rfl rfl
theorem zd_510_12 : decode prog_14_method_140_code 12 = .ok (.putfield 1312, 3) := zsh_g zdk_510 (r := 3) (k := 0) rfl rfl rfl
theorem zd_510_15 : decode prog_14_method_140_code 15 = .ok (.aload_n 0, 1) := zsh_g zdk_510 (r := 3) (k := 1) rfl rfl rfl
theorem zd_510_16 : decode prog_14_method_140_code 16 = .ok (.iload_n 1, 1) := zsh_g zdk_510 (r := 4) (k := 0) rfl rfl rfl
theorem zd_510_17 : decode prog_14_method_140_code 17 = .ok (.invokevirtual 1333, 3) := zsh_g zdk_510 (r := 4) (k := 1) rfl rfl rfl
theorem zd_510_20 : decode prog_14_method_140_code 20 = .ok (.aload_n 0, 1) := zsh_g zdk_510 (r := 5) (k := 0) rfl rfl rfl
theorem zd_510_21 : decode prog_14_method_140_code 21 = .ok (.invokevirtual 1336, 3) := zsh_g zdk_510 (r := 5) (k := 1) rfl rfl rfl
theorem zd_510_24 : decode prog_14_method_140_code 24 = .ok (.aload_n 0, 1) := zsh_g zdk_510 (r := 6) (k := 0) rfl rfl rfl
theorem zd_510_25 : decode prog_14_method_140_code 25 = .ok (.getfield 1228, 3) := zsh_g zdk_510 (r := 6) (k := 1) rfl rfl rfl
theorem zd_510_28 : decode prog_14_method_140_code 28 = .ok (.ifCond .eq 23, 3) := zsh_g zdk_510 (r := 7) (k := 0) rfl rfl rfl
theorem zd_510_31 : decode prog_14_method_140_code 31 = .ok (.aload_n 0, 1) := zsh_g zdk_510 (r := 7) (k := 1) rfl rfl rfl
theorem zd_510_32 : decode prog_14_method_140_code 32 = .ok (.getfield 50, 3) := zsh_g zdk_510 (r := 8) (k := 0) rfl rfl rfl
theorem zd_510_35 : decode prog_14_method_140_code 35 = .ok (.bipush 64, 2) := zsh_g zdk_510 (r := 8) (k := 1) rfl rfl rfl
theorem zd_510_37 : decode prog_14_method_140_code 37 = .ok (.aload_n 0, 1) := zsh_g zdk_510 (r := 9) (k := 0) rfl rfl rfl
theorem zd_510_38 : decode prog_14_method_140_code 38 = .ok (.getfield 1174, 3) := zsh_g zdk_510 (r := 9) (k := 1) rfl rfl rfl
theorem zd_510_41 : decode prog_14_method_140_code 41 = .ok (.imul, 1) := zsh_g zdk_510 (r := 10) (k := 0) rfl rfl rfl
theorem zd_510_42 : decode prog_14_method_140_code 42 = .ok (.aload_n 0, 1) := zsh_g zdk_510 (r := 10) (k := 1) rfl rfl rfl
theorem zd_510_43 : decode prog_14_method_140_code 43 = .ok (.getfield 1272, 3) := zsh_g zdk_510 (r := 10) (k := 2) rfl rfl rfl
theorem zd_510_46 : decode prog_14_method_140_code 46 = .ok (.iadd, 1) := zsh_g zdk_510 (r := 11) (k := 0) rfl rfl rfl
theorem zd_510_47 : decode prog_14_method_140_code 47 = .ok (.baload, 1) := zsh_g zdk_510 (r := 11) (k := 1) rfl rfl rfl
theorem zd_510_48 : decode prog_14_method_140_code 48 = .ok (.ifCond .eq 9, 3) := zsh_g zdk_510 (r := 12) (k := 0) rfl rfl rfl
theorem zd_510_51 : decode prog_14_method_140_code 51 = .ok (.aload_n 0, 1) := zsh_g zdk_510 (r := 12) (k := 1) rfl rfl rfl
theorem zd_510_52 : decode prog_14_method_140_code 52 = .ok (.iconst 1, 1) := zsh_g zdk_510 (r := 13) (k := 0) rfl rfl rfl
theorem zd_510_53 : decode prog_14_method_140_code 53 = .ok (.invokevirtual 1216, 3) := zsh_g zdk_510 (r := 13) (k := 1) rfl rfl rfl
theorem zd_510_57 : decode prog_14_method_140_code 57 = .ok (.aload_n 0, 1) := zsh_g zdk_510 (r := 14) (k := 0) rfl rfl rfl
theorem zd_510_58 : decode prog_14_method_140_code 58 = .ok (.iload_n 1, 1) := zsh_g zdk_510 (r := 14) (k := 1) rfl rfl rfl
theorem zd_510_59 : decode prog_14_method_140_code 59 = .ok (.invokevirtual 1339, 3) := zsh_g zdk_510 (r := 14) (k := 2) rfl rfl rfl
theorem zd_510_62 : decode prog_14_method_140_code 62 = .ok (.ifCond .eq 12, 3) := zsh_g zdk_510 (r := 15) (k := 0) rfl rfl rfl
theorem zd_510_65 : decode prog_14_method_140_code 65 = .ok (.aload_n 0, 1) := zsh_g zdk_510 (r := 16) (k := 0) rfl rfl rfl
theorem zd_510_66 : decode prog_14_method_140_code 66 = .ok (.invokevirtual 1290, 3) := zsh_g zdk_510 (r := 16) (k := 1) rfl rfl rfl
theorem zd_510_69 : decode prog_14_method_140_code 69 = .ok (.iconst 4, 1) := zsh_g zdk_510 (r := 17) (k := 0) rfl rfl rfl
theorem zd_510_70 : decode prog_14_method_140_code 70 = .ok (.irem, 1) := zsh_g zdk_510 (r := 17) (k := 1) rfl rfl rfl
theorem zd_510_71 : decode prog_14_method_140_code 71 = .ok (.ifCond .eq 9, 3) := zsh_g zdk_510 (r := 17) (k := 2) rfl rfl rfl
theorem zd_510_74 : decode prog_14_method_140_code 74 = .ok (.aload_n 0, 1) := zsh_g zdk_510 (r := 18) (k := 0) rfl rfl rfl
theorem zd_510_75 : decode prog_14_method_140_code 75 = .ok (.iconst 3, 1) := zsh_g zdk_510 (r := 18) (k := 1) rfl rfl rfl
theorem zd_510_76 : decode prog_14_method_140_code 76 = .ok (.invokevirtual 1216, 3) := zsh_g zdk_510 (r := 19) (k := 0) rfl rfl rfl
theorem zd_510_80 : decode prog_14_method_140_code 80 = .ok (.aload_n 0, 1) := zsh_g zdk_510 (r := 20) (k := 0) rfl rfl rfl
theorem zd_510_81 : decode prog_14_method_140_code 81 = .ok (.invokevirtual 1342, 3) := zsh_g zdk_510 (r := 20) (k := 1) rfl rfl rfl
theorem zd_510_84 : decode prog_14_method_140_code 84 = .ok (.ifCond .ne 9, 3) := zsh_g zdk_510 (r := 21) (k := 0) rfl rfl rfl
theorem zd_510_87 : decode prog_14_method_140_code 87 = .ok (.aload_n 0, 1) := zsh_g zdk_510 (r := 21) (k := 1) rfl rfl rfl
theorem zd_510_88 : decode prog_14_method_140_code 88 = .ok (.iconst 4, 1) := zsh_g zdk_510 (r := 22) (k := 0) rfl rfl rfl
theorem zd_510_89 : decode prog_14_method_140_code 89 = .ok (.invokevirtual 1216, 3) := zsh_g zdk_510 (r := 22) (k := 1) rfl rfl rfl
theorem zd_510_93 : decode prog_14_method_140_code 93 = .ok (.iload_n 1, 1) := zsh_g zdk_510 (r := 23) (k := 0) rfl rfl rfl
theorem zd_510_94 : decode prog_14_method_140_code 94 = .ok (.bipush 26, 2) := zsh_g zdk_510 (r := 23) (k := 1) rfl rfl rfl
theorem zd_510_96 : decode prog_14_method_140_code 96 = .ok (.if_icmp .ge 11, 3) := zsh_g zdk_510 (r := 24) (k := 0) rfl rfl rfl
theorem zd_510_99 : decode prog_14_method_140_code 99 = .ok (.aload_n 0, 1) := zsh_g zdk_510 (r := 24) (k := 1) rfl rfl rfl
theorem zd_510_100 : decode prog_14_method_140_code 100 = .ok (.iload_n 1, 1) := zsh_g zdk_510 (r := 25) (k := 0) rfl rfl rfl
theorem zd_510_101 : decode prog_14_method_140_code 101 = .ok (.invokevirtual 1345, 3) := zsh_g zdk_510 (r := 25) (k := 1) rfl rfl rfl
theorem zd_510_104 : decode prog_14_method_140_code 104 = .ok (.goto 22, 3) := zsh_g zdk_510 (r := 26) (k := 0) rfl rfl rfl
theorem zd_510_107 : decode prog_14_method_140_code 107 = .ok (.iload_n 1, 1) := zsh_g zdk_510 (r := 26) (k := 1) rfl rfl rfl
theorem zd_510_108 : decode prog_14_method_140_code 108 = .ok (.bipush 40, 2) := zsh_g zdk_510 (r := 27) (k := 0) rfl rfl rfl
theorem zd_510_110 : decode prog_14_method_140_code 110 = .ok (.if_icmp .gt 11, 3) := zsh_g zdk_510 (r := 27) (k := 1) rfl rfl rfl
theorem zd_510_113 : decode prog_14_method_140_code 113 = .ok (.aload_n 0, 1) := zsh_g zdk_510 (r := 28) (k := 0) rfl rfl rfl
theorem zd_510_114 : decode prog_14_method_140_code 114 = .ok (.iload_n 1, 1) := zsh_g zdk_510 (r := 28) (k := 1) rfl rfl rfl
theorem zd_510_115 : decode prog_14_method_140_code 115 = .ok (.invokevirtual 1348, 3) := zsh_g zdk_510 (r := 28) (k := 2) rfl rfl rfl
theorem zd_510_118 : decode prog_14_method_140_code 118 = .ok (.goto 8, 3) := zsh_g zdk_510 (r := 29) (k := 0) rfl rfl rfl
theorem zd_510_121 : decode prog_14_method_140_code 121 = .ok (.aload_n 0, 1) := zsh_g zdk_510 (r := 30) (k := 0) rfl rfl rfl
theorem zd_510_122 : decode prog_14_method_140_code 122 = .ok (.iload_n 1, 1) := zsh_g zdk_510 (r := 30) (k := 1) rfl rfl rfl
theorem zd_510_123 : decode prog_14_method_140_code 123 = .ok (.invokevirtual 1351, 3) := zsh_g zdk_510 (r := 30) (k := 2) rfl rfl rfl
def zdl_511 : List (List (Nat × Instr × Nat)) := [[(0, (.iload_n 1), 1)], [], [], [], [], [], [], [], [], [], [], [], [], [], [], [], [], [(0, (.aload_n 0), 1), (1, (.iconst 0), 1), (2, (.invokevirtual 1413), 3)], [(1, (.goto 74), 3)], [(0, (.aload_n 0), 1), (1, (.iconst 1), 1), (2, (.invokevirtual 1413), 3)], [(1, (.goto 66), 3)], [(0, (.aload_n 0), 1), (1, (.iload_n 1), 1), (2, (.invokevirtual 1416), 3)], [(1, (.goto 58), 3)], [(0, (.aload_n 0), 1), (1, (.iload_n 1), 1), (2, (.invokevirtual 1419), 3)], [(1, (.goto 50), 3)], [(0, (.aload_n 0), 1), (1, (.iload_n 1), 1), (2, (.invokevirtual 1422), 3)], [(1, (.goto 42), 3)], [(0, (.aload_n 0), 1), (1, (.invokevirtual 1336), 3)], [(0, (.aload_n 0), 1), (1, (.getfield 1228), 3)], [(0, (.ifCond .ne 8), 3), (3, (.aload_n 0), 1)], [(0, (.iconst 1), 1), (1, (.invokevirtual 1216), 3)], [(0, (.aload_n 0), 1), (1, (.iload_n 1), 1), (2, (.bipush 75), 2)], [(0, (.if_icmp .ne 7), 3), (3, (.iconst 1), 1)], [(0, (.goto 4), 3), (3, (.iconst 0), 1)], [(0, (.putfield 1287), 3), (3, (.goto 8), 3)], [(2, (.aload_n 0), 1), (3, (.iload_n 1), 1)], [(0, (.invokevirtual 1425), 3)]]
theorem zdk_511 : zsh_all 8 zdl_511 prog_14_method_158_code.data.toList = true := by decide +kernel
theorem zd_511_0 : decode prog_14_method_158_code 0 = .ok (.iload_n 1, 1) := zsh_g zdk_511 (r := 0) (k := 0) rfl rfl rfl
theorem zd_511_68 : decode prog_14_method_158_code 68 = .ok (.aload_n 0, 1) := zsh_g zdk_511 (r := 17) (k := 0) rfl rfl rfl
theorem zd_511_69 : decode prog_14_method_158_code 69 = .ok (.iconst 0, 1) := zsh_g zdk_511 (r := 17) (k := 1) rfl rfl rfl
theorem zd_511_70 : decode prog_14_method_158_code 70 = .ok (.invokevirtual 1413, 3) := zsh_g zdk_511 (r := 17) (k := 2) rfl rfl rfl
theorem zd_511_73 : decode prog_14_method_158_code 73 = .ok (.goto 74, 3) := zsh_g zdk_511 (r := 18) (k := 0) rfl rfl rfl
theorem zd_511_76 : decode prog_14_method_158_code 76 = .ok (.aload_n 0, 1) := zsh_g zdk_511 (r := 19) (k := 0) rfl rfl rfl
theorem zd_511_77 : decode prog_14_method_158_code 77 = .ok (.iconst 1, 1) := zsh_g zdk_511 (r := 19) (k := 1) rfl rfl rfl
theorem zd_511_78 : decode prog_14_method_158_code 78 = .ok (.invokevirtual 1413, 3) := zsh_g zdk_511 (r := 19) (k := 2) rfl rfl rfl
theorem zd_511_81 : decode prog_14_method_158_code 81 = .ok (.goto 66, 3) := zsh_g zdk_511 (r := 20) (k := 0) rfl rfl rfl
theorem zd_511_84 : decode prog_14_method_158_code 84 = .ok (.aload_n 0, 1) := zsh_g zdk_511 (r := 21) (k := 0) rfl rfl rfl
theorem zd_511_85 : decode prog_14_method_158_code 85 = .ok (.iload_n 1, 1) := zsh_g zdk_511 (r := 21) (k := 1) rfl rfl rfl
theorem zd_511_86 : decode prog_14_method_158_code 86 = .ok (.invokevirtual 1416, 3) := zsh_g zdk_511 (r := 21) (k := 2) rfl rfl rfl
theorem zd_511_89 : decode prog_14_method_158_code 89 = .ok (.goto 58, 3) := zsh_g zdk_511 (r := 22) (k := 0) rfl rfl rfl
theorem zd_511_92 : decode prog_14_method_158_code 92 = .ok (.aload_n 0, 1) := zsh_g zdk_511 (r := 23) (k := 0) rfl rfl rfl
theorem zd_511_93 : decode prog_14_method_158_code 93 = .ok (.iload_n 1, 1) := zsh_g zdk_511 (r := 23) (k := 1) rfl rfl rfl
theorem zd_511_94 : decode prog_14_method_158_code 94 = .ok (.invokevirtual 1419, 3) := zsh_g zdk_511 (r := 23) (k := 2) rfl rfl rfl
theorem zd_511_97 : decode prog_14_method_158_code 97 = .ok (.goto 50, 3) := zsh_g zdk_511 (r := 24) (k := 0) rfl rfl rfl
theorem zd_511_100 : decode prog_14_method_158_code 100 = .ok (.aload_n 0, 1) := zsh_g zdk_511 (r := 25) (k := 0) rfl rfl rfl
theorem zd_511_101 : decode prog_14_method_158_code 101 = .ok (.iload_n 1, 1) := zsh_g zdk_511 (r := 25) (k := 1) rfl rfl rfl
theorem zd_511_102 : decode prog_14_method_158_code 102 = .ok (.invokevirtual 1422, 3) := zsh_g zdk_511 (r := 25) (k := 2) rfl rfl rfl
theorem zd_511_105 : decode prog_14_method_158_code 105 = .ok (.goto 42, 3) := zsh_g zdk_511 (r := 26) (k := 0) rfl rfl rfl
theorem zd_511_108 : decode prog_14_method_158_code 108 = .ok (.aload_n 0, 1) := zsh_g zdk_511 (r := 27) (k := 0) rfl rfl rfl
theorem zd_511_109 : decode prog_14_method_158_code 109 = .ok (.invokevirtual 1336, 3) := zsh_g zdk_511 (r := 27) (k := 1) rfl rfl rfl
theorem zd_511_112 : decode prog_14_method_158_code 112 = .ok (.aload_n 0, 1) := zsh_g zdk_511 (r := 28) (k := 0) rfl rfl rfl
theorem zd_511_113 : decode prog_14_method_158_code 113 = .ok (.getfield 1228, 3) := zsh_g zdk_511 (r := 28) (k := 1) rfl rfl rfl
theorem zd_511_116 : decode prog_14_method_158_code 116 = .ok (.ifCond .ne 8, 3) := zsh_g zdk_511 (r := 29) (k := 0) rfl rfl rfl
theorem zd_511_119 : decode prog_14_method_158_code 119 = .ok (.aload_n 0, 1) := zsh_g zdk_511 (r := 29) (k := 1) rfl rfl rfl
theorem zd_511_120 : decode prog_14_method_158_code 120 = .ok (.iconst 1, 1) := zsh_g zdk_511 (r := 30) (k := 0) rfl rfl rfl
theorem zd_511_121 : decode prog_14_method_158_code 121 = .ok (.invokevirtual 1216, 3) := zsh_g zdk_511 (r := 30) (k := 1) rfl rfl rfl
theorem zd_511_124 : decode prog_14_method_158_code 124 = .ok (.aload_n 0, 1) := zsh_g zdk_511 (r := 31) (k := 0) rfl rfl rfl
theorem zd_511_125 : decode prog_14_method_158_code 125 = .ok (.iload_n 1, 1) := zsh_g zdk_511 (r := 31) (k := 1) rfl rfl rfl
theorem zd_511_126 : decode prog_14_method_158_code 126 = .ok (.bipush 75, 2) := zsh_g zdk_511 (r := 31) (k := 2) rfl rfl rfl
theorem zd_511_128 : decode prog_14_method_158_code 128 = .ok (.if_icmp .ne 7, 3) := zsh_g zdk_511 (r := 32) (k := 0) rfl rfl rfl
theorem zd_511_131 : decode prog_14_method_158_code 131 = .ok (.iconst 1, 1) := zsh_g zdk_511 (r := 32) (k := 1) rfl rfl rfl
theorem zd_511_132 : decode prog_14_method_158_code 132 = .ok (.goto 4, 3) := zsh_g zdk_511 (r := 33) (k := 0) rfl rfl rfl
theorem zd_511_135 : decode prog_14_method_158_code 135 = .ok (.iconst 0, 1) := zsh_g zdk_511 (r := 33) (k := 1) rfl rfl rfl
theorem zd_511_136 : decode prog_14_method_158_code 136 = .ok (.putfield 1287, 3) := zsh_g zdk_511 (r := 34) (k := 0) rfl rfl rfl
theorem zd_511_139 : decode prog_14_method_158_code 139 = .ok (.goto 8, 3) := zsh_g zdk_511 (r := 34) (k := 1) rfl rfl rfl
theorem zd_511_142 : decode prog_14_method_158_code 142 = .ok (.aload_n 0, 1) := zsh_g zdk_511 (r := 35) (k := 0) rfl rfl rfl
theorem zd_511_143 : decode prog_14_method_158_code 143 = .ok (.iload_n 1, 1) := zsh_g zdk_511 (r := 35) (k := 1) rfl rfl rfl
theorem zd_511_144 : decode prog_14_method_158_code 144 = .ok (.invokevirtual 1425, 3) := zsh_g zdk_511 (r := 36) (k := 0) rfl rfl rfl
theorem zd_511_1 : decode prog_14_method_158_code 1 = .ok (.tableswitch 141 64 76 #[67, 75, 83, 83, 83, 91, 91, 91, 99, 99, 83, 107, 107], 67) := by decide +kernel
def zdl_512 : List (List (Nat × Instr × Nat)) := [[(0, (.iconst (-1)), 1), (1, (.istore_n 2), 1), (2, (.iconst 0), 1), (3, (.istore_n 3), 1)], [(0, (.iload_n 3), 1), (1, (.aload_n 0), 1), (2, (.getfield 1231), 3)], [(1, (.if_icmp .ge 25), 3)], [(0, (.aload_n 0), 1), (1, (.getfield 362), 3)], [(0, (.iload_n 3), 1), (1, .iaload, 1), (2, (.iload_n 1), 1), (3, (.if_icmp .ne 7), 3)], [(2, (.iload_n 3), 1), (3, (.goto 4), 3)], [(2, (.iload_n 2), 1), (3, (.istore_n 2), 1)], [(0, (.iinc 3 1), 3), (3, (.goto (-27)), 3)], [(2, (.iload_n 2), 1)]]
theorem zdk_512 : zsh_all 8 zdl_512 prog_14_method_116_code.data.toList = true := by decide +kernel
theorem zd_512_0 : decode prog_14_method_116_code 0 = .ok (.iconst (-1), 1) := zsh_g zdk_512 (r := 0) (k := 0) rfl rfl rfl
theorem zd_512_1 : decode prog_14_method_116_code 1 = .ok (.istore_n 2, 1) := zsh_g zdk_512 (r := 0) (k := 1) rfl rfl rfl
theorem zd_512_2 : decode prog_14_method_116_code 2 = .ok (.iconst 0, 1) := zsh_g zdk_512 (r := 0) (k := 2) rfl rfl rfl
theorem zd_512_3 : decode prog_14_method_116_code 3 = .ok (.istore_n 3, 1) := zsh_g zdk_512 (r := 0) (k := 3) rfl rfl rfl
theorem zd_512_4 : decode prog_14_method_116_code 4 = .ok (.iload_n 3, 1) := zsh_g zdk_512 (r := 1) (k := 0) rfl rfl rfl
theorem zd_512_5 : decode prog_14_method_116_code 5 = .ok (.aload_n 0, 1) := zsh_g zdk_512 (r := 1) (k := 1) rfl rfl rfl
theorem zd_512_6 : decode prog_14_method_116_code 6 = .ok (.getfield 1231, 3) := zsh_g zdk_512 (r := 1) (k := 2) rfl rfl rfl
theorem zd_512_9 : decode prog_14_method_116_code 9 = .ok (.if_icmp .ge 25, 3) := zsh_g zdk_512 (r := 2) (k := 0) rfl rfl rfl
theorem zd_512_12 : decode prog_14_method_116_code 12 = .ok (.aload_n 0, 1) := zsh_g zdk_512 (r := 3) (k := 0) rfl rfl rfl
theorem zd_512_13 : decode prog_14_method_116_code 13 = .ok (.getfield 362, 3) := zsh_g zdk_512 (r := 3) (k := 1) rfl rfl rfl
theorem zd_512_16 : decode prog_14_method_116_code 16 = .ok (.iload_n 3, 1) := zsh_g zdk_512 (r := 4) (k := 0) rfl rfl rfl
theorem zd_512_17 : decode prog_14_method_116_code 17 = .ok (.iaload, 1) := zsh_g zdk_512 (r := 4) (k := 1) rfl rfl rfl
theorem zd_512_18 : decode prog_14_method_116_code 18 = .ok (.iload_n 1, 1) := zsh_g zdk_512 (r := 4) (k := 2) rfl rfl rfl
theorem zd_512_19 : decode prog_14_method_116_code 19 = .ok (.if_icmp .ne 7, 3) := zsh_g zdk_512 (r := 4) (k := 3) rfl rfl rfl
theorem zd_512_22 : decode prog_14_method_116_code 22 = .ok (.iload_n 3, 1) := zsh_g zdk_512 (r := 5) (k := 0) rfl rfl rfl
theorem zd_512_23 : decode prog_14_method_116_code 23 = .ok (.goto 4, 3) := zsh_g zdk_512 (r := 5) (k := 1) rfl rfl rfl
theorem zd_512_26 : decode prog_14_method_116_code 26 = .ok (.iload_n 2, 1) := zsh_g zdk_512 (r := 6) (k := 0) rfl rfl rfl
theorem zd_512_27 : decode prog_14_method_116_code 27 = .ok (.istore_n 2, 1) := zsh_g zdk_512 (r := 6) (k := 1) rfl rfl rfl
theorem zd_512_28 : decode prog_14_method_116_code 28 = .ok (.iinc 3 1, 3) := zsh_g zdk_512 (r := 7) (k := 0) rfl rfl rfl
theorem zd_512_31 : decode prog_14_method_116_code 31 = .ok (.goto (-27), 3) := zsh_g zdk_512 (r := 7) (k := 1) rfl rfl rfl
theorem zd_512_34 : decode prog_14_method_116_code 34 = .ok (.iload_n 2, 1) := zsh_g zdk_512 (r := 8) (k := 0) rfl rfl rfl
def zdl_513 : List (List (Nat × Instr × Nat)) := [[(0, (.aload_n 0), 1), (1, (.getfield 53), 3)], [(0, (.bipush 64), 2), (2, (.aload_n 0), 1), (3, (.getfield 1174), 3)], [(2, .imul, 1), (3, (.aload_n 0), 1)], [(0, (.getfield 1272), 3), (3, .iadd, 1)], [(0, .iaload, 1)]]
theorem zdk_513 : zsh_all 8 zdl_513 prog_14_method_123_code.data.toList = true := by decide +kernel
theorem zd_513_0 : decode prog_14_method_123_code 0 = .ok (.aload_n 0, 1) := zsh_g zdk_513 (r := 0) (k := 0) rfl rfl rfl
theorem zd_513_1 : decode prog_14_method_123_code 1 = .ok (.getfield 53, 3) := zsh_g zdk_513 (r := 0) (k := 1) rfl rfl rfl
theorem zd_513_4 : decode prog_14_method_123_code 4 = .ok (.bipush 64, 2) := zsh_g zdk_513 (r := 1) (k := 0) rfl rfl rfl
theorem zd_513_6 : decode prog_14_method_123_code 6 = .ok (.aload_n 0, 1) := zsh_g zdk_513 (r := 1) (k := 1) rfl rfl rfl
theorem zd_513_7 : decode prog_14_method_123_code 7 = .ok (.getfield 1174, 3) := zsh_g zdk_513 (r := 1) (k := 2) rfl rfl rfl
theorem zd_513_10 : decode prog_14_method_123_code 10 = .ok (.imul, 1) := zsh_g zdk_513 (r := 2) (k := 0) rfl rfl rfl
theorem zd_513_11 : decode prog_14_method_123_code 11 = .ok (.aload_n 0, 1) := zsh_g zdk_513 (r := 2) (k := 1) rfl rfl rfl
theorem zd_513_12 : decode prog_14_method_123_code 12 = .ok (.getfield 1272, 3) := zsh_g zdk_513 (r := 3) (k := 0) rfl rfl rfl
theorem zd_513_15 : decode prog_14_method_123_code 15 = .ok (.iadd, 1) := zsh_g zdk_513 (r := 3) (k := 1) rfl rfl rfl
theorem zd_513_16 : decode prog_14_method_123_code 16 = .ok (.iaload, 1) := zsh_g zdk_513 (r := 4) (k := 0) rfl rfl rfl
def zdl_514 : List (List (Nat × Instr × Nat)) := [[(0, (.getstatic 44), 3), (3, (.iload_n 0), 1)], [(0, .iaload, 1)], [], [], [], [], [], [], [], [], [], [], [], [], [], [], [], [(0, (.iload_n 1), 1), (1, (.bipush 11), 2), (3, .iushr, 1)], [(0, (.bipush 31), 2), (2, .iand, 1)], [(0, (.iload_n 1), 1), (1, (.bipush 16), 2), (3, .iushr, 1)], [(0, (.bipush 31), 2), (2, .iand, 1)], [(0, (.iload_n 0), 1), (1, (.bipush 48), 2), (3, (.if_icmp .ge 13), 3)], [(2, (.iload_n 1), 1), (3, (.bipush 16), 2)], [(1, .iushr, 1), (2, (.bipush 31), 2)], [(0, .iand, 1), (1, (.goto 4), 3)], [(0, (.iconst 0), 1), (2, (.iconst 0), 1)]]
theorem zdk_514 : zsh_all 8 zdl_514 prog_3_method_6_code.data.toList = true := by decide +kernel
theorem zd_514_0 : decode prog_3_method_6_code 0 = .ok (.getstatic 44, 3) := zsh_g zdk_514 (r := 0) (k := 0) rfl rfl rfl
theorem zd_514_3 : decode prog_3_method_6_code 3 = .ok (.iload_n 0, 1) := zsh_g zdk_514 (r := 0) (k := 1) rfl rfl rfl
theorem zd_514_4 : decode prog_3_method_6_code 4 = .ok (.iaload, 1) := zsh_g zdk_514 (r := 1) (k := 0) rfl rfl rfl
theorem zd_514_68 : decode prog_3_method_6_code 68 = .ok (.iload_n 1, 1) := zsh_g zdk_514 (r := 17) (k := 0) rfl rfl rfl
theorem zd_514_69 : decode prog_3_method_6_code 69 = .ok (.bipush 11, 2) := zsh_g zdk_514 (r := 17) (k := 1) rfl rfl rfl
theorem zd_514_71 : decode prog_3_method_6_code 71 = .ok (.iushr, 1) := zsh_g zdk_514 (r := 17) (k := 2) rfl rfl rfl
theorem zd_514_72 : decode prog_3_method_6_code 72 = .ok (.bipush 31, 2) := zsh_g zdk_514 (r := 18) (k := 0) rfl rfl rfl
theorem zd_514_74 : decode prog_3_method_6_code 74 = .ok (.iand, 1) := zsh_g zdk_514 (r := 18) (k := 1) rfl rfl rfl
theorem zd_514_76 : decode prog_3_method_6_code 76 = .ok (.iload_n 1, 1) := zsh_g zdk_514 (r := 19) (k := 0) rfl rfl rfl
theorem zd_514_77 : decode prog_3_method_6_code 77 = .ok (.bipush 16, 2) := zsh_g zdk_514 (r := 19) (k := 1) rfl rfl rfl
theorem zd_514_79 : decode prog_3_method_6_code 79 = .ok (.iushr, 1) := zsh_g zdk_514 (r := 19) (k := 2) rfl rfl rfl
theorem zd_514_80 : decode prog_3_method_6_code 80 = .ok (.bipush 31, 2) := zsh_g zdk_514 (r := 20) (k := 0) rfl rfl rfl
theorem zd_514_82 : decode prog_3_method_6_code 82 = .ok (.iand, 1) := zsh_g zdk_514 (r := 20) (k := 1) rfl rfl rfl
theorem zd_514_84 : decode prog_3_method_6_code 84 = .ok (.iload_n 0, 1) := zsh_g zdk_514 (r := 21) (k := 0) rfl rfl rfl
theorem zd_514_85 : decode prog_3_method_6_code 85 = .ok (.bipush 48, 2) := zsh_g zdk_514 (r := 21) (k := 1) rfl rfl rfl
theorem zd_514_87 : decode prog_3_method_6_code 87 = .ok (.if_icmp .ge 13, 3) := zsh_g zdk_514 (r := 21) (k := 2) rfl rfl rfl
theorem zd_514_90 : decode prog_3_method_6_code 90 = .ok (.iload_n 1, 1) := zsh_g zdk_514 (r := 22) (k := 0) rfl rfl rfl
theorem zd_514_91 : decode prog_3_method_6_code 91 = .ok (.bipush 16, 2) := zsh_g zdk_514 (r := 22) (k := 1) rfl rfl rfl
theorem zd_514_93 : decode prog_3_method_6_code 93 = .ok (.iushr, 1) := zsh_g zdk_514 (r := 23) (k := 0) rfl rfl rfl
theorem zd_514_94 : decode prog_3_method_6_code 94 = .ok (.bipush 31, 2) := zsh_g zdk_514 (r := 23) (k := 1) rfl rfl rfl
theorem zd_514_96 : decode prog_3_method_6_code 96 = .ok (.iand, 1) := zsh_g zdk_514 (r := 24) (k := 0) rfl rfl rfl
theorem zd_514_97 : decode prog_3_method_6_code 97 = .ok (.goto 4, 3) := zsh_g zdk_514 (r := 24) (k := 1) rfl rfl rfl
theorem zd_514_100 : decode prog_3_method_6_code 100 = .ok (.iconst 0, 1) := zsh_g zdk_514 (r := 25) (k := 0) rfl rfl rfl
theorem zd_514_102 : decode prog_3_method_6_code 102 = .ok (.iconst 0, 1) := zsh_g zdk_514 (r := 25) (k := 1) rfl rfl rfl
theorem zd_514_5 : decode prog_3_method_6_code 5 = .ok (.tableswitch 97 0 11 #[63, 63, 63, 97, 63, 97, 97, 97, 71, 71, 71, 79], 63) := by decide +kernel
def zdl_515 : List (List (Nat × Instr × Nat)) := [[(0, (.iload_n 1), 1), (1, (.bipush 21), 2), (3, .iushr, 1)], [(0, (.bipush 31), 2), (2, .iand, 1), (3, (.iload_n 2), 1)], [(0, (.if_icmp .ne 7), 3), (3, (.iconst 1), 1)], [(0, (.goto 4), 3), (3, (.iconst 0), 1)], [(0, (.istore_n 3), 1), (1, (.iload_n 1), 1), (2, (.bipush 16), 2)], [(0, .iushr, 1), (1, (.bipush 31), 2), (3, .iand, 1)], [(0, (.iload_n 2), 1), (1, (.if_icmp .ne 7), 3)], [(0, (.iconst 1), 1), (1, (.goto 4), 3)], [(0, (.iconst 0), 1), (1, (.istore 4), 2), (3, (.getstatic 44), 3)], [(2, (.iload_n 0), 1), (3, .iaload, 1)], [], [], [], [], [], [], [], [], [], [], [], [], [], [], [], [], [], [], [(0, (.iload_n 3), 1), (1, (.ifCond .ne 8), 3)], [(0, (.iload 4), 2), (2, (.ifCond .eq 7), 3)], [(1, (.iconst 1), 1), (2, (.goto 4), 3)], [(1, (.iconst 0), 1), (3, (.iload 4), 2)], [(2, (.iload_n 3), 1)], [(0, (.iload_n 3), 1), (1, (.ifCond .ne 14), 3)], [(0, (.iload_n 0), 1), (1, (.bipush 48), 2), (3, (.if_icmp .lt 12), 3)], [(2, (.iload 4), 2)], [(0, (.ifCond .eq 7), 3), (3, (.iconst 1), 1)], [(0, (.goto 4), 3), (3, (.iconst 0), 1)], [(1, (.iconst 0), 1)]]
theorem zdk_515 : zsh_all 8 zdl_515 prog_3_method_7_code.data.toList = true := by decide +kernel
theorem zd_515_0 : decode prog_3_method_7_code 0 = .ok (.iload_n 1, 1) := zsh_g zdk_515 (r := 0) (k := 0) rfl rfl rfl
theorem zd_515_1 : decode prog_3_method_7_code 1 = .ok (.bipush 21, 2) := zsh_g zdk_515 (r := 0) (k := 1) rfl rfl rfl
theorem zd_515_3 : decode prog_3_method_7_code 3 = .ok (.iushr, 1) := zsh_g zdk_515 (r := 0) (k := 2) rfl rfl rfl
theorem zd_515_4 : decode prog_3_method_7_code 4 = .ok (.bipush 31, 2) := zsh_g zdk_515 (r := 1) (k := 0) rfl rfl rfl
theorem zd_515_6 : decode prog_3_method_7_code 6 = .ok (.iand, 1) := zsh_g zdk_515 (r := 1) (k := 1) rfl rfl rfl
theorem zd_515_7 : decode prog_3_method_7_code 7 = .ok (.iload_n 2, 1) := zsh_g zdk_515 (r := 1) (k := 2) rfl rfl rfl
theorem zd_515_8 : decode prog_3_method_7_code 8 = .ok (.if_icmp .ne 7, 3) := zsh_g zdk_515 (r := 2) (k := 0) rfl rfl rfl
theorem zd_515_11 : decode prog_3_method_7_code 11 = .ok (.iconst 1, 1) := zsh_g zdk_515 (r := 2) (k := 1) rfl rfl rfl
theorem zd_515_12 : decode prog_3_method_7_code 12 = .ok (.goto 4, 3) := zsh_g zdk_515 (r := 3) (k := 0) rfl rfl rfl
theorem zd_515_15 : decode prog_3_method_7_code 15 = .ok (.iconst 0, 1) := zsh_g zdk_515 (r := 3) (k := 1) rfl rfl rfl
theorem zd_515_16 : decode prog_3_method_7_code 16 = .ok (.istore_n 3, 1) := zsh_g zdk_515 (r := 4) (k := 0) rfl rfl rfl
theorem zd_515_17 : decode prog_3_method_7_code 17 = .ok (.iload_n 1, 1) := zsh_g zdk_515 (r := 4) (k := 1) rfl rfl rfl
theorem zd_515_18 : decode prog_3_method_7_code 18 = .ok (.bipush 16, 2) := zsh_g zdk_515 (r := 4) (k := 2) rfl rfl rfl
theorem zd_515_20 : decode prog_3_method_7_code 20 = .ok (.iushr, 1) := zsh_g zdk_515 (r := 5) (k := 0) rfl rfl rfl
theorem zd_515_21 : decode prog_3_method_7_code 21 = .ok (.bipush 31, 2) := zsh_g zdk_515 (r := 5) (k := 1) rfl rfl rfl
theorem zd_515_23 : decode prog_3_method_7_code 23 = .ok (.iand, 1) := zsh_g zdk_515 (r := 5) (k := 2) rfl rfl rfl
theorem zd_515_24 : decode prog_3_method_7_code 24 = .ok (.iload_n 2, 1) := zsh_g zdk_515 (r := 6) (k := 0) rfl rfl rfl
theorem zd_515_25 : decode prog_3_method_7_code 25 = .ok (.if_icmp .ne 7, 3) := zsh_g zdk_515 (r := 6) (k := 1) rfl rfl rfl
theorem zd_515_28 : decode prog_3_method_7_code 28 = .ok (.iconst 1, 1) := zsh_g zdk_515 (r := 7) (k := 0) rfl rfl rfl
theorem zd_515_29 : decode prog_3_method_7_code 29 = .ok (.goto 4, 3) := zsh_g zdk_515 (r := 7) (k := 1) rfl rfl rfl
theorem zd_515_32 : decode prog_3_method_7_code 32 = .ok (.iconst 0, 1) := zsh_g zdk_515 (r := 8) (k := 0) rfl rfl rfl
theorem zd_515_33 : decode prog_3_method_7_code 33 = .ok (.istore 4, 2) := zsh_g zdk_515 (r := 8) (k := 1) rfl rfl rfl
theorem zd_515_35 : decode prog_3_method_7_code 35 = .ok (.getstatic 44, 3) := zsh_g zdk_515 (r := 8) (k := 2) rfl rfl rfl
theorem zd_515_38 : decode prog_3_method_7_code 38 = .ok (.iload_n 0, 1) := zsh_g zdk_515 (r := 9) (k := 0) rfl rfl rfl
theorem zd_515_39 : decode prog_3_method_7_code 39 = .ok (.iaload, 1) := zsh_g zdk_515 (r := 9) (k := 1) rfl rfl rfl
theorem zd_515_112 : decode prog_3_method_7_code 112 = .ok (.iload_n 3, 1) := zsh_g zdk_515 (r := 28) (k := 0) rfl rfl rfl
theorem zd_515_113 : decode prog_3_method_7_code 113 = .ok (.ifCond .ne 8, 3) := zsh_g zdk_515 (r := 28) (k := 1) rfl rfl rfl
theorem zd_515_116 : decode prog_3_method_7_code 116 = .ok (.iload 4, 2) := zsh_g zdk_515 (r := 29) (k := 0) rfl rfl rfl
theorem zd_515_118 : decode prog_3_method_7_code 118 = .ok (.ifCond .eq 7, 3) := zsh_g zdk_515 (r := 29) (k := 1) rfl rfl rfl
theorem zd_515_121 : decode prog_3_method_7_code 121 = .ok (.iconst 1, 1) := zsh_g zdk_515 (r := 30) (k := 0) rfl rfl rfl
theorem zd_515_122 : decode prog_3_method_7_code 122 = .ok (.goto 4, 3) := zsh_g zdk_515 (r := 30) (k := 1) rfl rfl rfl
theorem zd_515_125 : decode prog_3_method_7_code 125 = .ok (.iconst 0, 1) := zsh_g zdk_515 (r := 31) (k := 0) rfl rfl rfl
theorem zd_515_127 : decode prog_3_method_7_code 127 = .ok (.iload 4, 2) := zsh_g zdk_515 (r := 31) (k := 1) rfl rfl rfl
theorem zd_515_130 : decode prog_3_method_7_code 130 = .ok (.iload_n 3, 1) := zsh_g zdk_515 (r := 32) (k := 0) rfl rfl rfl
theorem zd_515_132 : decode prog_3_method_7_code 132 = .ok (.iload_n 3, 1) := zsh_g zdk_515 (r := 33) (k := 0) rfl rfl rfl
theorem zd_515_133 : decode prog_3_method_7_code 133 = .ok (.ifCond .ne 14, 3) := zsh_g zdk_515 (r := 33) (k := 1) rfl rfl rfl
theorem zd_515_136 : decode prog_3_method_7_code 136 = .ok (.iload_n 0, 1) := zsh_g zdk_515 (r := 34) (k := 0) rfl rfl rfl
theorem zd_515_137 : decode prog_3_method_7_code 137 = .ok (.bipush 48, 2) := zsh_g zdk_515 (r := 34) (k := 1) rfl rfl rfl
theorem zd_515_139 : decode prog_3_method_7_code 139 = .ok (.if_icmp .lt 12, 3) := zsh_g zdk_515 (r := 34) (k := 2) rfl rfl rfl
theorem zd_515_142 : decode prog_3_method_7_code 142 = .ok (.iload 4, 2) := zsh_g zdk_515 (r := 35) (k := 0) rfl rfl rfl
theorem zd_515_144 : decode prog_3_method_7_code 144 = .ok (.ifCond .eq 7, 3) := zsh_g zdk_515 (r := 36) (k := 0) rfl rfl rfl
theorem zd_515_147 : decode prog_3_method_7_code 147 = .ok (.iconst 1, 1) := zsh_g zdk_515 (r := 36) (k := 1) rfl rfl rfl
theorem zd_515_148 : decode prog_3_method_7_code 148 = .ok (.goto 4, 3) := zsh_g zdk_515 (r := 37) (k := 0) rfl rfl rfl
theorem zd_515_151 : decode prog_3_method_7_code 151 = .ok (.iconst 0, 1) := zsh_g zdk_515 (r := 37) (k := 1) rfl rfl rfl
theorem zd_515_153 : decode prog_3_method_7_code 153 = .ok (.iconst 0, 1) := zsh_g zdk_515 (r := 38) (k := 0) rfl rfl rfl
theorem zd_515_40 : decode prog_3_method_7_code 40 = .ok (.tableswitch 113 0 13 #[72, 87, 72, 72, 113, 90, 113, 113, 90, 90, 113, 92, 72, 90], 72) := by decide +kernel
def zdl_516 : List (List (Nat × Instr × Nat)) := [[(0, (.iload_n 0), 1), (1, (.bipush 31), 2), (3, (.if_icmp .eq 21), 3)], [(2, (.iload_n 0), 1), (3, (.bipush 7), 2)], [(1, (.if_icmp .eq 15), 3)], [(0, (.iload_n 0), 1), (1, (.bipush 28), 2), (3, (.if_icmp .eq 9), 3)], [(2, (.iload_n 0), 1), (3, (.bipush 29), 2)], [(1, (.if_icmp .ne 7), 3)], [(0, (.iconst 1), 1), (1, (.goto 4), 3)], [(0, (.iconst 0), 1)]]
theorem zdk_516 : zsh_all 8 zdl_516 prog_3_method_4_code.data.toList = true := by decide +kernel
theorem zd_516_0 : decode prog_3_method_4_code 0 = .ok (.iload_n 0, 1) := zsh_g zdk_516 (r := 0) (k := 0) rfl rfl rfl
theorem zd_516_1 : decode prog_3_method_4_code 1 = .ok (.bipush 31, 2) := zsh_g zdk_516 (r := 0) (k := 1) rfl rfl rfl
theorem zd_516_3 : decode prog_3_method_4_code 3 = .ok (.if_icmp .eq 21, 3) := zsh_g zdk_516 (r := 0) (k := 2) rfl rfl rfl
theorem zd_516_6 : decode prog_3_method_4_code 6 = .ok (.iload_n 0, 1) := zsh_g zdk_516 (r := 1) (k := 0) rfl rfl rfl
theorem zd_516_7 : decode prog_3_method_4_code 7 = .ok (.bipush 7, 2) := zsh_g zdk_516 (r := 1) (k := 1) rfl rfl rfl
theorem zd_516_9 : decode prog_3_method_4_code 9 = .ok (.if_icmp .eq 15, 3) := zsh_g zdk_516 (r := 2) (k := 0) rfl rfl rfl
theorem zd_516_12 : decode prog_3_method_4_code 12 = .ok (.iload_n 0, 1) := zsh_g zdk_516 (r := 3) (k := 0) rfl rfl rfl
theorem zd_516_13 : decode prog_3_method_4_code 13 = .ok (.bipush 28, 2) := zsh_g zdk_516 (r := 3) (k := 1) rfl rfl rfl
theorem zd_516_15 : decode prog_3_method_4_code 15 = .ok (.if_icmp .eq 9, 3) := zsh_g zdk_516 (r := 3) (k := 2) rfl rfl rfl
theorem zd_516_18 : decode prog_3_method_4_code 18 = .ok (.iload_n 0, 1) := zsh_g zdk_516 (r := 4) (k := 0) rfl rfl rfl
theorem zd_516_19 : decode prog_3_method_4_code 19 = .ok (.bipush 29, 2) := zsh_g zdk_516 (r := 4) (k := 1) rfl rfl rfl
theorem zd_516_21 : decode prog_3_method_4_code 21 = .ok (.if_icmp .ne 7, 3) := zsh_g zdk_516 (r := 5) (k := 0) rfl rfl rfl
theorem zd_516_24 : decode prog_3_method_4_code 24 = .ok (.iconst 1, 1) := zsh_g zdk_516 (r := 6) (k := 0) rfl rfl rfl
theorem zd_516_25 : decode prog_3_method_4_code 25 = .ok (.goto 4, 3) := zsh_g zdk_516 (r := 6) (k := 1) rfl rfl rfl
theorem zd_516_28 : decode prog_3_method_4_code 28 = .ok (.iconst 0, 1) := zsh_g zdk_516 (r := 7) (k := 0) rfl rfl rfl
def zdl_517 : List (List (Nat × Instr × Nat)) := [[(0, (.aload_n 0), 1), (1, (.getfield 112), 3)], [(0, (.iconst (-1)), 1), (1, (.if_icmp .ne 7), 3)], [(0, (.iconst 0), 1), (1, (.goto 12), 3)], [(0, (.aload_n 0), 1), (1, (.getfield 15), 3)], [(0, (.aload_n 0), 1), (1, (.getfield 112), 3)], [(0, .iaload, 1)]]
theorem zdk_517 : zsh_all 8 zdl_517 prog_11_method_28_code.data.toList = true := by decide +kernel
theorem zd_517_0 : decode prog_11_method_28_code 0 = .ok (.aload_n 0, 1) := zsh_g zdk_517 (r := 0) (k := 0) rfl rfl rfl
theorem zd_517_1 : decode prog_11_method_28_code 1 = .ok (.getfield 112, 3) := zsh_g zdk_517 (r := 0) (k := 1) rfl rfl rfl
theorem zd_517_4 : decode prog_11_method_28_code 4 = .ok (.iconst (-1), 1) := zsh_g zdk_517 (r := 1) (k := 0) rfl rfl rfl
theorem zd_517_5 : decode prog_11_method_28_code 5 = .ok (.if_icmp .ne 7, 3) := zsh_g zdk_517 (r := 1) (k := 1) rfl rfl rfl
theorem zd_517_8 : decode prog_11_method_28_code 8 = .ok (.iconst 0, 1) := zsh_g zdk_517 (r := 2) (k := 0) rfl rfl rfl
theorem zd_517_9 : decode prog_11_method_28_code 9 = .ok (.goto 12, 3) := zsh_g zdk_517 (r := 2) (k := 1) rfl rfl rfl
theorem zd_517_12 : decode prog_11_method_28_code 12 = .ok (.aload_n 0, 1) := zsh_g zdk_517 (r := 3) (k := 0) rfl rfl rfl
theorem zd_517_13 : decode prog_11_method_28_code 13 = .ok (.getfield 15, 3) := zsh_g zdk_517 (r := 3) (k := 1) rfl rfl rfl
theorem zd_517_16 : decode prog_11_method_28_code 16 = .ok (.aload_n 0, 1) := zsh_g zdk_517 (r := 4) (k := 0) rfl rfl rfl
theorem zd_517_17 : decode prog_11_method_28_code 17 = .ok (.getfield 112, 3) := zsh_g zdk_517 (r := 4) (k := 1) rfl rfl rfl
theorem zd_517_20 : decode prog_11_method_28_code 20 = .ok (.iaload, 1) := zsh_g zdk_517 (r := 5) (k := 0) rfl rfl rfl
def zdl_518 : List (List (Nat × Instr × Nat)) := [[(0, (.aload_n 0), 1), (1, (.getfield 112), 3)], [(0, (.iconst (-1)), 1), (1, (.if_icmp .ne 7), 3)], [(0, (.iconst 0), 1), (1, (.goto 12), 3)], [(0, (.aload_n 0), 1), (1, (.getfield 9), 3)], [(0, (.aload_n 0), 1), (1, (.getfield 112), 3)], [(0, .iaload, 1)]]
theorem zdk_518 : zsh_all 8 zdl_518 prog_11_method_25_code.data.toList = true := by decide +kernel
theorem zd_518_0 : decode prog_11_method_25_code 0 = .ok (.aload_n 0, 1) := zsh_g zdk_518 (r := 0) (k := 0) rfl rfl rfl
theorem zd_518_1 : decode prog_11_method_25_code 1 = .ok (.getfield 112, 3) := zsh_g zdk_518 (r := 0) (k := 1) rfl rfl rfl
theorem zd_518_4 : decode prog_11_method_25_code 4 = .ok (.iconst (-1), 1) := zsh_g zdk_518 (r := 1) (k := 0) rfl rfl rfl
theorem zd_518_5 : decode prog_11_method_25_code 5 = .ok (.if_icmp .ne 7, 3) := zsh_g zdk_518 (r := 1) (k := 1) rfl rfl rfl
theorem zd_518_8 : decode prog_11_method_25_code 8 = .ok (.iconst 0, 1) := zsh_g zdk_518 (r := 2) (k := 0) rfl rfl rfl
theorem zd_518_9 : decode prog_11_method_25_code 9 = .ok (.goto 12, 3) := zsh_g zdk_518 (r := 2) (k := 1) rfl rfl rfl
theorem zd_518_12 : decode prog_11_method_25_code 12 = .ok (.aload_n 0, 1) := zsh_g zdk_518 (r := 3) (k := 0) rfl rfl rfl
theorem zd_518_13 : decode prog_11_method_25_code 13 = .ok (.getfield 9, 3) := zsh_g zdk_518 (r := 3) (k := 1) rfl rfl rfl
theorem zd_518_16 : decode prog_11_method_25_code 16 = .ok (.aload_n 0, 1) := zsh_g zdk_518 (r := 4) (k := 0) rfl rfl rfl
theorem zd_518_17 : decode prog_11_method_25_code 17 = .ok (.getfield 112, 3) := zsh_g zdk_518 (r := 4) (k := 1) rfl rfl rfl
theorem zd_518_20 : decode prog_11_method_25_code 20 = .ok (.iaload, 1) := zsh_g zdk_518 (r := 5) (k := 0) rfl rfl rfl
def zdl_519 : List (List (Nat × Instr × Nat)) := [[(0, (.aload_n 0), 1), (1, (.getfield 58), 3)], [(0, (.bipush 6), 2), (2, .imul, 1), (3, (.istore 6), 2)], [(1, (.iload 6), 2), (3, (.bipush 6), 2)], [(1, .iadd, 1), (2, (.aload_n 0), 1), (3, (.getfield 38), 3)], [(2, .arraylength, 1), (3, (.if_icmp .le 5), 3)], [(2, (.iconst (-1)), 1)], [(0, (.aload_n 0), 1), (1, (.getfield 35), 3)], [(0, (.iconst 2), 1), (1, (.aload_n 0), 1), (2, (.getfield 58), 3)], [(1, .imul, 1), (2, (.lconst 0), 1), (3, .lastore, 1)], [(0, (.aload_n 0), 1), (1, (.getfield 35), 3)], [(0, (.iconst 2), 1), (1, (.aload_n 0), 1), (2, (.getfield 58), 3)], [(1, .imul, 1), (2, (.iconst 1), 1), (3, .iadd, 1)], [(0, (.lconst 0), 1), (1, .lastore, 1), (2, (.aload_n 0), 1), (3, (.getfield 38), 3)], [(2, (.iload 6), 2)], [(0, (.iconst 0), 1), (1, .iadd, 1), (2, (.iload_n 1), 1), (3, .iastore, 1)], [(0, (.aload_n 0), 1), (1, (.getfield 38), 3)], [(0, (.iload 6), 2), (2, (.iconst 1), 1), (3, .iadd, 1)], [(0, (.iload_n 2), 1), (1, .iastore, 1), (2, (.aload_n 0), 1), (3, (.getfield 38), 3)], [(2, (.iload 6), 2)], [(0, (.iconst 2), 1), (1, .iadd, 1), (2, (.iload_n 3), 1), (3, .iastore, 1)], [(0, (.aload_n 0), 1), (1, (.getfield 38), 3)], [(0, (.iload 6), 2), (2, (.iconst 3), 1), (3, .iadd, 1)], [(0, (.iconst (-1)), 1), (1, .iastore, 1), (2, (.aload_n 0), 1), (3, (.getfield 38), 3)], [(2, (.iload 6), 2)], [(0, (.iconst 4), 1), (1, .iadd, 1), (2, (.iload 4), 2)], [(0, .iastore, 1), (1, (.aload_n 0), 1), (2, (.getfield 38), 3)], [(1, (.iload 6), 2), (3, (.iconst 5), 1)], [(0, .iadd, 1), (1, (.iload 5), 2), (3, .iastore, 1)], [(0, (.aload_n 0), 1), (1, .dup, 1), (2, (.getfield 58), 3)], [(1, (.iconst 1), 1), (2, .iadd, 1), (3, (.putfield 58), 3)], [(2, (.aload_n 0), 1), (3, (.getfield 58), 3)], [(2, (.iconst 1), 1), (3, .isub, 1)]]
theorem zdk_519 : zsh_all 8 zdl_519 prog_12_method_7_code.data.toList = true := by decide +kernel
theorem zd_519_0 : decode prog_12_method_7_code 0 = .ok (.aload_n 0, 1) := zsh_g zdk_519 (r := 0) (k := 0) rfl rfl rfl
theorem zd_519_1 : decode prog_12_method_7_code 1 = .ok (.getfield 58, 3) := zsh_g zdk_519 (r := 0) (k := 1) rfl rfl rfl
theorem zd_519_4 : decode prog_12_method_7_code 4 = .ok (.bipush 6, 2) := zsh_g zdk_519 (r := 1) (k := 0) rfl rfl rfl
theorem zd_519_6 : decode prog_12_method_7_code 6 = .ok (.imul, 1) := zsh_g zdk_519 (r := 1) (k := 1) rfl rfl rfl
theorem zd_519_7 : decode prog_12_method_7_code 7 = .ok (.istore 6, 2) := zsh_g zdk_519 (r := 1) (k := 2) rfl rfl rfl
theorem zd_519_9 : decode prog_12_method_7_code 9 = .ok (.iload 6, 2) := zsh_g zdk_519 (r := 2) (k := 0) rfl rfl rfl
theorem zd_519_11 : decode prog_12_method_7_code 11 = .ok (.bipush 6, 2) := zsh_g zdk_519 (r := 2) (k := 1) rfl rfl rfl
theorem zd_519_13 : decode prog_12_method_7_code 13 = .ok (.iadd, 1) := zsh_g zdk_519 (r := 3) (k := 0) rfl rfl rfl
theorem zd_519_14 : decode prog_12_method_7_code 14 = .ok (.aload_n 0, 1) := zsh_g zdk_519 (r := 3) (k := 1) rfl rfl rfl
theorem zd_519_15 : decode prog_12_method_7_code 15 = .ok (.getfield 38, 3) := zsh_g zdk_519 (r := 3) (k := 2) rfl rfl rfl
theorem zd_519_18 : decode prog_12_method_7_code 18 = .ok (.arraylength, 1) := zsh_g zdk_519 (r := 4) (k := 0) rfl rfl rfl
theorem zd_519_19 : decode prog_12_method_7_code 19 = .ok (.if_icmp .le 5, 3) := zsh_g zdk_519 (r := 4) (k := 1) rfl rfl rfl
theorem zd_519_22 : decode prog_12_method_7_code 22 = .ok (.iconst (-1), 1) := zsh_g zdk_519 (r := 5) (k := 0) rfl rfl rfl
theorem zd_519_24 : decode prog_12_method_7_code 24 = .ok (.aload_n 0, 1) := zsh_g zdk_519 (r := 6) (k := 0) rfl rfl rfl
theorem zd_519_25 : decode prog_12_method_7_code 25 = .ok (.getfield 35, 3) := zsh_g zdk_519 (r := 6) (k := 1) rfl rfl rfl
theorem zd_519_28 : decode prog_12_method_7_code 28 = .ok (.iconst 2, 1) := zsh_g zdk_519 (r := 7) (k := 0) rfl rfl rfl
theorem zd_519_29 : decode prog_12_method_7_code 29 = .ok (.aload_n 0, 1) := zsh_g zdk_519 (r := 7) (k := 1) rfl rfl rfl
theorem zd_519_30 : decode prog_12_method_7_code 30 = .ok (.getfield 58, 3) := zsh_g zdk_519 (r := 7) (k := 2) rfl rfl rfl
theorem zd_519_33 : decode prog_12_method_7_code 33 = .ok (.imul, 1) := zsh_g zdk_519 (r := 8) (k := 0) rfl rfl rfl
theorem zd_519_34 : decode prog_12_method_7_code 34 = .ok (.lconst 0, 1) := zsh_g zdk_519 (r := 8) (k := 1) rfl rfl rfl
theorem zd_519_35 : decode prog_12_method_7_code 35 = .ok (.lastore, 1) := zsh_g zdk_519 (r := 8) (k := 2) rfl rfl rfl
theorem zd_519_36 : decode prog_12_method_7_code 36 = .ok (.aload_n 0, 1) := zsh_g zdk_519 (r := 9) (k := 0) rfl rfl rfl
theorem zd_519_37 : decode prog_12_method_7_code 37 = .ok (.getfield 35, 3) := zsh_g zdk_519 (r := 9) (k := 1) rfl rfl rfl
theorem zd_519_40 : decode prog_12_method_7_code 40 = .ok (.iconst 2, 1) := zsh_g zdk_519 (r := 10) (k := 0) rfl rfl rfl
theorem zd_519_41 : decode prog_12_method_7_code 41 = .ok (.aload_n 0, 1) := zsh_g zdk_519 (r := 10) (k := 1) rfl rfl rfl
theorem zd_519_42 : decode prog_12_method_7_code 42 = .ok (.getfield 58, 3) := zsh_g zdk_519 (r := 10) (k := 2) rfl rfl rfl
theorem zd_519_45 : decode prog_12_method_7_code 45 = .ok (.imul, 1) := zsh_g zdk_519 (r := 11) (k := 0) rfl rfl rfl
theorem zd_519_46 : decode prog_12_method_7_code 46 = .ok (.iconst 1, 1) := zsh_g zdk_519 (r := 11) (k := 1) rfl rfl rfl
theorem zd_519_47 : decode prog_12_method_7_code 47 = .ok (.iadd, 1) := zsh_g zdk_519 (r := 11) (k := 2) rfl rfl rfl
theorem zd_519_48 : decode prog_12_method_7_code 48 = .ok (.lconst 0, 1) := zsh_g zdk_519 (r := 12) (k := 0) rfl rfl rfl
theorem zd_519_49 : decode prog_12_method_7_code 49 = .ok (.lastore, 1) := zsh_g zdk_519 (r := 12) (k := 1) rfl rfl rfl
theorem zd_519_50 : decode prog_12_method_7_code 50 = .ok (.aload_n 0, 1) := zsh_g zdk_519 (r := 12) (k := 2) rfl rfl rfl
theorem zd_519_51 : decode prog_12_method_7_code 51 = .ok (.getfield 38, 3) := zsh_g zdk_519 (r := 12) (k := 3) rfl rfl rfl
theorem zd_519_54 : decode prog_12_method_7_code 54 = .ok (.iload 6, 2) := zsh_g zdk_519 (r := 13) (k := 0) rfl rfl rfl
theorem zd_519_56 : decode prog_12_method_7_code 56 = .ok (.iconst 0, 1) := zsh_g zdk_519 (r := 14) (k := 0) rfl rfl rfl
theorem zd_519_57 : decode prog_12_method_7_code 57 = .ok (.iadd, 1) := zsh_g zdk_519 (r := 14) (k := 1) rfl rfl rfl
theorem zd_519_58 : decode prog_12_method_7_code 58 = .ok (.iload_n 1, 1) := zsh_g zdk_519 (r := 14) (k := 2) rfl rfl rfl
theorem zd_519_59 : decode prog_12_method_7_code 59 = .ok (.iastore, 1) := zsh_g zdk_519 (r := 14) (k := 3) rfl rfl rfl
theorem zd_519_60 : decode prog_12_method_7_code 60 = .ok (.aload_n 0, 1) := zsh_g zdk_519 (r := 15) (k := 0) rfl rfl rfl
theorem zd_519_61 : decode prog_12_method_7_code 61 = .ok (.getfield 38, 3) := zsh_g zdk_519 (r := 15) (k := 1) rfl rfl rfl
theorem zd_519_64 : decode prog_12_method_7_code 64 = .ok (.iload 6, 2) := zsh_g zdk_519 (r := 16) (k := 0) rfl rfl rfl
theorem zd_519_66 : decode prog_12_method_7_code 66 = .ok (.iconst 1, 1) := zsh_g zdk_519 (r := 16) (k := 1) rfl rfl rfl
theorem zd_519_67 : decode prog_12_method_7_code 67 = .ok (.iadd, 1) := zsh_g zdk_519 (r := 16) (k := 2) rfl rfl rfl
theorem zd_519_68 : decode prog_12_method_7_code 68 = .ok (.iload_n 2, 1) := zsh_g zdk_519 (r := 17) (k := 0) rfl rfl rfl
theorem zd_519_69 : decode prog_12_method_7_code 69 = .ok (.iastore, 1) := zsh_g zdk_519 (r := 17) (k := 1) rfl rfl rfl
theorem zd_519_70 : decode prog_12_method_7_code 70 = .ok (.aload_n 0, 1) := zsh_g zdk_519 (r := 17) (k := 2) rfl rfl rfl
theorem zd_519_71 : decode prog_12_method_7_code 71 = .ok (.getfield 38, 3) := zsh_g zdk_519 (r := 17) (k := 3) rfl rfl rfl
theorem zd_519_74 : decode prog_12_method_7_code 74 = .ok (.iload 6, 2) := zsh_g zdk_519 (r := 18) (k := 0) rfl rfl rfl
theorem zd_519_76 : decode prog_12_method_7_code 76 = .ok (.iconst 2, 1) := zsh_g zdk_519 (r := 19) (k := 0) rfl rfl rfl
theorem zd_519_77 : decode prog_12_method_7_code 77 = .ok (.iadd, 1) := zsh_g zdk_519 (r := 19) (k := 1) rfl rfl rfl
theorem zd_519_78 : decode prog_12_method_7_code 78 = .ok (.iload_n 3, 1) := zsh_g zdk_519 (r := 19) (k := 2) rfl rfl rfl
theorem zd_519_79 : decode prog_12_method_7_code 79 = .ok (.iastore, 1) := zsh_g zdk_519 (r := 19) (k := 3) rfl rfl rfl
theorem zd_519_80 : decode prog_12_method_7_code 80 = .ok (.aload_n 0, 1) := zsh_g zdk_519 (r := 20) (k := 0) rfl rfl rfl
theorem zd_519_81 : decode prog_12_method_7_code 81 = .ok (.getfield 38, 3) := zsh_g zdk_519 (r := 20) (k := 1) rfl rfl rfl
theorem zd_519_84 : decode prog_12_method_7_code 84 = .ok (.iload 6, 2) := zsh_g zdk_519 (r := 21) (k := 0) rfl rfl rfl
theorem zd_519_86 : decode prog_12_method_7_code 86 = .ok (.iconst 3, 1) := zsh_g zdk_519 (r := 21) (k := 1) rfl rfl rfl
theorem zd_519_87 : decode prog_12_method_7_code 87 = .ok (.iadd, 1) := zsh_g zdk_519 (r := 21) (k := 2) rfl rfl rfl
theorem zd_519_88 : decode prog_12_method_7_code 88 = .ok (.iconst (-1), 1) := zsh_g zdk_519 (r := 22) (k := 0) rfl rfl rfl
theorem zd_519_89 : decode prog_12_method_7_code 89 = .ok (.iastore, 1) := zsh_g zdk_519 (r := 22) (k := 1) rfl rfl rfl
theorem zd_519_90 : decode prog_12_method_7_code 90 = .ok (.aload_n 0, 1) := zsh_g zdk_519 (r := 22) (k := 2) rfl rfl rfl
theorem zd_519_91 : decode prog_12_method_7_code 91 = .ok (.getfield 38, 3) := zsh_g zdk_519 (r := 22) (k := 3) rfl rfl rfl
theorem zd_519_94 : decode prog_12_method_7_code 94 = .ok (.iload 6, 2) := zsh_g zdk_519 (r := 23) (k := 0) rfl rfl rfl
theorem zd_519_96 : decode prog_12_method_7_code 96 = .ok (.iconst 4, 1) := zsh_g zdk_519 (r := 24) (k := 0) rfl rfl rfl
theorem zd_519_97 : decode prog_12_method_7_code 97 = .ok (.iadd, 1) := zsh_g zdk_519 (r := 24) (k := 1) rfl rfl rfl
theorem zd_519_98 : decode prog_12_method_7_code 98 = .ok (.iload 4, 2) := zsh_g zdk_519 (r := 24) (k := 2) rfl rfl rfl
theorem zd_519_100 : decode prog_12_method_7_code 100 = .ok (.iastore, 1) := zsh_g zdk_519 (r := 25) (k := 0) rfl rfl rfl
theorem zd_519_101 : decode prog_12_method_7_code 101 = .ok (.aload_n 0, 1) := zsh_g zdk_519 (r := 25) (k := 1) rfl rfl rfl
theorem zd_519_102 : decode prog_12_method_7_code 102 = .ok (.getfield 38, 3) := zsh_g zdk_519 (r := 25) (k := 2) rfl rfl rfl
theorem zd_519_105 : decode prog_12_method_7_code 105 = .ok (.iload 6, 2) := zsh_g zdk_519 (r := 26) (k := 0) rfl rfl rfl
theorem zd_519_107 : decode prog_12_method_7_code 107 = .ok (.iconst 5, 1) := zsh_g zdk_519 (r := 26) (k := 1) rfl rfl rfl
theorem zd_519_108 : decode prog_12_method_7_code 108 = .ok (.iadd, 1) := zsh_g zdk_519 (r := 27) (k := 0) rfl rfl rfl
theorem zd_519_109 : decode prog_12_method_7_code 109 = .ok (.iload 5, 2) := zsh_g zdk_519 (r := 27) (k := 1) rfl rfl rfl
theorem zd_519_111 : decode prog_12_method_7_code 111 = .ok (.iastore, 1) := zsh_g zdk_519 (r := 27) (k := 2) rfl rfl rfl
theorem zd_519_112 : decode prog_12_method_7_code 112 = .ok (.aload_n 0, 1) := zsh_g zdk_519 (r := 28) (k := 0) rfl rfl rfl
theorem zd_519_113 : decode prog_12_method_7_code 113 = .ok (.dup, 1) := zsh_g zdk_519 (r := 28) (k := 1) rfl rfl rfl
theorem zd_519_114 : decode prog_12_method_7_code 114 = .ok (.getfield 58, 3) := zsh_g zdk_519 (r := 28) (k := 2) rfl rfl rfl
theorem zd_519_117 : decode prog_12_method_7_code 117 = .ok (.iconst 1, 1) := zsh_g zdk_519 (r := 29) (k := 0) rfl rfl rfl
theorem zd_519_118 : decode prog_12_method_7_code 118 = .ok (.iadd, 1) := zsh_g zdk_519 (r := 29) (k := 1) rfl rfl rfl
theorem zd_519_119 : decode prog_12_method_7_code 119 = .ok (.putfield 58, 3) := zsh_g zdk_519 (r := 29) (k := 2) rfl rfl rfl
theorem zd_519_122 : decode prog_12_method_7_code 122 = .ok (.aload_n 0, 1) := zsh_g zdk_519 (r := 30) (k := 0) rfl rfl rfl
theorem zd_519_123 : decode prog_12_method_7_code 123 = .ok (.getfield 58, 3) := zsh_g zdk_519 (r := 30) (k := 1) rfl rfl rfl
theorem zd_519_126 : decode prog_12_method_7_code 126 = .ok (.iconst 1, 1) := zsh_g zdk_519 (r := 31) (k := 0) rfl rfl rfl
theorem zd_519_127 : decode prog_12_method_7_code 127 = .ok (.isub, 1) := zsh_g zdk_519 (r := 31) (k := 1) rfl rfl rfl
def zdl_520 : List (List (Nat × Instr × Nat)) := [[(0, (.aload_n 0), 1), (1, (.getfield 112), 3)], [(0, (.iconst (-1)), 1), (1, (.if_icmp .ne 7), 3)], [(0, (.lconst 0), 1), (1, (.goto 12), 3)], [(0, (.aload_n 0), 1), (1, (.getfield 21), 3)], [(0, (.aload_n 0), 1), (1, (.getfield 112), 3)], [(0, .laload, 1)]]
theorem zdk_520 : zsh_all 8 zdl_520 prog_11_method_26_code.data.toList = true := by decide +kernel
theorem zd_520_0 : decode prog_11_method_26_code 0 = .ok (.aload_n 0, 1) := zsh_g zdk_520 (r := 0) (k := 0) rfl rfl rfl
theorem zd_520_1 : decode prog_11_method_26_code 1 = .ok (.getfield 112, 3) := zsh_g zdk_520 (r := 0) (k := 1) rfl rfl rfl
theorem zd_520_4 : decode prog_11_method_26_code 4 = .ok (.iconst (-1), 1) := zsh_g zdk_520 (r := 1) (k := 0) rfl rfl rfl
theorem zd_520_5 : decode prog_11_method_26_code 5 = .ok (.if_icmp .ne 7, 3) := zsh_g zdk_520 (r := 1) (k := 1) rfl rfl rfl
theorem zd_520_8 : decode prog_11_method_26_code 8 = .ok (.lconst 0, 1) := zsh_g zdk_520 (r := 2) (k := 0) rfl rfl rfl
theorem zd_520_9 : decode prog_11_method_26_code 9 = .ok (.goto 12, 3) := zsh_g zdk_520 (r := 2) (k := 1) rfl rfl rfl
theorem zd_520_12 : decode prog_11_method_26_code 12 = .ok (.aload_n 0, 1) := zsh_g zdk_520 (r := 3) (k := 0) rfl rfl rfl
theorem zd_520_13 : decode prog_11_method_26_code 13 = .ok (.getfield 21, 3) := zsh_g zdk_520 (r := 3) (k := 1) rfl rfl rfl
theorem zd_520_16 : decode prog_11_method_26_code 16 = .ok (.aload_n 0, 1) := zsh_g zdk_520 (r := 4) (k := 0) rfl rfl rfl
theorem zd_520_17 : decode prog_11_method_26_code 17 = .ok (.getfield 112, 3) := zsh_g zdk_520 (r := 4) (k := 1) rfl rfl rfl
theorem zd_520_20 : decode prog_11_method_26_code 20 = .ok (.laload, 1) := zsh_g zdk_520 (r := 5) (k := 0) rfl rfl rfl
def zdl_521 : List (List (Nat × Instr × Nat)) := [[(0, (.aload_n 0), 1), (1, (.getfield 112), 3)], [(0, (.iconst (-1)), 1), (1, (.if_icmp .ne 7), 3)], [(0, (.lconst 0), 1), (1, (.goto 12), 3)], [(0, (.aload_n 0), 1), (1, (.getfield 25), 3)], [(0, (.aload_n 0), 1), (1, (.getfield 112), 3)], [(0, .laload, 1)]]
theorem zdk_521 : zsh_all 8 zdl_521 prog_11_method_27_code.data.toList = true := by decide +kernel
theorem zd_521_0 : decode prog_11_method_27_code 0 = .ok (.aload_n 0, 1) := zsh_g zdk_521 (r := 0) (k := 0) rfl rfl rfl
theorem zd_521_1 : decode prog_11_method_27_code 1 = .ok (.getfield 112, 3) := zsh_g zdk_521 (r := 0) (k := 1) rfl rfl rfl
theorem zd_521_4 : decode prog_11_method_27_code 4 = .ok (.iconst (-1), 1) := zsh_g zdk_521 (r := 1) (k := 0) rfl rfl rfl
theorem zd_521_5 : decode prog_11_method_27_code 5 = .ok (.if_icmp .ne 7, 3) := zsh_g zdk_521 (r := 1) (k := 1) rfl rfl rfl
theorem zd_521_8 : decode prog_11_method_27_code 8 = .ok (.lconst 0, 1) := zsh_g zdk_521 (r := 2) (k := 0) rfl rfl rfl
theorem zd_521_9 : decode prog_11_method_27_code 9 = .ok (.goto 12, 3) := zsh_g zdk_521 (r := 2) (k := 1) rfl rfl rfl
theorem zd_521_12 : decode prog_11_method_27_code 12 = .ok (.aload_n 0, 1) := zsh_g zdk_521 (r := 3) (k := 0) rfl rfl rfl
theorem zd_521_13 : decode prog_11_method_27_code 13 = .ok (.getfield 25, 3) := zsh_g zdk_521 (r := 3) (k := 1) rfl rfl rfl
theorem zd_521_16 : decode prog_11_method_27_code 16 = .ok (.aload_n 0, 1) := zsh_g zdk_521 (r := 4) (k := 0) rfl rfl rfl
theorem zd_521_17 : decode prog_11_method_27_code 17 = .ok (.getfield 112, 3) := zsh_g zdk_521 (r := 4) (k := 1) rfl rfl rfl
theorem zd_521_20 : decode prog_11_method_27_code 20 = .ok (.laload, 1) := zsh_g zdk_521 (r := 5) (k := 0) rfl rfl rfl
def zdl_522 : List (List (Nat × Instr × Nat)) := [[(0, (.iload_n 1), 1), (1, (.invokestatic 88), 3)], [(0, (.ifCond .ne 5), 3), (3, (.iconst (-1)), 1)], [(1, (.iload_n 2), 1), (2, (.iconst 0), 1), (3, (.invokestatic 92), 3)], [(2, (.istore_n 2), 1), (3, (.iload_n 3), 1)], [(0, (.aload_n 0), 1), (1, .arraylength, 1), (2, (.invokestatic 38), 3)], [(1, (.istore_n 3), 1), (2, (.iload_n 2), 1), (3, (.iload_n 3), 1)], [(0, (.if_icmp .lt 5), 3), (3, (.iconst (-1)), 1)], [(1, (.aload_n 0), 1), (2, (.iload_n 1), 1), (3, (.iload_n 2), 1)], [(0, (.iload_n 3), 1), (1, (.invokestatic 95), 3)]]
theorem zdk_522 : zsh_all 8 zdl_522 prog_29_method_22_code.data.toList = true := by decide +kernel
theorem zd_522_0 : decode prog_29_method_22_code 0 = .ok (.iload_n 1, 1) := zsh_g zdk_522 (r := 0) (k := 0) rfl rfl rfl
theorem zd_522_1 : decode prog_29_method_22_code 1 = .ok (.invokestatic 88, 3) := zsh_g zdk_522 (r := 0) (k := 1) rfl rfl rfl
theorem zd_522_4 : decode prog_29_method_22_code 4 = .ok (.ifCond .ne 5, 3) := zsh_g zdk_522 (r := 1) (k := 0) rfl rfl rfl
theorem zd_522_7 : decode prog_29_method_22_code 7 = .ok (.iconst (-1), 1) := zsh_g zdk_522 (r := 1) (k := 1) rfl rfl rfl
theorem zd_522_9 : decode prog_29_method_22_code 9 = .ok (.iload_n 2, 1) := zsh_g zdk_522 (r := 2) (k := 0) rfl rfl rfl
theorem zd_522_10 : decode prog_29_method_22_code 10 = .ok (.iconst 0, 1) := zsh_g zdk_522 (r := 2) (k := 1) rfl rfl rfl
theorem zd_522_11 : decode prog_29_method_22_code 11 = .ok (.invokestatic 92, 3) := zsh_g zdk_522 (r := 2) (k := 2) rfl rfl rfl
theorem zd_522_14 : decode prog_29_method_22_code 14 = .ok (.istore_n 2, 1) := zsh_g zdk_522 (r := 3) (k := 0) rfl rfl rfl
theorem zd_522_15 : decode prog_29_method_22_code 15 = .ok (.iload_n 3, 1) := zsh_g zdk_522 (r := 3) (k := 1) rfl rfl rfl
theorem zd_522_16 : decode prog_29_method_22_code 16 = .ok (.aload_n 0, 1) := zsh_g zdk_522 (r := 4) (k := 0) rfl rfl rfl
theorem zd_522_17 : decode prog_29_method_22_code 17 = .ok (.arraylength, 1) := zsh_g zdk_522 (r := 4) (k := 1) rfl rfl rfl
theorem zd_522_18 : decode prog_29_method_22_code 18 = .ok (.invokestatic 38, 3) := zsh_g zdk_522 (r := 4) (k := 2) rfl rfl rfl
theorem zd_522_21 : decode prog_29_method_22_code 21 = .ok (.istore_n 3, 1) := zsh_g zdk_522 (r := 5) (k := 0) rfl rfl rfl
theorem zd_522_22 : decode prog_29_method_22_code 22 = .ok (.iload_n 2, 1) := zsh_g zdk_522 (r := 5) (k := 1) rfl rfl rfl
theorem zd_522_23 : decode prog_29_method_22_code 23 = .ok (.iload_n 3, 1) := zsh_g zdk_522 (r := 5) (k := 2) rfl rfl rfl
theorem zd_522_24 : decode prog_29_method_22_code 24 = .ok (.if_icmp .lt 5, 3) := zsh_g zdk_522 (r := 6) (k := 0) rfl rfl rfl
theorem zd_522_27 : decode prog_29_method_22_code 27 = .ok (.iconst (-1), 1) := zsh_g zdk_522 (r := 6) (k := 1) rfl rfl rfl
theorem zd_522_29 : decode prog_29_method_22_code 29 = .ok (.aload_n 0, 1) := zsh_g zdk_522 (r := 7) (k := 0) rfl rfl rfl
theorem zd_522_30 : decode prog_29_method_22_code 30 = .ok (.iload_n 1, 1) := zsh_g zdk_522 (r := 7) (k := 1) rfl rfl rfl
theorem zd_522_31 : decode prog_29_method_22_code 31 = .ok (.iload_n 2, 1) := zsh_g zdk_522 (r := 7) (k := 2) rfl rfl rfl
theorem zd_522_32 : decode prog_29_method_22_code 32 = .ok (.iload_n 3, 1) := zsh_g zdk_522 (r := 8) (k := 0) rfl rfl rfl
theorem zd_522_33 : decode prog_29_method_22_code 33 = .ok (.invokestatic 95, 3) := zsh_g zdk_522 (r := 8) (k := 1) rfl rfl rfl
def zdl_523 : List (List (Nat × Instr × Nat)) := [[(0, (.iload_n 2), 1), (1, (.iconst 0), 1), (2, (.invokestatic 224), 3)], [(1, (.istore_n 2), 1), (2, (.iload_n 3), 1), (3, (.aload_n 0), 1)], [(0, .arraylength, 1), (1, (.iconst 1), 1), (2, .ishr, 1), (3, (.invokestatic 183), 3)], [(2, (.istore_n 3), 1), (3, (.iload_n 2), 1)], [(0, (.iload_n 3), 1), (1, (.if_icmp .lt 5), 3)], [(0, (.iconst (-1)), 1), (2, (.iload_n 1), 1), (3, (.ldc 227), 2)], [(1, (.if_icmp .ge 11), 3)], [(0, (.aload_n 0), 1), (1, (.iload_n 1), 1), (2, (.iload_n 2), 1), (3, (.iload_n 3), 1)], [(0, (.invokestatic 228), 3)], [(0, (.aload_n 0), 1), (1, (.iload_n 1), 1), (2, (.iload_n 2), 1), (3, (.iload_n 3), 1)], [(0, (.invokestatic 232), 3)]]
theorem zdk_523 : zsh_all 8 zdl_523 prog_30_method_40_code.data.toList = true := by decide +kernel
theorem zd_523_0 : decode prog_30_method_40_code 0 = .ok (.iload_n 2, 1) := zsh_g zdk_523 (r := 0) (k := 0) rfl rfl rfl
theorem zd_523_1 : decode prog_30_method_40_code 1 = .ok (.iconst 0, 1) := zsh_g zdk_523 (r := 0) (k := 1) rfl rfl rfl
theorem zd_523_2 : decode prog_30_method_40_code 2 = .ok (.invokestatic 224, 3) := zsh_g zdk_523 (r := 0) (k := 2) rfl rfl rfl
theorem zd_523_5 : decode prog_30_method_40_code 5 = .ok (.istore_n 2, 1) := zsh_g zdk_523 (r := 1) (k := 0) rfl rfl rfl
theorem zd_523_6 : decode prog_30_method_40_code 6 = .ok (.iload_n 3, 1) := zsh_g zdk_523 (r := 1) (k := 1) rfl rfl rfl
theorem zd_523_7 : decode prog_30_method_40_code 7 = .ok (.aload_n 0, 1) := zsh_g zdk_523 (r := 1) (k := 2) rfl rfl rfl
theorem zd_523_8 : decode prog_30_method_40_code 8 = .ok (.arraylength, 1) := zsh_g zdk_523 (r := 2) (k := 0) rfl rfl rfl
theorem zd_523_9 : decode prog_30_method_40_code 9 = .ok (.iconst 1, 1) := zsh_g zdk_523 (r := 2) (k := 1) rfl rfl rfl
theorem zd_523_10 : decode prog_30_method_40_code 10 = .ok (.ishr, 1) := zsh_g zdk_523 (r := 2) (k := 2) rfl rfl rfl
theorem zd_523_11 : decode prog_30_method_40_code 11 = .ok (.invokestatic 183, 3) := zsh_g zdk_523 (r := 2) (k := 3) rfl rfl rfl
theorem zd_523_14 : decode prog_30_method_40_code 14 = .ok (.istore_n 3, 1) := zsh_g zdk_523 (r := 3) (k := 0) rfl rfl rfl
theorem zd_523_15 : decode prog_30_method_40_code 15 = .ok (.iload_n 2, 1) := zsh_g zdk_523 (r := 3) (k := 1) rfl rfl rfl
theorem zd_523_16 : decode prog_30_method_40_code 16 = .ok (.iload_n 3, 1) := zsh_g zdk_523 (r := 4) (k := 0) rfl rfl rfl
theorem zd_523_17 : decode prog_30_method_40_code 17 = .ok (.if_icmp .lt 5, 3) := zsh_g zdk_523 (r := 4) (k := 1) rfl rfl rfl
theorem zd_523_20 : decode prog_30_method_40_code 20 = .ok (.iconst (-1), 1) := zsh_g zdk_523 (r := 5) (k := 0) rfl rfl rfl
theorem zd_523_22 : decode prog_30_method_40_code 22 = .ok (.iload_n 1, 1) := zsh_g zdk_523 (r := 5) (k := 1) rfl rfl rfl
theorem zd_523_23 : decode prog_30_method_40_code 23 = .ok (.ldc 227, 2) := zsh_g zdk_523 (r := 5) (k := 2) rfl rfl rfl
theorem zd_523_25 : decode prog_30_method_40_code 25 = .ok (.if_icmp .ge 11, 3) := zsh_g zdk_523 (r := 6) (k := 0) rfl rfl rfl
theorem zd_523_28 : decode prog_30_method_40_code 28 = .ok (.aload_n 0, 1) := zsh_g zdk_523 (r := 7) (k := 0) rfl rfl rfl
theorem zd_523_29 : decode prog_30_method_40_code 29 = .ok (.iload_n 1, 1) := zsh_g zdk_523 (r := 7) (k := 1) rfl rfl rfl
theorem zd_523_30 : decode prog_30_method_40_code 30 = .ok (.iload_n 2, 1) := zsh_g zdk_523 (r := 7) (k := 2) rfl rfl rfl
theorem zd_523_31 : decode prog_30_method_40_code 31 = .ok (.iload_n 3, 1) := zsh_g zdk_523 (r := 7) (k := 3) rfl rfl rfl
theorem zd_523_32 : decode prog_30_method_40_code 32 = .ok (.invokestatic 228, 3) := zsh_g zdk_523 (r := 8) (k := 0) rfl rfl rfl
theorem zd_523_36 : decode prog_30_method_40_code 36 = .ok (.aload_n 0, 1) := zsh_g zdk_523 (r := 9) (k := 0) rfl rfl rfl
theorem zd_523_37 : decode prog_30_method_40_code 37 = .ok (.iload_n 1, 1) := zsh_g zdk_523 (r := 9) (k := 1) rfl rfl rfl
theorem zd_523_38 : decode prog_30_method_40_code 38 = .ok (.iload_n 2, 1) := zsh_g zdk_523 (r := 9) (k := 2) rfl rfl rfl
theorem zd_523_39 : decode prog_30_method_40_code 39 = .ok (.iload_n 3, 1) := zsh_g zdk_523 (r := 9) (k := 3) rfl rfl rfl
theorem zd_523_40 : decode prog_30_method_40_code 40 = .ok (.invokestatic 232, 3) := zsh_g zdk_523 (r := 10) (k := 0) rfl rfl rfl
def zdl_524 : List (List (Nat × Instr × Nat)) := [[(0, (.aload_n 0), 1), (1, (.getfield 56), 3)], [(0, (.iconst 1), 1), (1, .iadd, 1), (2, (.bipush 6), 2)], [(0, .imul, 1), (1, (.aload_n 0), 1), (2, (.getfield 15), 3)], [(1, .arraylength, 1), (2, (.if_icmp .le 9), 3)], [(1, (.aload_n 0), 1), (2, (.invokevirtual 83), 3)], [(1, (.iconst 0), 1), (3, (.aload_n 0), 1)], [(0, (.getfield 56), 3), (3, (.bipush 6), 2)], [(1, .imul, 1), (2, (.istore_n 1), 1), (3, (.aload_n 0), 1)], [(0, (.invokevirtual 148), 3), (3, (.istore_n 2), 1)], [(0, (.aload_n 0), 1), (1, (.getfield 24), 3)], [(0, (.getfield 214), 3), (3, (.iload_n 2), 1)], [(0, .iaload, 1), (1, (.iconst 1), 1), (2, .isub, 1), (3, (.istore_n 3), 1)], [(0, (.aload_n 0), 1), (1, (.getfield 15), 3)], [(0, (.iload_n 1), 1), (1, (.iload_n 2), 1), (2, .iastore, 1), (3, (.aload_n 0), 1)], [(0, (.getfield 15), 3), (3, (.iload_n 1), 1)], [(0, (.iconst 1), 1), (1, .iadd, 1), (2, (.aload_n 0), 1), (3, (.invokevirtual 151), 3)], [(2, .iastore, 1), (3, (.aload_n 0), 1)], [(0, (.getfield 15), 3), (3, (.iload_n 1), 1)], [(0, (.iconst 2), 1), (1, .iadd, 1), (2, (.iconst 1), 1), (3, .iastore, 1)], [(0, (.aload_n 0), 1), (1, (.getfield 15), 3)], [(0, (.iload_n 1), 1), (1, (.iconst 3), 1), (2, .iadd, 1), (3, (.iload_n 3), 1)], [(0, (.ifCond .ge 7), 3), (3, (.iconst (-1)), 1)], [(0, (.goto 13), 3), (3, (.aload_n 0), 1)], [(0, (.getfield 18), 3), (3, (.iload_n 3), 1)], [(0, (.iconst 3), 1), (1, .imul, 1), (2, (.iconst 1), 1), (3, .iadd, 1)], [(0, .iaload, 1), (1, .iastore, 1), (2, (.aload_n 0), 1), (3, (.getfield 15), 3)], [(2, (.iload_n 1), 1), (3, (.iconst 4), 1)], [(0, .iadd, 1), (1, (.iload_n 3), 1), (2, (.ifCond .ge 7), 3)], [(1, (.iconst 0), 1), (2, (.goto 13), 3)], [(1, (.aload_n 0), 1), (2, (.getfield 18), 3)], [(1, (.iload_n 3), 1), (2, (.iconst 3), 1), (3, .imul, 1)], [(0, (.iconst 2), 1), (1, .iadd, 1), (2, .iaload, 1), (3, .iastore, 1)], [(0, (.aload_n 0), 1), (1, (.getfield 15), 3)], [(0, (.iload_n 1), 1), (1, (.iconst 5), 1), (2, .iadd, 1), (3, (.iconst (-1)), 1)], [(0, .iastore, 1), (1, (.aload_n 0), 1), (2, .dup, 1), (3, (.getfield 56), 3)], [(2, (.iconst 1), 1), (3, .iadd, 1)], [(0, (.putfield 56), 3), (3, (.aload_n 0), 1)], [(0, (.getfield 56), 3), (3, (.iconst 1), 1)], [(0, .isub, 1)]]
theorem zdk_524 : zsh_all 8 zdl_524 prog_10_method_43_code.data.toList = true := by decide +kernel
theorem zd_524_0 : decode prog_10_method_43_code 0 = .ok (.aload_n 0, 1) := zsh_g zdk_524 (r := 0) (k := 0) rfl rfl rfl
theorem zd_524_1 : decode prog_10_method_43_code 1 = .ok (.getfield 56, 3) := zsh_g zdk_524 (r := 0) (k := 1) rfl rfl rfl
theorem zd_524_4 : decode prog_10_method_43_code 4 = .ok (.iconst 1, 1) := zsh_g zdk_524 (r := 1) (k := 0) rfl rfl rfl
theorem zd_524_5 : decode prog_10_method_43_code 5 = .ok (.iadd, 1) := zsh_g zdk_524 (r := 1) (k := 1) rfl rfl rfl
theorem zd_524_6 : decode prog_10_method_43_code 6 = .ok (.bipush 6, 2) := zsh_g zdk_524 (r := 1) (k := 2) rfl rfl rfl
theorem zd_524_8 : decode prog_10_method_43_code 8 = .ok (.imul, 1) := zsh_g zdk_524 (r := 2) (k := 0) rfl rfl rfl
theorem zd_524_9 : decode prog_10_method_43_code 9 = .ok (.aload_n 0, 1) := zsh_g zdk_524 (r := 2) (k := 1) rfl rfl rfl
theorem zd_524_10 : decode prog_10_method_43_code 10 = .ok (.getfield 15, 3) := zsh_g zdk_524 (r := 2) (k := 2) rfl rfl rfl
theorem zd_524_13 : decode prog_10_method_43_code 13 = .ok (.arraylength, 1) := zsh_g zdk_524 (r := 3) (k := 0) rfl rfl rfl
theorem zd_524_14 : decode prog_10_method_43_code 14 = .ok (.if_icmp .le 9, 3) := zsh_g zdk_524 (r := 3) (k := 1) rfl rfl rfl
theorem zd_524_17 : decode prog_10_method_43_code 17 = .ok (.aload_n 0, 1) := zsh_g zdk_524 (r := 4) (k := 0) rfl rfl rfl
theorem zd_524_18 : decode prog_10_method_43_code 18 = .ok (.invokevirtual 83, 3) := zsh_g zdk_524 (r := 4) (k := 1) rfl rfl rfl
theorem zd_524_21 : decode prog_10_method_43_code 21 = .ok (.iconst 0, 1) := zsh_g zdk_524 (r := 5) (k := 0) rfl rfl rfl
theorem zd_524_23 : decode prog_10_method_43_code 23 = .ok (.aload_n 0, 1) := zsh_g zdk_524 (r := 5) (k := 1) rfl rfl rfl
theorem zd_524_24 : decode prog_10_method_43_code 24 = .ok (.getfield 56, 3) := zsh_g zdk_524 (r := 6) (k := 0) rfl rfl rfl
theorem zd_524_27 : decode prog_10_method_43_code 27 = .ok (.bipush 6, 2) := zsh_g zdk_524 (r := 6) (k := 1) rfl rfl rfl
theorem zd_524_29 : decode prog_10_method_43_code 29 = .ok (.imul, 1) := zsh_g zdk_524 (r := 7) (k := 0) rfl rfl rfl
theorem zd_524_30 : decode prog_10_method_43_code 30 = .ok (.istore_n 1, 1) := zsh_g zdk_524 (r := 7) (k := 1) rfl rfl rfl
theorem zd_524_31 : decode prog_10_method_43_code 31 = .ok (.aload_n 0, 1) := zsh_g zdk_524 (r := 7) (k := 2) rfl rfl rfl
theorem zd_524_32 : decode prog_10_method_43_code 32 = .ok (.invokevirtual 148, 3) := zsh_g zdk_524 (r := 8) (k := 0) rfl rfl rfl
theorem zd_524_35 : decode prog_10_method_43_code 35 = .ok (.istore_n 2, 1) := zsh_g zdk_524 (r := 8) (k := 1) rfl rfl rfl
theorem zd_524_36 : decode prog_10_method_43_code 36 = .ok (.aload_n 0, 1) := zsh_g zdk_524 (r := 9) (k := 0) rfl rfl rfl
theorem zd_524_37 : decode prog_10_method_43_code 37 = .ok (.getfield 24, 3) := zsh_g zdk_524 (r := 9) (k := 1) rfl rfl rfl
theorem zd_524_40 : decode prog_10_method_43_code 40 = .ok (.getfield 214, 3) := zsh_g zdk_524 (r := 10) (k := 0) rfl rfl rfl
theorem zd_524_43 : decode prog_10_method_43_code 43 = .ok (.iload_n 2, 1) := zsh_g zdk_524 (r := 10) (k := 1) rfl rfl rfl
theorem zd_524_44 : decode prog_10_method_43_code 44 = .ok (.iaload, 1) := zsh_g zdk_524 (r := 11) (k := 0) rfl rfl rfl
theorem zd_524_45 : decode prog_10_method_43_code 45 = .ok (.iconst 1, 1) := zsh_g zdk_524 (r := 11) (k := 1) rfl rfl rfl
theorem zd_524_46 : decode prog_10_method_43_code 46 = .ok (.isub, 1) := zsh_g zdk_524 (r := 11) (k := 2) rfl rfl rfl
theorem zd_524_47 : decode prog_10_method_43_code 47 = .ok (.istore_n 3, 1) := zsh_g zdk_524 (r := 11) (k := 3) rfl rfl rfl
theorem zd_524_48 : decode prog_10_method_43_code 48 = .ok (.aload_n 0, 1) := zsh_g zdk_524 (r := 12) (k := 0) rfl rfl rfl
theorem zd_524_49 : decode prog_10_method_43_code 49 = .ok (.getfield 15, 3) := zsh_g zdk_524 (r := 12) (k := 1) rfl rfl rfl
theorem zd_524_52 : decode prog_10_method_43_code 52 = .ok (.iload_n 1, 1) := zsh_g zdk_524 (r := 13) (k := 0) rfl rfl rfl
theorem zd_524_53 : decode prog_10_method_43_code 53 = .ok (.iload_n 2, 1) := zsh_g zdk_524 (r := 13) (k := 1) rfl rfl rfl
theorem zd_524_54 : decode prog_10_method_43_code 54 = .ok (.iastore, 1) := zsh_g zdk_524 (r := 13) (k := 2) rfl rfl rfl
theorem zd_524_55 : decode prog_10_method_43_code 55 = .ok (.aload_n 0, 1) := zsh_g zdk_524 (r := 13) (k := 3) rfl rfl rfl
theorem zd_524_56 : decode prog_10_method_43_code 56 = .ok (.getfield 15, 3) := zsh_g zdk_524 (r := 14) (k := 0) rfl rfl rfl
theorem zd_524_59 : decode prog_10_method_43_code 59 = .ok (.iload_n 1, 1) := zsh_g zdk_524 (r := 14) (k := 1) rfl rfl rfl
theorem zd_524_60 : decode prog_10_method_43_code 60 = .ok (.iconst 1, 1) := zsh_g zdk_524 (r := 15) (k := 0) rfl rfl rfl
theorem zd_524_61 : decode prog_10_method_43_code 61 = .ok (.iadd, 1) := zsh_g zdk_524 (r := 15) (k := 1) rfl rfl rfl
theorem zd_524_62 : decode prog_10_method_43_code 62 = .ok (.aload_n 0, 1) := zsh_g zdk_524 (r := 15) (k := 2) rfl rfl rfl
theorem zd_524_63 : decode prog_10_method_43_code 63 = .ok (.invokevirtual 151, 3) := zsh_g zdk_524 (r := 15) (k := 3) rfl rfl rfl
theorem zd_524_66 : decode prog_10_method_43_code 66 = .ok (.iastore, 1) := zsh_g zdk_524 (r := 16) (k := 0) rfl rfl rfl
theorem zd_524_67 : decode prog_10_method_43_code 67 = .ok (.aload_n 0, 1) := zsh_g zdk_524 (r := 16) (k := 1) rfl rfl rfl
theorem zd_524_68 : decode prog_10_method_43_code 68 = .ok (.getfield 15, 3) := zsh_g zdk_524 (r := 17) (k := 0) rfl rfl rfl
theorem zd_524_71 : decode prog_10_method_43_code 71 = .ok (.iload_n 1, 1) := zsh_g zdk_524 (r := 17) (k := 1) rfl rfl rfl
theorem zd_524_72 : decode prog_10_method_43_code 72 = .ok (.iconst 2, 1) := zsh_g zdk_524 (r := 18) (k := 0) rfl rfl rfl
theorem zd_524_73 : decode prog_10_method_43_code 73 = .ok (.iadd, 1) := zsh_g zdk_524 (r := 18) (k := 1) rfl rfl rfl
theorem zd_524_74 : decode prog_10_method_43_code 74 = .ok (.iconst 1, 1) := zsh_g zdk_524 (r := 18) (k := 2) rfl rfl rfl
theorem zd_524_75 : decode prog_10_method_43_code 75 = .ok (.iastore, 1) := zsh_g zdk_524 (r := 18) (k := 3) rfl rfl rfl
theorem zd_524_76 : decode prog_10_method_43_code 76 = .ok (.aload_n 0, 1) := zsh_g zdk_524 (r := 19) (k := 0) rfl rfl rfl
theorem zd_524_77 : decode prog_10_method_43_code 77 = .ok (.getfield 15, 3) := zsh_g zdk_524 (r := 19) (k := 1) rfl rfl rfl
theorem zd_524_80 : decode prog_10_method_43_code 80 = .ok (.iload_n 1, 1) := zsh_g zdk_524 (r := 20) (k := 0) rfl rfl rfl
theorem zd_524_81 : decode prog_10_method_43_code 81 = .ok (.iconst 3, 1) := zsh_g zdk_524 (r := 20) (k := 1) rfl rfl rfl
theorem zd_524_82 : decode prog_10_method_43_code 82 = .ok (.iadd, 1) := zsh_g zdk_524 (r := 20) (k := 2) rfl rfl rfl
theorem zd_524_83 : decode prog_10_method_43_code 83 = .ok (.iload_n 3, 1) := zsh_g zdk_524 (r := 20) (k := 3) rfl rfl rfl
theorem zd_524_84 : decode prog_10_method_43_code 84 = .ok (.ifCond .ge 7, 3) := zsh_g zdk_524 (r := 21) (k := 0) rfl rfl rfl
theorem zd_524_87 : decode prog_10_method_43_code 87 = .ok (.iconst (-1), 1) := zsh_g zdk_524 (r := 21) (k := 1) rfl rfl rfl
theorem zd_524_88 : decode prog_10_method_43_code 88 = .ok (.goto 13, 3) := zsh_g zdk_524 (r := 22) (k := 0) rfl rfl rfl
theorem zd_524_91 : decode prog_10_method_43_code 91 = .ok (.aload_n 0, 1) := zsh_g zdk_524 (r := 22) (k := 1) rfl rfl rfl
theorem zd_524_92 : decode prog_10_method_43_code 92 = .ok (.getfield 18, 3) := zsh_g zdk_524 (r := 23) (k := 0) rfl rfl rfl
theorem zd_524_95 : decode prog_10_method_43_code 95 = .ok (.iload_n 3, 1) := zsh_g zdk_524 (r := 23) (k := 1) rfl rfl rfl
theorem zd_524_96 : decode prog_10_method_43_code 96 = .ok (.iconst 3, 1) := zsh_g zdk_524 (r := 24) (k := 0) rfl rfl rfl
theorem zd_524_97 : decode prog_10_method_43_code 97 = .ok (.imul, 1) := zsh_g zdk_524 (r := 24) (k := 1) rfl rfl rfl
theorem zd_524_98 : decode prog_10_method_43_code 98 = .ok (.iconst 1, 1) := zsh_g zdk_524 (r := 24) (k := 2) rfl rfl rfl
theorem zd_524_99 : decode prog_10_method_43_code 99 = .ok (.iadd, 1) := zsh_g zdk_524 (r := 24) (k := 3) rfl rfl rfl
theorem zd_524_100 : decode prog_10_method_43_code 100 = .ok (.iaload, 1) := zsh_g zdk_524 (r := 25) (k := 0) rfl rfl rfl
theorem zd_524_101 : decode prog_10_method_43_code 101 = .ok (.iastore, 1) := zsh_g zdk_524 (r := 25) (k := 1) rfl rfl rfl
theorem zd_524_102 : decode prog_10_method_43_code 102 = .ok (.aload_n 0, 1) := zsh_g zdk_524 (r := 25) (k := 2) rfl rfl rfl
theorem zd_524_103 : decode prog_10_method_43_code 103 = .ok (.getfield 15, 3) := zsh_g zdk_524 (r := 25) (k := 3) rfl rfl rfl
theorem zd_524_106 : decode prog_10_method_43_code 106 = .ok (.iload_n 1, 1) := zsh_g zdk_524 (r := 26) (k := 0) rfl rfl rfl
theorem zd_524_107 : decode prog_10_method_43_code 107 = .ok (.iconst 4, 1) := zsh_g zdk_524 (r := 26) (k := 1) rfl rfl rfl
theorem zd_524_108 : decode prog_10_method_43_code 108 = .ok (.iadd, 1) := zsh_g zdk_524 (r := 27) (k := 0) rfl rfl rfl
theorem zd_524_109 : decode prog_10_method_43_code 109 = .ok (.iload_n 3, 1) := zsh_g zdk_524 (r := 27) (k := 1) rfl rfl rfl
theorem zd_524_110 : decode prog_10_method_43_code 110 = .ok (.ifCond .ge 7, 3) := zsh_g zdk_524 (r := 27) (k := 2) rfl rfl rfl
theorem zd_524_113 : decode prog_10_method_43_code 113 = .ok (.iconst 0, 1) := zsh_g zdk_524 (r := 28) (k := 0) rfl rfl rfl
theorem zd_524_114 : decode prog_10_method_43_code 114 = .ok (.goto 13, 3) := zsh_g zdk_524 (r := 28) (k := 1) rfl rfl rfl
theorem zd_524_117 : decode prog_10_method_43_code 117 = .ok (.aload_n 0, 1) := zsh_g zdk_524 (r := 29) (k := 0) rfl rfl rfl
theorem zd_524_118 : decode prog_10_method_43_code 118 = .ok (.getfield 18, 3) := zsh_g zdk_524 (r := 29) (k := 1) rfl rfl rfl
theorem zd_524_121 : decode prog_10_method_43_code 121 = .ok (.iload_n 3, 1) := zsh_g zdk_524 (r := 30) (k := 0) rfl rfl rfl
theorem zd_524_122 : decode prog_10_method_43_code 122 = .ok (.iconst 3, 1) := zsh_g zdk_524 (r := 30) (k := 1) rfl rfl rfl
theorem zd_524_123 : decode prog_10_method_43_code 123 = .ok (.imul, 1) := zsh_g zdk_524 (r := 30) (k := 2) rfl rfl rfl
theorem zd_524_124 : decode prog_10_method_43_code 124 = .ok (.iconst 2, 1) := zsh_g zdk_524 (r := 31) (k := 0) rfl rfl rfl
theorem zd_524_125 : decode prog_10_method_43_code 125 = .ok (.iadd, 1) := zsh_g zdk_524 (r := 31) (k := 1) rfl rfl rfl
theorem zd_524_126 : decode prog_10_method_43_code 126 = .ok (.iaload, 1) := zsh_g zdk_524 (r := 31) (k := 2) rfl rfl rfl
theorem zd_524_127 : decode prog_10_method_43_code 127 = .ok (.iastore, 1) := zsh_g zdk_524 (r := 31) (k := 3) rfl rfl rfl
theorem zd_524_128 : decode prog_10_method_43_code 128 = .ok (.aload_n 0, 1) := zsh_g zdk_524 (r := 32) (k := 0) rfl rfl rfl
theorem zd_524_129 : decode prog_10_method_43_code 129 = .ok (.getfield 15, 3) := zsh_g zdk_524 (r := 32) (k := 1) rfl rfl rfl
theorem zd_524_132 : decode prog_10_method_43_code 132 = .ok (.iload_n 1, 1) := zsh_g zdk_524 (r := 33) (k := 0) rfl rfl rfl
theorem zd_524_133 : decode prog_10_method_43_code 133 = .ok (.iconst 5, 1) := zsh_g zdk_524 (r := 33) (k := 1) rfl rfl rfl
theorem zd_524_134 : decode prog_10_method_43_code 134 = .ok (.iadd, 1) := zsh_g zdk_524 (r := 33) (k := 2) rfl rfl rfl
theorem zd_524_135 : decode prog_10_method_43_code 135 = .ok (.iconst (-1), 1) := zsh_g zdk_524 (r := 33) (k := 3) rfl rfl rfl
theorem zd_524_136 : decode prog_10_method_43_code 136 = .ok (.iastore, 1) := zsh_g zdk_524 (r := 34) (k := 0) rfl rfl rfl
theorem zd_524_137 : decode prog_10_method_43_code 137 = .ok (.aload_n 0, 1) := zsh_g zdk_524 (r := 34) (k := 1) rfl rfl rfl
theorem zd_524_138 : decode prog_10_method_43_code 138 = .ok (.dup, 1) := zsh_g zdk_524 (r := 34) (k := 2) rfl rfl rfl
theorem zd_524_139 : decode prog_10_method_43_code 139 = .ok (.getfield 56, 3) := zsh_g zdk_524 (r := 34) (k := 3) rfl rfl rfl
theorem zd_524_142 : decode prog_10_method_43_code 142 = .ok (.iconst 1, 1) := zsh_g zdk_524 (r := 35) (k := 0) rfl rfl rfl
theorem zd_524_143 : decode prog_10_method_43_code 143 = .ok (.iadd, 1) := zsh_g zdk_524 (r := 35) (k := 1) rfl rfl rfl
theorem zd_524_144 : decode prog_10_method_43_code 144 = .ok (.putfield 56, 3) := zsh_g zdk_524 (r := 36) (k := 0) rfl rfl rfl
theorem zd_524_147 : decode prog_10_method_43_code 147 = .ok (.aload_n 0, 1) := zsh_g zdk_524 (r := 36) (k := 1) rfl rfl rfl
theorem zd_524_148 : decode prog_10_method_43_code 148 = .ok (.getfield 56, 3) := zsh_g zdk_524 (r := 37) (k := 0) rfl rfl rfl
theorem zd_524_151 : decode prog_10_method_43_code 151 = .ok (.iconst 1, 1) := zsh_g zdk_524 (r := 37) (k := 1) rfl rfl rfl
theorem zd_524_152 : decode prog_10_method_43_code 152 = .ok (.isub, 1) := zsh_g zdk_524 (r := 38) (k := 0) rfl rfl rfl
def zdl_525 : List (List (Nat × Instr × Nat)) := [[(0, (.aload_n 0), 1), (1, (.bipush 40), 2), (3, (.invokevirtual 172), 3)], [(2, (.ifCond .ne 4), 3)], [(2, (.aload_n 0), 1), (3, (.getfield 203), 3)], [(2, (.bipush 6), 2)], [(0, .imul, 1), (1, (.iconst 3), 1), (2, .iadd, 1), (3, (.istore_n 3), 1)], [(0, (.aload_n 0), 1), (1, (.getfield 36), 3)], [(0, (.getfield 197), 3), (3, (.iload_n 3), 1)], [(0, (.aload_n 0), 1), (1, (.getfield 36), 3)], [(0, (.getfield 197), 3), (3, (.iload_n 3), 1)], [(0, .iaload, 1), (1, (.iload_n 2), 1), (2, (.invokestatic 205), 3)], [(1, .iastore, 1), (2, (.iconst 0), 1), (3, (.istore 4), 2)], [(1, (.iconst 0), 1), (2, (.istore 5), 2)], [(0, (.iload 5), 2), (2, (.iconst 4), 1), (3, (.if_icmp .ge 66), 3)], [(2, (.aload_n 0), 1), (3, (.invokevirtual 69), 3)], [(2, (.bipush 41), 2)], [(0, (.if_icmp .eq 57), 3), (3, (.aload_n 0), 1)], [(0, (.iload_n 2), 1), (1, (.iload 5), 2), (3, .iadd, 1)], [(0, (.invokevirtual 238), 3), (3, (.iinc 4 1), 3)], [(2, (.aload_n 0), 1), (3, (.invokevirtual 69), 3)], [(2, (.bipush 44), 2)], [(0, (.if_icmp .ne 37), 3), (3, (.iload 5), 2)], [(1, (.iconst 1), 1), (2, .iadd, 1), (3, (.iconst 4), 1)], [(0, (.if_icmp .ne 6), 3), (3, (.goto 26), 3)], [(2, (.aload_n 0), 1), (3, (.invokevirtual 73), 3)], [(2, (.aload_n 0), 1), (3, (.invokevirtual 69), 3)], [(2, (.bipush 41), 2)], [(0, (.if_icmp .ne 7), 3), (3, (.aload_n 0), 1)], [(0, (.invokevirtual 83), 3), (3, (.iinc 5 1), 3)], [(2, (.goto (-66)), 3)], [(1, (.aload_n 0), 1), (2, (.getfield 15), 3)], [(1, (.iload_n 1), 1), (2, (.bipush 6), 2)], [(0, .imul, 1), (1, (.iconst 2), 1), (2, .iadd, 1), (3, (.iconst 3), 1)], [(0, (.iload 4), 2), (2, .iadd, 1), (3, .iastore, 1)], [(0, (.aload_n 0), 1), (1, (.bipush 41), 2), (3, (.invokevirtual 175), 3)]]
theorem zdk_525 : zsh_all 8 zdl_525 prog_10_method_42_code.data.toList = true := by decide +kernel
theorem zd_525_0 : decode prog_10_method_42_code 0 = .ok (.aload_n 0, 1) := zsh_g zdk_525 (r := 0) (k := 0) rfl rfl rfl
theorem zd_525_1 : decode prog_10_method_42_code 1 = .ok (.bipush 40, 2) := zsh_g zdk_525 (r := 0) (k := 1) rfl rfl rfl
theorem zd_525_3 : decode prog_10_method_42_code 3 = .ok (.invokevirtual 172, 3) := zsh_g zdk_525 (r := 0) (k := 2) rfl rfl rfl
theorem zd_525_6 : decode prog_10_method_42_code 6 = .ok (.ifCond .ne 4, 3) := zsh_g zdk_525 (r := 1) (k := 0) rfl rfl rfl
theorem zd_525_10 : decode prog_10_method_42_code 10 = .ok (.aload_n 0, 1) := zsh_g zdk_525 (r := 2) (k := 0) rfl rfl rfl
theorem zd_525_11 : decode prog_10_method_42_code 11 = .ok (.getfield 203, 3) := zsh_g zdk_525 (r := 2) (k := 1) rfl rfl rfl
theorem zd_525_14 : decode prog_10_method_42_code 14 = .ok (.bipush 6, 2) := zsh_g zdk_525 (r := 3) (k := 0) rfl rfl rfl
theorem zd_525_16 : decode prog_10_method_42_code 16 = .ok (.imul, 1) := zsh_g zdk_525 (r := 4) (k := 0) rfl rfl rfl
theorem zd_525_17 : decode prog_10_method_42_code 17 = .ok (.iconst 3, 1) := zsh_g zdk_525 (r := 4) (k := 1) rfl rfl rfl
theorem zd_525_18 : decode prog_10_method_42_code 18 = .ok (.iadd, 1) := zsh_g zdk_525 (r := 4) (k := 2) rfl rfl rfl
theorem zd_525_19 : decode prog_10_method_42_code 19 = .ok (.istore_n 3, 1) := zsh_g zdk_525 (r := 4) (k := 3) rfl rfl rfl
theorem zd_525_20 : decode prog_10_method_42_code 20 = .ok (.aload_n 0, 1) := zsh_g zdk_525 (r := 5) (k := 0) rfl rfl rfl
theorem zd_525_21 : decode prog_10_method_42_code 21 = .ok (.getfield 36, 3) := zsh_g zdk_525 (r := 5) (k := 1) rfl rfl rfl
theorem zd_525_24 : decode prog_10_method_42_code 24 = .ok (.getfield 197, 3) := zsh_g zdk_525 (r := 6) (k := 0) rfl rfl rfl
theorem zd_525_27 : decode prog_10_method_42_code 27 = .ok (.iload_n 3, 1) := zsh_g zdk_525 (r := 6) (k := 1) rfl rfl rfl
theorem zd_525_28 : decode prog_10_method_42_code 28 = .ok (.aload_n 0, 1) := zsh_g zdk_525 (r := 7) (k := 0) rfl rfl rfl
theorem zd_525_29 : decode prog_10_method_42_code 29 = .ok (.getfield 36, 3) := zsh_g zdk_525 (r := 7) (k := 1) rfl rfl rfl
theorem zd_525_32 : decode prog_10_method_42_code 32 = .ok (.getfield 197, 3) := zsh_g zdk_525 (r := 8) (k := 0) rfl rfl rfl
theorem zd_525_35 : decode prog_10_method_42_code 35 = .ok (.iload_n 3, 1) := zsh_g zdk_525 (r := 8) (k := 1) rfl rfl rfl
theorem zd_525_36 : decode prog_10_method_42_code 36 = .ok (.iaload, 1) := zsh_g zdk_525 (r := 9) (k := 0) rfl rfl rfl
theorem zd_525_37 : decode prog_10_method_42_code 37 = .ok (.iload_n 2, 1) := zsh_g zdk_525 (r := 9) (k := 1) rfl rfl rfl
theorem zd_525_38 : decode prog_10_method_42_code 38 = .ok (.invokestatic 205, 3) := zsh_g zdk_525 (r := 9) (k := 2) rfl rfl rfl
theorem zd_525_41 : decode prog_10_method_42_code 41 = .ok (.iastore, 1) := zsh_g zdk_525 (r := 10) (k := 0) rfl rfl rfl
theorem zd_525_42 : decode prog_10_method_42_code 42 = .ok (.iconst 0, 1) := zsh_g zdk_525 (r := 10) (k := 1) rfl rfl rfl
theorem zd_525_43 : decode prog_10_method_42_code 43 = .ok (.istore 4, 2) := zsh_g zdk_525 (r := 10) (k := 2) rfl rfl rfl
theorem zd_525_45 : decode prog_10_method_42_code 45 = .ok (.iconst 0, 1) := zsh_g zdk_525 (r := 11) (k := 0) rfl rfl rfl
theorem zd_525_46 : decode prog_10_method_42_code 46 = .ok (.istore 5, 2) := zsh_g zdk_525 (r := 11) (k := 1) rfl rfl rfl
theorem zd_525_48 : decode prog_10_method_42_code 48 = .ok (.iload 5, 2) := zsh_g zdk_525 (r := 12) (k := 0) rfl rfl rfl
theorem zd_525_50 : decode prog_10_method_42_code 50 = .ok (.iconst 4, 1) := zsh_g zdk_525 (r := 12) (k := 1) rfl rfl rfl
theorem zd_525_51 : decode prog_10_method_42_code 51 = .ok (.if_icmp .ge 66, 3) := zsh_g zdk_525 (r := 12) (k := 2) rfl rfl rfl
theorem zd_525_54 : decode prog_10_method_42_code 54 = .ok (.aload_n 0, 1) := zsh_g zdk_525 (r := 13) (k := 0) rfl rfl rfl
theorem zd_525_55 : decode prog_10_method_42_code 55 = .ok (.invokevirtual 69, 3) := zsh_g zdk_525 (r := 13) (k := 1) rfl rfl rfl
theorem zd_525_58 : decode prog_10_method_42_code 58 = .ok (.bipush 41, 2) := zsh_g zdk_525 (r := 14) (k := 0) rfl rfl rfl
theorem zd_525_60 : decode prog_10_method_42_code 60 = .ok (.if_icmp .eq 57, 3) := zsh_g zdk_525 (r := 15) (k := 0) rfl rfl rfl
theorem zd_525_63 : decode prog_10_method_42_code 63 = .ok (.aload_n 0, 1) := zsh_g zdk_525 (r := 15) (k := 1) rfl rfl rfl
theorem zd_525_64 : decode prog_10_method_42_code 64 = .ok (.iload_n 2, 1) := zsh_g zdk_525 (r := 16) (k := 0) rfl rfl rfl
theorem zd_525_65 : decode prog_10_method_42_code 65 = .ok (.iload 5, 2) := zsh_g zdk_525 (r := 16) (k := 1) rfl rfl rfl
theorem zd_525_67 : decode prog_10_method_42_code 67 = .ok (.iadd, 1) := zsh_g zdk_525 (r := 16) (k := 2) rfl rfl rfl
theorem zd_525_68 : decode prog_10_method_42_code 68 = .ok (.invokevirtual 238, 3) := zsh_g zdk_525 (r := 17) (k := 0) rfl rfl rfl
theorem zd_525_71 : decode prog_10_method_42_code 71 = .ok (.iinc 4 1, 3) := zsh_g zdk_525 (r := 17) (k := 1) rfl rfl rfl
theorem zd_525_74 : decode prog_10_method_42_code 74 = .ok (.aload_n 0, 1) := zsh_g zdk_525 (r := 18) (k := 0) rfl rfl rfl
theorem zd_525_75 : decode prog_10_method_42_code 75 = .ok (.invokevirtual 69, 3) := zsh_g zdk_525 (r := 18) (k := 1) rfl rfl rfl
theorem zd_525_78 : decode prog_10_method_42_code 78 = .ok (.bipush 44, 2) := zsh_g zdk_525 (r := 19) (k := 0) rfl rfl rfl
theorem zd_525_80 : decode prog_10_method_42_code 80 = .ok (.if_icmp .ne 37, 3) := zsh_g zdk_525 (r := 20) (k := 0) rfl rfl rfl
theorem zd_525_83 : decode prog_10_method_42_code 83 = .ok (.iload 5, 2) := zsh_g zdk_525 (r := 20) (k := 1) rfl rfl rfl
theorem zd_525_85 : decode prog_10_method_42_code 85 = .ok (.iconst 1, 1) := zsh_g zdk_525 (r := 21) (k := 0) rfl rfl rfl
theorem zd_525_86 : decode prog_10_method_42_code 86 = .ok (.iadd, 1) := zsh_g zdk_525 (r := 21) (k := 1) rfl rfl rfl
theorem zd_525_87 : decode prog_10_method_42_code 87 = .ok (.iconst 4, 1) := zsh_g zdk_525 (r := 21) (k := 2) rfl rfl rfl
theorem zd_525_88 : decode prog_10_method_42_code 88 = .ok (.if_icmp .ne 6, 3) := zsh_g zdk_525 (r := 22) (k := 0) rfl rfl rfl
theorem zd_525_91 : decode prog_10_method_42_code 91 = .ok (.goto 26, 3) := zsh_g zdk_525 (r := 22) (k := 1) rfl rfl rfl
theorem zd_525_94 : decode prog_10_method_42_code 94 = .ok (.aload_n 0, 1) := zsh_g zdk_525 (r := 23) (k := 0) rfl rfl rfl
theorem zd_525_95 : decode prog_10_method_42_code 95 = .ok (.invokevirtual 73, 3) := zsh_g zdk_525 (r := 23) (k := 1) rfl rfl rfl
theorem zd_525_98 : decode prog_10_method_42_code 98 = .ok (.aload_n 0, 1) := zsh_g zdk_525 (r := 24) (k := 0) rfl rfl rfl
theorem zd_525_99 : decode prog_10_method_42_code 99 = .ok (.invokevirtual 69, 3) := zsh_g zdk_525 (r := 24) (k := 1) rfl rfl rfl
theorem zd_525_102 : decode prog_10_method_42_code 102 = .ok (.bipush 41, 2) := zsh_g zdk_525 (r := 25) (k := 0) rfl rfl rfl
theorem zd_525_104 : decode prog_10_method_42_code 104 = .ok (.if_icmp .ne 7, 3) := zsh_g zdk_525 (r := 26) (k := 0) rfl rfl rfl
theorem zd_525_107 : decode prog_10_method_42_code 107 = .ok (.aload_n 0, 1) := zsh_g zdk_525 (r := 26) (k := 1) rfl rfl rfl
theorem zd_525_108 : decode prog_10_method_42_code 108 = .ok (.invokevirtual 83, 3) := zsh_g zdk_525 (r := 27) (k := 0) rfl rfl rfl
theorem zd_525_111 : decode prog_10_method_42_code 111 = .ok (.iinc 5 1, 3) := zsh_g zdk_525 (r := 27) (k := 1) rfl rfl rfl
theorem zd_525_114 : decode prog_10_method_42_code 114 = .ok (.goto (-66), 3) := zsh_g zdk_525 (r := 28) (k := 0) rfl rfl rfl
theorem zd_525_117 : decode prog_10_method_42_code 117 = .ok (.aload_n 0, 1) := zsh_g zdk_525 (r := 29) (k := 0) rfl rfl rfl
theorem zd_525_118 : decode prog_10_method_42_code 118 = .ok (.getfield 15, 3) := zsh_g zdk_525 (r := 29) (k := 1) rfl rfl rfl
theorem zd_525_121 : decode prog_10_method_42_code 121 = .ok (.iload_n 1, 1) := zsh_g zdk_525 (r := 30) (k := 0) rfl rfl rfl
theorem zd_525_122 : decode prog_10_method_42_code 122 = .ok (.bipush 6, 2) := zsh_g zdk_525 (r := 30) (k := 1) rfl rfl rfl
theorem zd_525_124 : decode prog_10_method_42_code 124 = .ok (.imul, 1) := zsh_g zdk_525 (r := 31) (k := 0) rfl rfl rfl
theorem zd_525_125 : decode prog_10_method_42_code 125 = .ok (.iconst 2, 1) := zsh_g zdk_525 (r := 31) (k := 1) rfl rfl rfl
theorem zd_525_126 : decode prog_10_method_42_code 126 = .ok (.iadd, 1) := zsh_g zdk_525 (r := 31) (k := 2) rfl rfl rfl
theorem zd_525_127 : decode prog_10_method_42_code 127 = .ok (.iconst 3, 1) := zsh_g zdk_525 (r := 31) (k := 3) rfl rfl rfl
theorem zd_525_128 : decode prog_10_method_42_code 128 = .ok (.iload 4, 2) := zsh_g zdk_525 (r := 32) (k := 0) rfl rfl rfl
theorem zd_525_130 : decode prog_10_method_42_code 130 = .ok (.iadd, 1) := zsh_g zdk_525 (r := 32) (k := 1) rfl rfl rfl
theorem zd_525_131 : decode prog_10_method_42_code 131 = .ok (.iastore, 1) := zsh_g zdk_525 (r := 32) (k := 2) rfl rfl rfl
theorem zd_525_132 : decode prog_10_method_42_code 132 = .ok (.aload_n 0, 1) := zsh_g zdk_525 (r := 33) (k := 0) rfl rfl rfl
theorem zd_525_133 : decode prog_10_method_42_code 133 = .ok (.bipush 41, 2) := zsh_g zdk_525 (r := 33) (k := 1) rfl rfl rfl
theorem zd_525_135 : decode prog_10_method_42_code 135 = .ok (.invokevirtual 175, 3) := zsh_g zdk_525 (r := 33) (k := 2) rfl rfl rfl
def zdl_526 : List (List (Nat × Instr × Nat)) := [[(0, (.aload_n 0), 1), (1, (.getfield 15), 3)], [(0, (.iload_n 1), 1), (1, (.bipush 6), 2), (3, .imul, 1)], [(0, (.iconst 2), 1), (1, .iadd, 1), (2, (.iconst 2), 1), (3, .iastore, 1)], [(0, (.aload_n 0), 1), (1, (.bipush 91), 2), (3, (.invokevirtual 172), 3)], [(2, (.ifCond .eq 25), 3)], [(1, (.aload_n 0), 1), (2, (.iload_n 2), 1), (3, (.invokevirtual 238), 3)], [(2, (.aload_n 0), 1), (3, (.bipush 93), 2)], [(1, (.invokevirtual 175), 3)], [(0, (.aload_n 0), 1), (1, (.getfield 36), 3)], [(0, (.bipush 8), 2), (2, (.iload_n 2), 1), (3, (.iload_n 1), 1)], [(0, (.invokevirtual 169), 3)]]
theorem zdk_526 : zsh_all 8 zdl_526 prog_10_method_41_code.data.toList = true := by decide +kernel
theorem zd_526_0 : decode prog_10_method_41_code 0 = .ok (.aload_n 0, 1) := zsh_g zdk_526 (r := 0) (k := 0) rfl rfl rfl
theorem zd_526_1 : decode prog_10_method_41_code 1 = .ok (.getfield 15, 3) := zsh_g zdk_526 (r := 0) (k := 1) rfl rfl rfl
theorem zd_526_4 : decode prog_10_method_41_code 4 = .ok (.iload_n 1, 1) := zsh_g zdk_526 (r := 1) (k := 0) rfl rfl rfl
theorem zd_526_5 : decode prog_10_method_41_code 5 = .ok (.bipush 6, 2) := zsh_g zdk_526 (r := 1) (k := 1) rfl rfl rfl
theorem zd_526_7 : decode prog_10_method_41_code 7 = .ok (.imul, 1) := zsh_g zdk_526 (r := 1) (k := 2) rfl rfl rfl
theorem zd_526_8 : decode prog_10_method_41_code 8 = .ok (.iconst 2, 1) := zsh_g zdk_526 (r := 2) (k := 0) rfl rfl rfl
theorem zd_526_9 : decode prog_10_method_41_code 9 = .ok (.iadd, 1) := zsh_g zdk_526 (r := 2) (k := 1) rfl rfl rfl
theorem zd_526_10 : decode prog_10_method_41_code 10 = .ok (.iconst 2, 1) := zsh_g zdk_526 (r := 2) (k := 2) rfl rfl rfl
theorem zd_526_11 : decode prog_10_method_41_code 11 = .ok (.iastore, 1) := zsh_g zdk_526 (r := 2) (k := 3) rfl rfl rfl
theorem zd_526_12 : decode prog_10_method_41_code 12 = .ok (.aload_n 0, 1) := zsh_g zdk_526 (r := 3) (k := 0) rfl rfl rfl
theorem zd_526_13 : decode prog_10_method_41_code 13 = .ok (.bipush 91, 2) := zsh_g zdk_526 (r := 3) (k := 1) rfl rfl rfl
theorem zd_526_15 : decode prog_10_method_41_code 15 = .ok (.invokevirtual 172, 3) := zsh_g zdk_526 (r := 3) (k := 2) rfl rfl rfl
theorem zd_526_18 : decode prog_10_method_41_code 18 = .ok (.ifCond .eq 25, 3) := zsh_g zdk_526 (r := 4) (k := 0) rfl rfl rfl
theorem zd_526_21 : decode prog_10_method_41_code 21 = .ok (.aload_n 0, 1) := zsh_g zdk_526 (r := 5) (k := 0) rfl rfl rfl
theorem zd_526_22 : decode prog_10_method_41_code 22 = .ok (.iload_n 2, 1) := zsh_g zdk_526 (r := 5) (k := 1) rfl rfl rfl
theorem zd_526_23 : decode prog_10_method_41_code 23 = .ok (.invokevirtual 238, 3) := zsh_g zdk_526 (r := 5) (k := 2) rfl rfl rfl
theorem zd_526_26 : decode prog_10_method_41_code 26 = .ok (.aload_n 0, 1) := zsh_g zdk_526 (r := 6) (k := 0) rfl rfl rfl
theorem zd_526_27 : decode prog_10_method_41_code 27 = .ok (.bipush 93, 2) := zsh_g zdk_526 (r := 6) (k := 1) rfl rfl rfl
theorem zd_526_29 : decode prog_10_method_41_code 29 = .ok (.invokevirtual 175, 3) := zsh_g zdk_526 (r := 7) (k := 0) rfl rfl rfl
theorem zd_526_32 : decode prog_10_method_41_code 32 = .ok (.aload_n 0, 1) := zsh_g zdk_526 (r := 8) (k := 0) rfl rfl rfl
theorem zd_526_33 : decode prog_10_method_41_code 33 = .ok (.getfield 36, 3) := zsh_g zdk_526 (r := 8) (k := 1) rfl rfl rfl
theorem zd_526_36 : decode prog_10_method_41_code 36 = .ok (.bipush 8, 2) := zsh_g zdk_526 (r := 9) (k := 0) rfl rfl rfl
theorem zd_526_38 : decode prog_10_method_41_code 38 = .ok (.iload_n 2, 1) := zsh_g zdk_526 (r := 9) (k := 1) rfl rfl rfl
theorem zd_526_39 : decode prog_10_method_41_code 39 = .ok (.iload_n 1, 1) := zsh_g zdk_526 (r := 9) (k := 2) rfl rfl rfl
theorem zd_526_40 : decode prog_10_method_41_code 40 = .ok (.invokevirtual 169, 3) := zsh_g zdk_526 (r := 10) (k := 0) rfl rfl rfl
def zdl_527 : List (List (Nat × Instr × Nat)) := [[(0, (.aload_n 0), 1), (1, (.getfield 62), 3)], [(0, (.iconst 1), 1), (1, .iadd, 1), (2, (.aload_n 0), 1), (3, (.getfield 21), 3)], [(2, .arraylength, 1), (3, (.if_icmp .ge 13), 3)], [(2, (.aload_n 0), 1), (3, .dup, 1)], [(0, (.getfield 62), 3), (3, (.iconst 1), 1)], [(0, .iadd, 1), (1, (.putfield 62), 3)], [(0, (.aload_n 0), 1), (1, (.getfield 62), 3)], [(0, (.iconst 1), 1), (1, .isub, 1)]]
theorem zdk_527 : zsh_all 8 zdl_527 prog_10_method_33_code.data.toList = true := by decide +kernel
theorem zd_527_0 : decode prog_10_method_33_code 0 = .ok (.aload_n 0, 1) := zsh_g zdk_527 (r := 0) (k := 0) rfl rfl rfl
theorem zd_527_1 : decode prog_10_method_33_code 1 = .ok (.getfield 62, 3) := zsh_g zdk_527 (r := 0) (k := 1) rfl rfl rfl
theorem zd_527_4 : decode prog_10_method_33_code 4 = .ok (.iconst 1, 1) := zsh_g zdk_527 (r := 1) (k := 0) rfl rfl rfl
theorem zd_527_5 : decode prog_10_method_33_code 5 = .ok (.iadd, 1) := zsh_g zdk_527 (r := 1) (k := 1) rfl rfl rfl
theorem zd_527_6 : decode prog_10_method_33_code 6 = .ok (.aload_n 0, 1) := zsh_g zdk_527 (r := 1) (k := 2) rfl rfl rfl
theorem zd_527_7 : decode prog_10_method_33_code 7 = .ok (.getfield 21, 3) := zsh_g zdk_527 (r := 1) (k := 3) rfl rfl rfl
theorem zd_527_10 : decode prog_10_method_33_code 10 = .ok (.arraylength, 1) := zsh_g zdk_527 (r := 2) (k := 0) rfl rfl rfl
theorem zd_527_11 : decode prog_10_method_33_code 11 = .ok (.if_icmp .ge 13, 3) := zsh_g zdk_527 (r := 2) (k := 1) rfl rfl rfl
theorem zd_527_14 : decode prog_10_method_33_code 14 = .ok (.aload_n 0, 1) := zsh_g zdk_527 (r := 3) (k := 0) rfl rfl rfl
theorem zd_527_15 : decode prog_10_method_33_code 15 = .ok (.dup, 1) := zsh_g zdk_527 (r := 3) (k := 1) rfl rfl rfl
theorem zd_527_16 : decode prog_10_method_33_code 16 = .ok (.getfield 62, 3) := zsh_g zdk_527 (r := 4) (k := 0) rfl rfl rfl
theorem zd_527_19 : decode prog_10_method_33_code 19 = .ok (.iconst 1, 1) := zsh_g zdk_527 (r := 4) (k := 1) rfl rfl rfl
theorem zd_527_20 : decode prog_10_method_33_code 20 = .ok (.iadd, 1) := zsh_g zdk_527 (r := 5) (k := 0) rfl rfl rfl
theorem zd_527_21 : decode prog_10_method_33_code 21 = .ok (.putfield 62, 3) := zsh_g zdk_527 (r := 5) (k := 1) rfl rfl rfl
theorem zd_527_24 : decode prog_10_method_33_code 24 = .ok (.aload_n 0, 1) := zsh_g zdk_527 (r := 6) (k := 0) rfl rfl rfl
theorem zd_527_25 : decode prog_10_method_33_code 25 = .ok (.getfield 62, 3) := zsh_g zdk_527 (r := 6) (k := 1) rfl rfl rfl
theorem zd_527_28 : decode prog_10_method_33_code 28 = .ok (.iconst 1, 1) := zsh_g zdk_527 (r := 7) (k := 0) rfl rfl rfl
theorem zd_527_29 : decode prog_10_method_33_code 29 = .ok (.isub, 1) := zsh_g zdk_527 (r := 7) (k := 1) rfl rfl rfl
def zdl_528 : List (List (Nat × Instr × Nat)) := [[(0, (.aload_n 0), 1), (1, (.getfield 21), 3)], [(0, (.iload_n 1), 1), (1, (.aload_n 0), 1), (2, (.getfield 36), 3)], [(1, (.getfield 200), 3)], [(0, .iastore, 1), (1, (.aload_n 0), 1), (2, (.getfield 36), 3)], [(1, (.bipush 33), 2), (3, (.iconst 0), 1)], [(0, (.iload_n 1), 1), (1, (.invokevirtual 169), 3)]]
theorem zdk_528 : zsh_all 8 zdl_528 prog_10_method_34_code.data.toList = true := by decide +kernel
theorem zd_528_0 : decode prog_10_method_34_code 0 = .ok (.aload_n 0, 1) := zsh_g zdk_528 (r := 0) (k := 0) rfl rfl rfl
theorem zd_528_1 : decode prog_10_method_34_code 1 = .ok (.getfield 21, 3) := zsh_g zdk_528 (r := 0) (k := 1) rfl rfl rfl
theorem zd_528_4 : decode prog_10_method_34_code 4 = .ok (.iload_n 1, 1) := zsh_g zdk_528 (r := 1) (k := 0) rfl rfl rfl
theorem zd_528_5 : decode prog_10_method_34_code 5 = .ok (.aload_n 0, 1) := zsh_g zdk_528 (r := 1) (k := 1) rfl rfl rfl
theorem zd_528_6 : decode prog_10_method_34_code 6 = .ok (.getfield 36, 3) := zsh_g zdk_528 (r := 1) (k := 2) rfl rfl rfl
theorem zd_528_9 : decode prog_10_method_34_code 9 = .ok (.getfield 200, 3) := zsh_g zdk_528 (r := 2) (k := 0) rfl rfl rfl
theorem zd_528_12 : decode prog_10_method_34_code 12 = .ok (.iastore, 1) := zsh_g zdk_528 (r := 3) (k := 0) rfl rfl rfl
theorem zd_528_13 : decode prog_10_method_34_code 13 = .ok (.aload_n 0, 1) := zsh_g zdk_528 (r := 3) (k := 1) rfl rfl rfl
theorem zd_528_14 : decode prog_10_method_34_code 14 = .ok (.getfield 36, 3) := zsh_g zdk_528 (r := 3) (k := 2) rfl rfl rfl
theorem zd_528_17 : decode prog_10_method_34_code 17 = .ok (.bipush 33, 2) := zsh_g zdk_528 (r := 4) (k := 0) rfl rfl rfl
theorem zd_528_19 : decode prog_10_method_34_code 19 = .ok (.iconst 0, 1) := zsh_g zdk_528 (r := 4) (k := 1) rfl rfl rfl
theorem zd_528_20 : decode prog_10_method_34_code 20 = .ok (.iload_n 1, 1) := zsh_g zdk_528 (r := 5) (k := 0) rfl rfl rfl
theorem zd_528_21 : decode prog_10_method_34_code 21 = .ok (.invokevirtual 169, 3) := zsh_g zdk_528 (r := 5) (k := 1) rfl rfl rfl
def zdl_529 : List (List (Nat × Instr × Nat)) := [[(0, (.aload_n 0), 1), (1, (.iload_n 1), 1), (2, (.invokevirtual 267), 3)], [(1, (.iconst 0), 1), (2, (.istore_n 2), 1), (3, (.iload_n 2), 1)], [(0, (.sipush 3000), 3), (3, (.if_icmp .gt 51), 3)], [(2, (.aload_n 0), 1), (3, (.invokevirtual 69), 3)], [(2, (.invokestatic 264), 3)], [(1, (.istore_n 3), 1), (2, (.iload_n 3), 1), (3, (.bipush 15), 2)], [(1, (.if_icmp .lt 9), 3)], [(0, (.iload_n 3), 1), (1, (.bipush 18), 2), (3, (.if_icmp .le 4), 3)], [(3, (.aload_n 0), 1)], [(0, (.invokevirtual 73), 3), (3, (.aload_n 0), 1)], [(0, (.iload_n 1), 1), (1, (.iconst 1), 1), (2, .iadd, 1), (3, (.invokevirtual 267), 3)], [(2, (.aload_n 0), 1), (3, (.getfield 36), 3)], [(2, (.iload_n 3), 1), (3, (.iload_n 1), 1)], [(0, (.iconst 0), 1), (1, (.invokevirtual 169), 3)], [(0, (.iinc 2 1), 3), (3, (.goto (-52)), 3)]]
theorem zdk_529 : zsh_all 8 zdl_529 prog_10_method_36_code.data.toList = true := by decide +kernel
theorem zd_529_0 : decode prog_10_method_36_code 0 = .ok (.aload_n 0, 1) := zsh_g zdk_529 (r := 0) (k := 0) rfl rfl rfl
theorem zd_529_1 : decode prog_10_method_36_code 1 = .ok (.iload_n 1, 1) := zsh_g zdk_529 (r := 0) (k := 1) rfl rfl rfl
theorem zd_529_2 : decode prog_10_method_36_code 2 = .ok (.invokevirtual 267, 3) := zsh_g zdk_529 (r := 0) (k := 2) rfl rfl rfl
theorem zd_529_5 : decode prog_10_method_36_code 5 = .ok (.iconst 0, 1) := zsh_g zdk_529 (r := 1) (k := 0) rfl rfl rfl
theorem zd_529_6 : decode prog_10_method_36_code 6 = .ok (.istore_n 2, 1) := zsh_g zdk_529 (r := 1) (k := 1) rfl rfl rfl
theorem zd_529_7 : decode prog_10_method_36_code 7 = .ok (.iload_n 2, 1) := zsh_g zdk_529 (r := 1) (k := 2) rfl rfl rfl
theorem zd_529_8 : decode prog_10_method_36_code 8 = .ok (.sipush 3000, 3) := zsh_g zdk_529 (r := 2) (k := 0) rfl rfl rfl
theorem zd_529_11 : decode prog_10_method_36_code 11 = .ok (.if_icmp .gt 51, 3) := zsh_g zdk_529 (r := 2) (k := 1) rfl rfl rfl
theorem zd_529_14 : decode prog_10_method_36_code 14 = .ok (.aload_n 0, 1) := zsh_g zdk_529 (r := 3) (k := 0) rfl rfl rfl
theorem zd_529_15 : decode prog_10_method_36_code 15 = .ok (.invokevirtual 69, 3) := zsh_g zdk_529 (r := 3) (k := 1) rfl rfl rfl
theorem zd_529_18 : decode prog_10_method_36_code 18 = .ok (.invokestatic 264, 3) := zsh_g zdk_529 (r := 4) (k := 0) rfl rfl rfl
theorem zd_529_21 : decode prog_10_method_36_code 21 = .ok (.istore_n 3, 1) := zsh_g zdk_529 (r := 5) (k := 0) rfl rfl rfl
theorem zd_529_22 : decode prog_10_method_36_code 22 = .ok (.iload_n 3, 1) := zsh_g zdk_529 (r := 5) (k := 1) rfl rfl rfl
theorem zd_529_23 : decode prog_10_method_36_code 23 = .ok (.bipush 15, 2) := zsh_g zdk_529 (r := 5) (k := 2) rfl rfl rfl
theorem zd_529_25 : decode prog_10_method_36_code 25 = .ok (.if_icmp .lt 9, 3) := zsh_g zdk_529 (r := 6) (k := 0) rfl rfl rfl
theorem zd_529_28 : decode prog_10_method_36_code 28 = .ok (.iload_n 3, 1) := zsh_g zdk_529 (r := 7) (k := 0) rfl rfl rfl
theorem zd_529_29 : decode prog_10_method_36_code 29 = .ok (.bipush 18, 2) := zsh_g zdk_529 (r := 7) (k := 1) rfl rfl rfl
theorem zd_529_31 : decode prog_10_method_36_code 31 = .ok (.if_icmp .le 4, 3) := zsh_g zdk_529 (r := 7) (k := 2) rfl rfl rfl
theorem zd_529_35 : decode prog_10_method_36_code 35 = .ok (.aload_n 0, 1) := zsh_g zdk_529 (r := 8) (k := 0) rfl rfl rfl
theorem zd_529_36 : decode prog_10_method_36_code 36 = .ok (.invokevirtual 73, 3) := zsh_g zdk_529 (r := 9) (k := 0) rfl rfl rfl
theorem zd_529_39 : decode prog_10_method_36_code 39 = .ok (.aload_n 0, 1) := zsh_g zdk_529 (r := 9) (k := 1) rfl rfl rfl
theorem zd_529_40 : decode prog_10_method_36_code 40 = .ok (.iload_n 1, 1) := zsh_g zdk_529 (r := 10) (k := 0) rfl rfl rfl
theorem zd_529_41 : decode prog_10_method_36_code 41 = .ok (.iconst 1, 1) := zsh_g zdk_529 (r := 10) (k := 1) rfl rfl rfl
theorem zd_529_42 : decode prog_10_method_36_code 42 = .ok (.iadd, 1) := zsh_g zdk_529 (r := 10) (k := 2) rfl rfl rfl
theorem zd_529_43 : decode prog_10_method_36_code 43 = .ok (.invokevirtual 267, 3) := zsh_g zdk_529 (r := 10) (k := 3) rfl rfl rfl
theorem zd_529_46 : decode prog_10_method_36_code 46 = .ok (.aload_n 0, 1) := zsh_g zdk_529 (r := 11) (k := 0) rfl rfl rfl
theorem zd_529_47 : decode prog_10_method_36_code 47 = .ok (.getfield 36, 3) := zsh_g zdk_529 (r := 11) (k := 1) rfl rfl rfl
theorem zd_529_50 : decode prog_10_method_36_code 50 = .ok (.iload_n 3, 1) := zsh_g zdk_529 (r := 12) (k := 0) rfl rfl rfl
theorem zd_529_51 : decode prog_10_method_36_code 51 = .ok (.iload_n 1, 1) := zsh_g zdk_529 (r := 12) (k := 1) rfl rfl rfl
theorem zd_529_52 : decode prog_10_method_36_code 52 = .ok (.iconst 0, 1) := zsh_g zdk_529 (r := 13) (k := 0) rfl rfl rfl
theorem zd_529_53 : decode prog_10_method_36_code 53 = .ok (.invokevirtual 169, 3) := zsh_g zdk_529 (r := 13) (k := 1) rfl rfl rfl
theorem zd_529_56 : decode prog_10_method_36_code 56 = .ok (.iinc 2 1, 3) := zsh_g zdk_529 (r := 14) (k := 0) rfl rfl rfl
theorem zd_529_59 : decode prog_10_method_36_code 59 = .ok (.goto (-52), 3) := zsh_g zdk_529 (r := 14) (k := 1) rfl rfl rfl
def zdl_530 : List (List (Nat × Instr × Nat)) := [[(0, (.iload_n 0), 1)], [], [], [], [], [], [], [], [], [], [], [], [], [], [], [], [], [], [], [], [], [], [], [], [], [], [], [], [], [], [], [(0, (.bipush 15), 2), (3, (.bipush 16), 2)], [(2, (.bipush 17), 2)], [(1, (.bipush 18), 2)], [(0, (.bipush 19), 2), (3, (.bipush 20), 2)], [(2, (.bipush 21), 2)], [(1, (.bipush 22), 2)], [(0, (.bipush 23), 2), (3, (.bipush 24), 2)], [(2, (.bipush 25), 2)], [(1, (.bipush 26), 2)], [(0, (.bipush 27), 2), (3, (.bipush 28), 2)], [(2, (.iconst (-1)), 1)]]
theorem zdk_530 : zsh_all 8 zdl_530 prog_10_method_38_code.data.toList = true := by decide +kernel
theorem zd_530_0 : decode prog_10_method_38_code 0 = .ok (.iload_n 0, 1) := zsh_g zdk_530 (r := 0) (k := 0) rfl rfl rfl
theorem zd_530_124 : decode prog_10_method_38_code 124 = .ok (.bipush 15, 2) := zsh_g zdk_530 (r := 31) (k := 0) rfl rfl rfl
theorem zd_530_127 : decode prog_10_method_38_code 127 = .ok (.bipush 16, 2) := zsh_g zdk_530 (r := 31) (k := 1) rfl rfl rfl
theorem zd_530_130 : decode prog_10_method_38_code 130 = .ok (.bipush 17, 2) := zsh_g zdk_530 (r := 32) (k := 0) rfl rfl rfl
theorem zd_530_133 : decode prog_10_method_38_code 133 = .ok (.bipush 18, 2) := zsh_g zdk_530 (r := 33) (k := 0) rfl rfl rfl
theorem zd_530_136 : decode prog_10_method_38_code 136 = .ok (.bipush 19, 2) := zsh_g zdk_530 (r := 34) (k := 0) rfl rfl rfl
theorem zd_530_139 : decode prog_10_method_38_code 139 = .ok (.bipush 20, 2) := zsh_g zdk_530 (r := 34) (k := 1) rfl rfl rfl
theorem zd_530_142 : decode prog_10_method_38_code 142 = .ok (.bipush 21, 2) := zsh_g zdk_530 (r := 35) (k := 0) rfl rfl rfl
theorem zd_530_145 : decode prog_10_method_38_code 145 = .ok (.bipush 22, 2) := zsh_g zdk_530 (r := 36) (k := 0) rfl rfl rfl
theorem zd_530_148 : decode prog_10_method_38_code 148 = .ok (.bipush 23, 2) := zsh_g zdk_530 (r := 37) (k := 0) rfl rfl rfl
theorem zd_530_151 : decode prog_10_method_38_code 151 = .ok (.bipush 24, 2) := zsh_g zdk_530 (r := 37) (k := 1) rfl rfl rfl
theorem zd_530_154 : decode prog_10_method_38_code 154 = .ok (.bipush 25, 2) := zsh_g zdk_530 (r := 38) (k := 0) rfl rfl rfl
theorem zd_530_157 : decode prog_10_method_38_code 157 = .ok (.bipush 26, 2) := zsh_g zdk_530 (r := 39) (k := 0) rfl rfl rfl
theorem zd_530_160 : decode prog_10_method_38_code 160 = .ok (.bipush 27, 2) := zsh_g zdk_530 (r := 40) (k := 0) rfl rfl rfl
theorem zd_530_163 : decode prog_10_method_38_code 163 = .ok (.bipush 28, 2) := zsh_g zdk_530 (r := 40) (k := 1) rfl rfl rfl
theorem zd_530_166 : decode prog_10_method_38_code 166 = .ok (.iconst (-1), 1) := zsh_g zdk_530 (r := 41) (k := 0) rfl rfl rfl
theorem zd_530_1 : decode prog_10_method_38_code 1 = .ok (.lookupswitch 165 #[(37, 141), (38, 144), (42, 135), (43, 123), (45, 126), (47, 138), (60, 159), (94, 132), (124, 129), (128, 153), (129, 156), (130, 162), (131, 147), (132, 150)], 123) := by decide +kernel
def zdl_531 : List (List (Nat × Instr × Nat)) := [[(0, (.iload_n 0), 1), (1, (.iload_n 1), 1), (2, (.iload_n 2), 1), (3, (.invokestatic 194), 3)], [(2, .iadd, 1), (3, (.istore_n 3), 1)], [(0, (.iconst 0), 1), (1, (.iload_n 3), 1), (2, (.if_icmp .ge 11), 3)], [(1, (.iload_n 3), 1), (2, (.ldc 200), 2)], [(0, (.if_icmp .gt 5), 3), (3, (.iload_n 3), 1)], [(1, (.iload_n 0), 1), (2, (.iload_n 1), 1), (3, (.invokestatic 201), 3)]]
theorem zdk_531 : zsh_all 8 zdl_531 prog_36_method_27_code.data.toList = true := by decide +kernel
theorem zd_531_0 : decode prog_36_method_27_code 0 = .ok (.iload_n 0, 1) := zsh_g zdk_531 (r := 0) (k := 0) rfl rfl rfl
theorem zd_531_1 : decode prog_36_method_27_code 1 = .ok (.iload_n 1, 1) := zsh_g zdk_531 (r := 0) (k := 1) rfl rfl rfl
theorem zd_531_2 : decode prog_36_method_27_code 2 = .ok (.iload_n 2, 1) := zsh_g zdk_531 (r := 0) (k := 2) rfl rfl rfl
theorem zd_531_3 : decode prog_36_method_27_code 3 = .ok (.invokestatic 194, 3) := zsh_g zdk_531 (r := 0) (k := 3) rfl rfl rfl
theorem zd_531_6 : decode prog_36_method_27_code 6 = .ok (.iadd, 1) := zsh_g zdk_531 (r := 1) (k := 0) rfl rfl rfl
theorem zd_531_7 : decode prog_36_method_27_code 7 = .ok (.istore_n 3, 1) := zsh_g zdk_531 (r := 1) (k := 1) rfl rfl rfl
theorem zd_531_8 : decode prog_36_method_27_code 8 = .ok (.iconst 0, 1) := zsh_g zdk_531 (r := 2) (k := 0) rfl rfl rfl
theorem zd_531_9 : decode prog_36_method_27_code 9 = .ok (.iload_n 3, 1) := zsh_g zdk_531 (r := 2) (k := 1) rfl rfl rfl
theorem zd_531_10 : decode prog_36_method_27_code 10 = .ok (.if_icmp .ge 11, 3) := zsh_g zdk_531 (r := 2) (k := 2) rfl rfl rfl
theorem zd_531_13 : decode prog_36_method_27_code 13 = .ok (.iload_n 3, 1) := zsh_g zdk_531 (r := 3) (k := 0) rfl rfl rfl
theorem zd_531_14 : decode prog_36_method_27_code 14 = .ok (.ldc 200, 2) := zsh_g zdk_531 (r := 3) (k := 1) rfl rfl rfl
theorem zd_531_16 : decode prog_36_method_27_code 16 = .ok (.if_icmp .gt 5, 3) := zsh_g zdk_531 (r := 4) (k := 0) rfl rfl rfl
theorem zd_531_19 : decode prog_36_method_27_code 19 = .ok (.iload_n 3, 1) := zsh_g zdk_531 (r := 4) (k := 1) rfl rfl rfl
theorem zd_531_21 : decode prog_36_method_27_code 21 = .ok (.iload_n 0, 1) := zsh_g zdk_531 (r := 5) (k := 0) rfl rfl rfl
theorem zd_531_22 : decode prog_36_method_27_code 22 = .ok (.iload_n 1, 1) := zsh_g zdk_531 (r := 5) (k := 1) rfl rfl rfl
theorem zd_531_23 : decode prog_36_method_27_code 23 = .ok (.invokestatic 201, 3) := zsh_g zdk_531 (r := 5) (k := 2) rfl rfl rfl
def zdl_532 : List (List (Nat × Instr × Nat)) := [[(0, (.iload_n 0), 1), (1, (.iload_n 1), 1), (2, (.iload_n 2), 1), (3, (.getstatic 1053), 3)], [(2, (.invokestatic 1062), 3)], [(1, .pop, 1)]]
theorem zdk_532 : zsh_all 8 zdl_532 prog_26_method_158_code.data.toList = true := by decide +kernel
theorem zd_532_0 : decode prog_26_method_158_code 0 = .ok (.iload_n 0, 1) := zsh_g zdk_532 (r := 0) (k := 0) rfl rfl rfl
theorem zd_532_1 : decode prog_26_method_158_code 1 = .ok (.iload_n 1, 1) := zsh_g zdk_532 (r := 0) (k := 1) rfl rfl rfl
theorem zd_532_2 : decode prog_26_method_158_code 2 = .ok (.iload_n 2, 1) := zsh_g zdk_532 (r := 0) (k := 2) rfl rfl rfl
theorem zd_532_3 : decode prog_26_method_158_code 3 = .ok (.getstatic 1053, 3) := zsh_g zdk_532 (r := 0) (k := 3) rfl rfl rfl
theorem zd_532_6 : decode prog_26_method_158_code 6 = .ok (.invokestatic 1062, 3) := zsh_g zdk_532 (r := 1) (k := 0) rfl rfl rfl
theorem zd_532_9 : decode prog_26_method_158_code 9 = .ok (.pop, 1) := zsh_g zdk_532 (r := 2) (k := 0) rfl rfl rfl
def zdl_533 : List (List (Nat × Instr × Nat)) := [[(0, (.iload_n 3), 1), (1, (.iload 4), 2), (3, (.aload_n 2), 1)], [(0, (.invokestatic 173), 3), (3, (.iconst 0), 1)], [(0, (.istore 5), 2), (2, (.iload 5), 2)], [(0, (.iload 4), 2), (2, (.if_icmp .ge 27), 3)], [(1, (.aload_n 2), 1), (2, (.iload_n 3), 1), (3, (.iinc 3 1), 3)], [(2, (.aload_n 0), 1), (3, (.iload_n 1), 1)], [(0, (.iinc 1 1), 3)]]
theorem zdk_533 : zsh_all 8 zdl_533 prog_30_method_86_code.data.toList = true := by decide +kernel
theorem zd_533_0 : decode prog_30_method_86_code 0 = .ok (.iload_n 3, 1) := zsh_g zdk_533 (r := 0) (k := 0) rfl rfl rfl
theorem zd_533_1 : decode prog_30_method_86_code 1 = .ok (.iload 4, 2) := zsh_g zdk_533 (r := 0) (k := 1) rfl rfl rfl
theorem zd_533_3 : decode prog_30_method_86_code 3 = .ok (.aload_n 2, 1) := zsh_g zdk_533 (r := 0) (k := 2) rfl rfl rfl
theorem zd_533_4 : decode prog_30_method_86_code 4 = .ok (.invokestatic 173, 3) := zsh_g zdk_533 (r := 1) (k := 0) rfl rfl rfl
theorem zd_533_7 : decode prog_30_method_86_code 7 = .ok (.iconst 0, 1) := zsh_g zdk_533 (r := 1) (k := 1) rfl rfl rfl
theorem zd_533_8 : decode prog_30_method_86_code 8 = .ok (.istore 5, 2) := zsh_g zdk_533 (r := 2) (k := 0) rfl rfl rfl
theorem zd_533_10 : decode prog_30_method_86_code 10 = .ok (.iload 5, 2) := zsh_g zdk_533 (r := 2) (k := 1) rfl rfl rfl
theorem zd_533_12 : decode prog_30_method_86_code 12 = .ok (.iload 4, 2) := zsh_g zdk_533 (r := 3) (k := 0) rfl rfl rfl
theorem zd_533_14 : decode prog_30_method_86_code 14 = .ok (.if_icmp .ge 27, 3) := zsh_g zdk_533 (r := 3) (k := 1) rfl rfl rfl
theorem zd_533_17 : decode prog_30_method_86_code 17 = .ok (.aload_n 2, 1) := zsh_g zdk_533 (r := 4) (k := 0) rfl rfl rfl
theorem zd_533_18 : decode prog_30_method_86_code 18 = .ok (.iload_n 3, 1) := zsh_g zdk_533 (r := 4) (k := 1) rfl rfl rfl
theorem zd_533_19 : decode prog_30_method_86_code 19 = .ok (.iinc 3 1, 3) := zsh_g zdk_533 (r := 4) (k := 2) rfl rfl rfl
theorem zd_533_22 : decode prog_30_method_86_code 22 = .ok (.aload_n 0, 1) := zsh_g zdk_533 (r := 5) (k := 0) rfl rfl rfl
theorem zd_533_23 : decode prog_30_method_86_code 23 = .ok (.iload_n 1, 1) := zsh_g zdk_533 (r := 5) (k := 1) rfl rfl rfl
theorem zd_533_24 : decode prog_30_method_86_code 24 = .ok (.iinc 1 1, 3) := zsh_g zdk_533 (r := 6) (k := 0) rfl rfl rfl
def zdl_534 : List (List (Nat × Instr × Nat)) := [[(0, (.aload_n 0), 1), (1, (.iload_n 1), 1), (2, (.iconst 3), 1), (3, (.iload_n 3), 1)], [(0, .iadd, 1), (1, (.iload_n 2), 1), (2, (.invokevirtual 613), 3)], [(1, (.istore 6), 2), (3, (.aload_n 0), 1)], [(0, (.iload 4), 2), (2, (.aload_n 0), 1), (3, (.getfield 617), 3)], [(2, (.if_icmp .le 8), 3)], [(1, (.iload 4), 2), (3, (.goto 7), 3)], [(2, (.aload_n 0), 1), (3, (.getfield 617), 3)], [(2, (.putfield 617), 3)], [(1, (.aload_n 0), 1), (2, (.bipush 8), 2)], [(0, (.iload_n 1), 1), (1, (.iload_n 3), 1), (2, (.iload 4), 2)], [(0, (.iload 5), 2), (2, (.ifCond .ne 8), 3)], [(1, (.iload 6), 2), (3, (.ifCond .lt 7), 3)], [(2, (.iconst 1), 1), (3, (.goto 4), 3)], [(2, (.iconst 0), 1), (3, (.invokevirtual 620), 3)]]
theorem zdk_534 : zsh_all 8 zdl_534 prog_14_method_33_code.data.toList = true := by decide +kernel
theorem zd_534_0 : decode prog_14_method_33_code 0 = .ok (.aload_n 0, 1) := zsh_g zdk_534 (r := 0) (k := 0) rfl rfl rfl
theorem zd_534_1 : decode prog_14_method_33_code 1 = .ok (.iload_n 1, 1) := zsh_g zdk_534 (r := 0) (k := 1) rfl rfl rfl
theorem zd_534_2 : decode prog_14_method_33_code 2 = .ok (.iconst 3, 1) := zsh_g zdk_534 (r := 0) (k := 2) rfl rfl rfl
theorem zd_534_3 : decode prog_14_method_33_code 3 = .ok (.iload_n 3, 1) := zsh_g zdk_534 (r := 0) (k := 3) rfl rfl rfl
theorem zd_534_4 : decode prog_14_method_33_code 4 = .ok (.iadd, 1) := zsh_g zdk_534 (r := 1) (k := 0) rfl rfl rfl
theorem zd_534_5 : decode prog_14_method_33_code 5 = .ok (.iload_n 2, 1) := zsh_g zdk_534 (r := 1) (k := 1) rfl rfl rfl
theorem zd_534_6 : decode prog_14_method_33_code 6 = .ok (.invokevirtual 613, 3) := zsh_g zdk_534 (r := 1) (k := 2) rfl rfl rfl
theorem zd_534_9 : decode prog_14_method_33_code 9 = .ok (.istore 6, 2) := zsh_g zdk_534 (r := 2) (k := 0) rfl rfl rfl
theorem zd_534_11 : decode prog_14_method_33_code 11 = .ok (.aload_n 0, 1) := zsh_g zdk_534 (r := 2) (k := 1) rfl rfl rfl
theorem zd_534_12 : decode prog_14_method_33_code 12 = .ok (.iload 4, 2) := zsh_g zdk_534 (r := 3) (k := 0) rfl rfl rfl
theorem zd_534_14 : decode prog_14_method_33_code 14 = .ok (.aload_n 0, 1) := zsh_g zdk_534 (r := 3) (k := 1) rfl rfl rfl
theorem zd_534_15 : decode prog_14_method_33_code 15 = .ok (.getfield 617, 3) := zsh_g zdk_534 (r := 3) (k := 2) rfl rfl rfl
theorem zd_534_18 : decode prog_14_method_33_code 18 = .ok (.if_icmp .le 8, 3) := zsh_g zdk_534 (r := 4) (k := 0) rfl rfl rfl
theorem zd_534_21 : decode prog_14_method_33_code 21 = .ok (.iload 4, 2) := zsh_g zdk_534 (r := 5) (k := 0) rfl rfl rfl
theorem zd_534_23 : decode prog_14_method_33_code 23 = .ok (.goto 7, 3) := zsh_g zdk_534 (r := 5) (k := 1) rfl rfl rfl
theorem zd_534_26 : decode prog_14_method_33_code 26 = .ok (.aload_n 0, 1) := zsh_g zdk_534 (r := 6) (k := 0) rfl rfl rfl
theorem zd_534_27 : decode prog_14_method_33_code 27 = .ok (.getfield 617, 3) := zsh_g zdk_534 (r := 6) (k := 1) rfl rfl rfl
theorem zd_534_30 : decode prog_14_method_33_code 30 = .ok (.putfield 617, 3) := zsh_g zdk_534 (r := 7) (k := 0) rfl rfl rfl
theorem zd_534_33 : decode prog_14_method_33_code 33 = .ok (.aload_n 0, 1) := zsh_g zdk_534 (r := 8) (k := 0) rfl rfl rfl
theorem zd_534_34 : decode prog_14_method_33_code 34 = .ok (.bipush 8, 2) := zsh_g zdk_534 (r := 8) (k := 1) rfl rfl rfl
theorem zd_534_36 : decode prog_14_method_33_code 36 = .ok (.iload_n 1, 1) := zsh_g zdk_534 (r := 9) (k := 0) rfl rfl rfl
theorem zd_534_37 : decode prog_14_method_33_code 37 = .ok (.iload_n 3, 1) := zsh_g zdk_534 (r := 9) (k := 1) rfl rfl rfl
theorem zd_534_38 : decode prog_14_method_33_code 38 = .ok (.iload 4, 2) := zsh_g zdk_534 (r := 9) (k := 2) rfl rfl rfl
theorem zd_534_40 : decode prog_14_method_33_code 40 = .ok (.iload 5, 2) := zsh_g zdk_534 (r := 10) (k := 0) rfl rfl rfl
theorem zd_534_42 : decode prog_14_method_33_code 42 = .ok (.ifCond .ne 8, 3) := zsh_g zdk_534 (r := 10) (k := 1) rfl rfl rfl
theorem zd_534_45 : decode prog_14_method_33_code 45 = .ok (.iload 6, 2) := zsh_g zdk_534 (r := 11) (k := 0) rfl rfl rfl
theorem zd_534_47 : decode prog_14_method_33_code 47 = .ok (.ifCond .lt 7, 3) := zsh_g zdk_534 (r := 11) (k := 1) rfl rfl rfl
theorem zd_534_50 : decode prog_14_method_33_code 50 = .ok (.iconst 1, 1) := zsh_g zdk_534 (r := 12) (k := 0) rfl rfl rfl
theorem zd_534_51 : decode prog_14_method_33_code 51 = .ok (.goto 4, 3) := zsh_g zdk_534 (r := 12) (k := 1) rfl rfl rfl
theorem zd_534_54 : decode prog_14_method_33_code 54 = .ok (.iconst 0, 1) := zsh_g zdk_534 (r := 13) (k := 0) rfl rfl rfl
theorem zd_534_55 : decode prog_14_method_33_code 55 = .ok (.invokevirtual 620, 3) := zsh_g zdk_534 (r := 13) (k := 1) rfl rfl rfl
def zdl_535 : List (List (Nat × Instr × Nat)) := [[(0, (.aload_n 0), 1), (1, (.invokevirtual 624), 3)], [(0, (.istore_n 1), 1), (1, (.iload_n 1), 1), (2, (.bipush 8), 2)], [(0, (.if_icmp .lt 17), 3), (3, (.aload_n 0), 1)], [(0, (.iconst 4), 1), (1, (.aload_n 0), 1), (2, (.getfield 175), 3)], [(1, (.aload_n 0), 1), (2, (.getfield 576), 3)], [(1, .iaload, 1), (2, (.invokevirtual 579), 3)], [(1, (.aload_n 0), 1), (2, (.bipush 45), 2)], [(0, (.invokevirtual 583), 3), (3, (.ifCond .ne 21), 3)], [(2, (.aload_n 0), 1), (3, (.bipush 33), 2)], [(1, (.invokevirtual 583), 3)], [(0, (.ifCond .ne 12), 3), (3, (.aload_n 0), 1)], [(0, (.bipush 126), 2), (2, (.invokevirtual 583), 3)], [(1, (.ifCond .eq 57), 3)], [(0, (.aload_n 0), 1), (1, (.invokevirtual 628), 3)], [(0, (.aload_n 0), 1), (1, (.getfield 265), 3)], [(0, (.aload_n 0), 1), (1, (.getfield 610), 3)], [(0, (.aload_n 0), 1), (1, (.getfield 172), 3)], [(0, (.aload_n 0), 1), (1, (.getfield 576), 3)], [(0, .iaload, 1), (1, .iastore, 1), (2, (.aload_n 0), 1), (3, (.getfield 268), 3)], [(2, (.aload_n 0), 1), (3, (.getfield 610), 3)], [(2, (.iload_n 1), 1), (3, .iastore, 1)], [(0, (.aload_n 0), 1), (1, .dup, 1), (2, (.getfield 610), 3)], [(1, (.iconst 1), 1), (2, .iadd, 1), (3, (.putfield 610), 3)], [(2, (.aload_n 0), 1), (3, .dup, 1)], [(0, (.getfield 576), 3), (3, (.iconst 1), 1)], [(0, .iadd, 1), (1, (.putfield 576), 3)], [(0, (.iconst 0), 1), (2, (.aload_n 0), 1), (3, (.iconst 2), 1)], [(0, (.invokevirtual 583), 3), (3, (.ifCond .eq 32), 3)], [(2, (.aload_n 0), 1), (3, (.iconst 3), 1)], [(0, (.aload_n 0), 1), (1, (.getfield 178), 3)], [(0, (.aload_n 0), 1), (1, (.getfield 576), 3)], [(0, .iaload, 1), (1, (.iconst 0), 1), (2, (.iload_n 1), 1), (3, (.iconst 0), 1)], [(0, (.invokevirtual 620), 3), (3, (.aload_n 0), 1)], [(0, .dup, 1), (1, (.getfield 576), 3)], [(0, (.iconst 1), 1), (1, .iadd, 1), (2, (.putfield 576), 3)], [(1, (.iconst 1), 1), (3, (.aload_n 0), 1)], [(0, (.sipush 147), 3), (3, (.invokevirtual 583), 3)], [(2, (.ifCond .eq 59), 3)], [(1, (.aload_n 0), 1), (2, (.iconst 4), 1), (3, (.iconst 0), 1)], [(0, (.iconst 0), 1), (1, (.iload_n 1), 1), (2, (.iconst 0), 1), (3, (.invokevirtual 620), 3)], [(2, (.aload_n 0), 1), (3, .dup, 1)], [(0, (.getfield 576), 3), (3, (.iconst 1), 1)], [(0, .iadd, 1), (1, (.putfield 576), 3)], [(0, (.aload_n 0), 1), (1, (.bipush 40), 2), (3, (.invokevirtual 583), 3)], [(2, (.ifCond .eq 7), 3)], [(1, (.aload_n 0), 1), (2, (.invokevirtual 628), 3)], [(1, (.aload_n 0), 1), (2, (.bipush 40), 2)], [(0, (.invokevirtual 631), 3), (3, (.aload_n 0), 1)], [(0, (.bipush 41), 2), (2, (.invokevirtual 631), 3)], [(1, (.aload_n 0), 1), (2, .dup, 1), (3, (.getfield 601), 3)], [(2, (.iconst 1), 1), (3, .isub, 1)], [(0, (.putfield 601), 3), (3, (.iconst 1), 1)], [(1, (.aload_n 0), 1), (2, (.bipush 40), 2)], [(0, (.invokevirtual 583), 3), (3, (.ifCond .eq 27), 3)], [(2, (.aload_n 0), 1), (3, (.invokevirtual 628), 3)], [(2, (.aload_n 0), 1), (3, .dup, 1)], [(0, (.getfield 576), 3), (3, (.iconst 1), 1)], [(0, .iadd, 1), (1, (.putfield 576), 3)], [(0, (.aload_n 0), 1), (1, (.iconst 1), 1), (2, (.iload_n 1), 1), (3, (.iconst (-1)), 1)], [(0, (.iconst 0), 1), (1, (.invokevirtual 634), 3)], [(0, (.iconst 0), 1), (2, (.aload_n 0), 1), (3, (.iconst 1), 1)], [(0, (.invokevirtual 583), 3), (3, (.ifCond .ne 9), 3)], [(2, (.aload_n 0), 1), (3, (.invokevirtual 586), 3)], [(2, (.iconst 1), 1)], [(0, (.aload_n 0), 1), (1, (.getfield 178), 3)], [(0, (.aload_n 0), 1), (1, (.getfield 576), 3)], [(0, .iaload, 1), (1, (.istore_n 2), 1), (2, (.aload_n 0), 1), (3, (.getfield 175), 3)], [(2, (.aload_n 0), 1), (3, (.getfield 576), 3)], [(2, .iaload, 1), (3, (.istore_n 3), 1)], [(0, (.aload_n 0), 1), (1, .dup, 1), (2, (.getfield 576), 3)], [(1, (.iconst 1), 1), (2, .iadd, 1), (3, (.putfield 576), 3)], [(2, (.aload_n 0), 1), (3, (.bipush 91), 2)], [(1, (.invokevirtual 583), 3)], [(0, (.ifCond .eq 27), 3), (3, (.aload_n 0), 1)], [(0, (.invokevirtual 628), 3), (3, (.aload_n 0), 1)], [(0, .dup, 1), (1, (.getfield 576), 3)], [(0, (.iconst 1), 1), (1, .iadd, 1), (2, (.putfield 576), 3)], [(1, (.aload_n 0), 1), (2, (.iconst 2), 1), (3, (.iload_n 1), 1)], [(0, (.iload_n 2), 1), (1, (.iload_n 3), 1), (2, (.invokevirtual 634), 3)], [(1, (.iconst 0), 1), (3, (.aload_n 0), 1)], [(0, (.bipush 40), 2), (2, (.invokevirtual 583), 3)], [(1, (.ifCond .eq 12), 3)], [(0, (.aload_n 0), 1), (1, (.iload_n 2), 1), (2, (.iload_n 3), 1), (3, (.iload_n 1), 1)], [(0, (.iconst 0), 1), (1, (.invokevirtual 638), 3)], [(1, (.aload_n 0), 1), (2, (.iload_n 2), 1), (3, (.iconst 1), 1)], [(0, (.iload_n 3), 1), (1, (.invokevirtual 613), 3)], [(0, (.istore 4), 2), (2, (.aload_n 0), 1), (3, (.iconst 5), 1)], [(0, (.iload_n 2), 1), (1, (.aload_n 0), 1), (2, (.iload 4), 2)], [(0, (.invokevirtual 642), 3), (3, (.iload_n 1), 1)], [(0, (.iconst 0), 1), (1, (.invokevirtual 620), 3)], [(0, (.iconst 1), 1)]]
theorem zdk_535 : zsh_all 8 zdl_535 prog_14_method_34_code.data.toList = true := by decide +kernel
theorem zd_535_0 : decode prog_14_method_34_code 0 = .ok (.aload_n 0, 1) := zsh_g zdk_535 (r := 0) (k := 0) rfl rfl rfl
theorem zd_535_1 : decode prog_14_method_34_code 1 = .ok (.invokevirtual 624, 3) := zsh_g zdk_535 (r := 0) (k := 1) rfl rfl rfl
theorem zd_535_4 : decode prog_14_method_34_code 4 = .ok (.istore_n 1, 1) := zsh_g zdk_535 (r := 1) (k := 0) rfl rfl rfl
theorem zd_535_5 : decode prog_14_method_34_code 5 = .ok (.iload_n 1, 1) := zsh_g zdk_535 (r := 1) (k := 1) rfl rfl rfl
theorem zd_535_6 : decode prog_14_method_34_code 6 = .ok (.bipush 8, 2) := zsh_g zdk_535 (r := 1) (k := 2) rfl rfl rfl
theorem zd_535_8 : decode prog_14_method_34_code 8 = .ok (.if_icmp .lt 17, 3) := zsh_g zdk_535 (r := 2) (k := 0) rfl rfl rfl
theorem zd_535_11 : decode prog_14_method_34_code 11 = .ok (.aload_n 0, 1) := zsh_g zdk_535 (r := 2) (k := 1) rfl rfl rfl
theorem zd_535_12 : decode prog_14_method_34_code 12 = .ok (.iconst 4, 1) := zsh_g zdk_535 (r := 3) (k := 0) rfl rfl rfl
theorem zd_535_13 : decode prog_14_method_34_code 13 = .ok (.aload_n 0, 1) := zsh_g zdk_535 (r := 3) (k := 1) rfl rfl rfl
theorem zd_535_14 : decode prog_14_method_34_code 14 = .ok (.getfield 175, 3) := zsh_g zdk_535 (r := 3) (k := 2) rfl rfl rfl
theorem zd_535_17 : decode prog_14_method_34_code 17 = .ok (.aload_n 0, 1) := zsh_g zdk_535 (r := 4) (k := 0) rfl rfl rfl
theorem zd_535_18 : decode prog_14_method_34_code 18 = .ok (.getfield 576, 3) := zsh_g zdk_535 (r := 4) (k := 1) rfl rfl rfl
theorem zd_535_21 : decode prog_14_method_34_code 21 = .ok (.iaload, 1) := zsh_g zdk_535 (r := 5) (k := 0) rfl rfl rfl
theorem zd_535_22 : decode prog_14_method_34_code 22 = .ok (.invokevirtual 579, 3) := zsh_g zdk_535 (r := 5) (k := 1) rfl rfl rfl
theorem zd_535_25 : decode prog_14_method_34_code 25 = .ok (.aload_n 0, 1) := zsh_g zdk_535 (r := 6) (k := 0) rfl rfl rfl
theorem zd_535_26 : decode prog_14_method_34_code 26 = .ok (.bipush 45, 2) := zsh_g zdk_535 (r := 6) (k := 1) rfl rfl rfl
theorem zd_535_28 : decode prog_14_method_34_code 28 = .ok (.invokevirtual 583, 3) := zsh_g zdk_535 (r := 7) (k := 0) rfl rfl rfl
theorem zd_535_31 : decode prog_14_method_34_code 31 = .ok (.ifCond .ne 21, 3) := zsh_g zdk_535 (r := 7) (k := 1) rfl rfl rfl
theorem zd_535_34 : decode prog_14_method_34_code 34 = .ok (.aload_n 0, 1) := zsh_g zdk_535 (r := 8) (k := 0) rfl rfl rfl
theorem zd_535_35 : decode prog_14_method_34_code 35 = .ok (.bipush 33, 2) := zsh_g zdk_535 (r := 8) (k := 1) rfl rfl rfl
theorem zd_535_37 : decode prog_14_method_34_code 37 = .ok (.invokevirtual 583, 3) := zsh_g zdk_535 (r := 9) (k := 0) rfl rfl rfl
theorem zd_535_40 : decode prog_14_method_34_code 40 = .ok (.ifCond .ne 12, 3) := zsh_g zdk_535 (r := 10) (k := 0) rfl rfl rfl
theorem zd_535_43 : decode prog_14_method_34_code 43 = .ok (.aload_n 0, 1) := zsh_g zdk_535 (r := 10) (k := 1) rfl rfl rfl
theorem zd_535_44 : decode prog_14_method_34_code 44 = .ok (.bipush 126, 2) := zsh_g zdk_535 (r := 11) (k := 0) rfl rfl rfl
theorem zd_535_46 : decode prog_14_method_34_code 46 = .ok (.invokevirtual 583, 3) := zsh_g zdk_535 (r := 11) (k := 1) rfl rfl rfl
theorem zd_535_49 : decode prog_14_method_34_code 49 = .ok (.ifCond .eq 57, 3) := zsh_g zdk_535 (r := 12) (k := 0) rfl rfl rfl
theorem zd_535_52 : decode prog_14_method_34_code 52 = .ok (.aload_n 0, 1) := zsh_g zdk_535 (r := 13) (k := 0) rfl rfl rfl
theorem zd_535_53 : decode prog_14_method_34_code 53 = .ok (.invokevirtual 628, 3) := zsh_g zdk_535 (r := 13) (k := 1) rfl rfl rfl
theorem zd_535_56 : decode prog_14_method_34_code 56 = .ok (.aload_n 0, 1) := zsh_g zdk_535 (r := 14) (k := 0) rfl rfl rfl
theorem zd_535_57 : decode prog_14_method_34_code 57 = .ok (.getfield 265, 3) := zsh_g zdk_535 (r := 14) (k := 1) rfl rfl rfl
theorem zd_535_60 : decode prog_14_method_34_code 60 = .ok (.aload_n 0, 1) := zsh_g zdk_535 (r := 15) (k := 0) rfl rfl rfl
theorem zd_535_61 : decode prog_14_method_34_code 61 = .ok (.getfield 610, 3) := zsh_g zdk_535 (r := 15) (k := 1) rfl rfl rfl
theorem zd_535_64 : decode prog_14_method_34_code 64 = .ok (.aload_n 0, 1) := zsh_g zdk_535 (r := 16) (k := 0) rfl rfl rfl
theorem zd_535_65 : decode prog_14_method_34_code 65 = .ok (.getfield 172, 3) := zsh_g zdk_535 (r := 16) (k := 1) rfl rfl rfl
theorem zd_535_68 : decode prog_14_method_34_code 68 = .ok (.aload_n 0, 1) := zsh_g zdk_535 (r := 17) (k := 0) rfl rfl rfl
theorem zd_535_69 : decode prog_14_method_34_code 69 = .ok (.getfield 576, 3) := zsh_g zdk_535 (r := 17) (k := 1) rfl rfl rfl
theorem zd_535_72 : decode prog_14_method_34_code 72 = .ok (.iaload, 1) := zsh_g zdk_535 (r := 18) (k := 0) rfl rfl rfl
theorem zd_535_73 : decode prog_14_method_34_code 73 = .ok (.iastore, 1) := zsh_g zdk_535 (r := 18) (k := 1) rfl rfl rfl
theorem zd_535_74 : decode prog_14_method_34_code 74 = .ok (.aload_n 0, 1) := zsh_g zdk_535 (r := 18) (k := 2) rfl rfl rfl
theorem zd_535_75 : decode prog_14_method_34_code 75 = .ok (.getfield 268, 3) := zsh_g zdk_535 (r := 18) (k := 3) rfl rfl rfl
theorem zd_535_78 : decode prog_14_method_34_code 78 = .ok (.aload_n 0, 1) := zsh_g zdk_535 (r := 19) (k := 0) rfl rfl rfl
theorem zd_535_79 : decode prog_14_method_34_code 79 = .ok (.getfield 610, 3) := zsh_g zdk_535 (r := 19) (k := 1) rfl rfl rfl
theorem zd_535_82 : decode prog_14_method_34_code 82 = .ok (.iload_n 1, 1) := zsh_g zdk_535 (r := 20) (k := 0) rfl rfl rfl
theorem zd_535_83 : decode prog_14_method_34_code 83 = .ok (.iastore, 1) := zsh_g zdk_535 (r := 20) (k := 1) rfl rfl rfl
theorem zd_535_84 : decode prog_14_method_34_code 84 = .ok (.aload_n 0, 1) := zsh_g zdk_535 (r := 21) (k := 0) rfl rfl rfl
theorem zd_535_85 : decode prog_14_method_34_code 85 = .ok (.dup, 1) := zsh_g zdk_535 (r := 21) (k := 1) rfl rfl rfl
theorem zd_535_86 : decode prog_14_method_34_code 86 = .ok (.getfield 610, 3) := zsh_g zdk_535 (r := 21) (k := 2) rfl rfl rfl
theorem zd_535_89 : decode prog_14_method_34_code 89 = .ok (.iconst 1, 1) := zsh_g zdk_535 (r := 22) (k := 0) rfl rfl rfl
theorem zd_535_90 : decode prog_14_method_34_code 90 = .ok (.iadd, 1) := zsh_g zdk_535 (r := 22) (k := 1) rfl rfl rfl
theorem zd_535_91 : decode prog_14_method_34_code 91 = .ok (.putfield 610, 3) := zsh_g zdk_535 (r := 22) (k := 2) rfl rfl rfl
theorem zd_535_94 : decode prog_14_method_34_code 94 = .ok (.aload_n 0, 1) := zsh_g zdk_535 (r := 23) (k := 0) rfl rfl rfl
theorem zd_535_95 : decode prog_14_method_34_code 95 = .ok (.dup, 1) := zsh_g zdk_535 (r := 23) (k := 1) rfl rfl rfl
theorem zd_535_96 : decode prog_14_method_34_code 96 = .ok (.getfield 576, 3) := zsh_g zdk_535 (r := 24) (k := 0) rfl rfl rfl
theorem zd_535_99 : decode prog_14_method_34_code 99 = .ok (.iconst 1, 1) := zsh_g zdk_535 (r := 24) (k := 1) rfl rfl rfl
theorem zd_535_100 : decode prog_14_method_34_code 100 = .ok (.iadd, 1) := zsh_g zdk_535 (r := 25) (k := 0) rfl rfl rfl
theorem zd_535_101 : decode prog_14_method_34_code 101 = .ok (.putfield 576, 3) := zsh_g zdk_535 (r := 25) (k := 1) rfl rfl rfl
theorem zd_535_104 : decode prog_14_method_34_code 104 = .ok (.iconst 0, 1) := zsh_g zdk_535 (r := 26) (k := 0) rfl rfl rfl
theorem zd_535_106 : decode prog_14_method_34_code 106 = .ok (.aload_n 0, 1) := zsh_g zdk_535 (r := 26) (k := 1) rfl rfl rfl
theorem zd_535_107 : decode prog_14_method_34_code 107 = .ok (.iconst 2, 1) := zsh_g zdk_535 (r := 26) (k := 2) rfl rfl rfl
theorem zd_535_108 : decode prog_14_method_34_code 108 = .ok (.invokevirtual 583, 3) := zsh_g zdk_535 (r := 27) (k := 0) rfl rfl rfl
theorem zd_535_111 : decode prog_14_method_34_code 111 = .ok (.ifCond .eq 32, 3) := zsh_g zdk_535 (r := 27) (k := 1) rfl rfl rfl
theorem zd_535_114 : decode prog_14_method_34_code 114 = .ok (.aload_n 0, 1) := zsh_g zdk_535 (r := 28) (k := 0) rfl rfl rfl
theorem zd_535_115 : decode prog_14_method_34_code 115 = .ok (.iconst 3, 1) := zsh_g zdk_535 (r := 28) (k := 1) rfl rfl rfl
theorem zd_535_116 : decode prog_14_method_34_code 116 = .ok (.aload_n 0, 1) := zsh_g zdk_535 (r := 29) (k := 0) rfl rfl rfl
theorem zd_535_117 : decode prog_14_method_34_code 117 = .ok (.getfield 178, 3) := zsh_g zdk_535 (r := 29) (k := 1) rfl rfl rfl
theorem zd_535_120 : decode prog_14_method_34_code 120 = .ok (.aload_n 0, 1) := zsh_g zdk_535 (r := 30) (k := 0) rfl rfl rfl
theorem zd_535_121 : decode prog_14_method_34_code 121 = .ok (.getfield 576, 3) := zsh_g zdk_535 (r := 30) (k := 1) rfl rfl rfl
theorem zd_535_124 : decode prog_14_method_34_code 124 = .ok (.iaload, 1) := zsh_g zdk_535 (r := 31) (k := 0) rfl rfl rfl
theorem zd_535_125 : decode prog_14_method_34_code 125 = .ok (.iconst 0, 1) := zsh_g zdk_535 (r := 31) (k := 1) rfl rfl rfl
theorem zd_535_126 : decode prog_14_method_34_code 126 = .ok (.iload_n 1, 1) := zsh_g zdk_535 (r := 31) (k := 2) rfl rfl rfl
theorem zd_535_127 : decode prog_14_method_34_code 127 = .ok (.iconst 0, 1) := zsh_g zdk_535 (r := 31) (k := 3) rfl rfl rfl
theorem zd_535_128 : decode prog_14_method_34_code 128 = .ok (.invokevirtual 620, 3) := zsh_g zdk_535 (r := 32) (k := 0) rfl rfl rfl
theorem zd_535_131 : decode prog_14_method_34_code 131 = .ok (.aload_n 0, 1) := zsh_g zdk_535 (r := 32) (k := 1) rfl rfl rfl
theorem zd_535_132 : decode prog_14_method_34_code 132 = .ok (.dup, 1) := zsh_g zdk_535 (r := 33) (k := 0) rfl rfl rfl
theorem zd_535_133 : decode prog_14_method_34_code 133 = .ok (.getfield 576, 3) := zsh_g zdk_535 (r := 33) (k := 1) rfl rfl rfl
theorem zd_535_136 : decode prog_14_method_34_code 136 = .ok (.iconst 1, 1) := zsh_g zdk_535 (r := 34) (k := 0) rfl rfl rfl
theorem zd_535_137 : decode prog_14_method_34_code 137 = .ok (.iadd, 1) := zsh_g zdk_535 (r := 34) (k := 1) rfl rfl rfl
theorem zd_535_138 : decode prog_14_method_34_code 138 = .ok (.putfield 576, 3) := zsh_g zdk_535 (r := 34) (k := 2) rfl rfl rfl
theorem zd_535_141 : decode prog_14_method_34_code 141 = .ok (.iconst 1, 1) := zsh_g zdk_535 (r := 35) (k := 0) rfl rfl rfl
theorem zd_535_143 : decode prog_14_method_34_code 143 = .ok (.aload_n 0, 1) := zsh_g zdk_535 (r := 35) (k := 1) rfl rfl rfl
theorem zd_535_144 : decode prog_14_method_34_code 144 = .ok (.sipush 147, 3) := zsh_g zdk_535 (r := 36) (k := 0) rfl rfl rfl
theorem zd_535_147 : decode prog_14_method_34_code 147 = .ok (.invokevirtual 583, 3) := zsh_g zdk_535 (r := 36) (k := 1) rfl rfl rfl
theorem zd_535_150 : decode prog_14_method_34_code 150 = .ok (.ifCond .eq 59, 3) := zsh_g zdk_535 (r := 37) (k := 0) rfl rfl rfl
theorem zd_535_153 : decode prog_14_method_34_code 153 = .ok (.aload_n 0, 1) := zsh_g zdk_535 (r := 38) (k := 0) rfl rfl rfl
theorem zd_535_154 : decode prog_14_method_34_code 154 = .ok (.iconst 4, 1) := zsh_g zdk_535 (r := 38) (k := 1) rfl rfl rfl
theorem zd_535_155 : decode prog_14_method_34_code 155 = .ok (.iconst 0, 1) := zsh_g zdk_535 (r := 38) (k := 2) rfl rfl rfl
theorem zd_535_156 : decode prog_14_method_34_code 156 = .ok (.iconst 0, 1) := zsh_g zdk_535 (r := 39) (k := 0) rfl rfl rfl
theorem zd_535_157 : decode prog_14_method_34_code 157 = .ok (.iload_n 1, 1) := zsh_g zdk_535 (r := 39) (k := 1) rfl rfl rfl
theorem zd_535_158 : decode prog_14_method_34_code 158 = .ok (.iconst 0, 1) := zsh_g zdk_535 (r := 39) (k := 2) rfl rfl rfl
theorem zd_535_159 : decode prog_14_method_34_code 159 = .ok (.invokevirtual 620, 3) := zsh_g zdk_535 (r := 39) (k := 3) rfl rfl rfl
theorem zd_535_162 : decode prog_14_method_34_code 162 = .ok (.aload_n 0, 1) := zsh_g zdk_535 (r := 40) (k := 0) rfl rfl rfl
theorem zd_535_163 : decode prog_14_method_34_code 163 = .ok (.dup, 1) := zsh_g zdk_535 (r := 40) (k := 1) rfl rfl rfl
theorem zd_535_164 : decode prog_14_method_34_code 164 = .ok (.getfield 576, 3) := zsh_g zdk_535 (r := 41) (k := 0) rfl rfl rfl
theorem zd_535_167 : decode prog_14_method_34_code 167 = .ok (.iconst 1, 1) := zsh_g zdk_535 (r := 41) (k := 1) rfl rfl rfl
theorem zd_535_168 : decode prog_14_method_34_code 168 = .ok (.iadd, 1) := zsh_g zdk_535 (r := 42) (k := 0) rfl rfl rfl
theorem zd_535_169 : decode prog_14_method_34_code 169 = .ok (.putfield 576, 3) := zsh_g zdk_535 (r := 42) (k := 1) rfl rfl rfl
theorem zd_535_172 : decode prog_14_method_34_code 172 = .ok (.aload_n 0, 1) := zsh_g zdk_535 (r := 43) (k := 0) rfl rfl rfl
theorem zd_535_173 : decode prog_14_method_34_code 173 = .ok (.bipush 40, 2) := zsh_g zdk_535 (r := 43) (k := 1) rfl rfl rfl
theorem zd_535_175 : decode prog_14_method_34_code 175 = .ok (.invokevirtual 583, 3) := zsh_g zdk_535 (r := 43) (k := 2) rfl rfl rfl
theorem zd_535_178 : decode prog_14_method_34_code 178 = .ok (.ifCond .eq 7, 3) := zsh_g zdk_535 (r := 44) (k := 0) rfl rfl rfl
theorem zd_535_181 : decode prog_14_method_34_code 181 = .ok (.aload_n 0, 1) := zsh_g zdk_535 (r := 45) (k := 0) rfl rfl rfl
theorem zd_535_182 : decode prog_14_method_34_code 182 = .ok (.invokevirtual 628, 3) := zsh_g zdk_535 (r := 45) (k := 1) rfl rfl rfl
theorem zd_535_185 : decode prog_14_method_34_code 185 = .ok (.aload_n 0, 1) := zsh_g zdk_535 (r := 46) (k := 0) rfl rfl rfl
theorem zd_535_186 : decode prog_14_method_34_code 186 = .ok (.bipush 40, 2) := zsh_g zdk_535 (r := 46) (k := 1) rfl rfl rfl
theorem zd_535_188 : decode prog_14_method_34_code 188 = .ok (.invokevirtual 631, 3) := zsh_g zdk_535 (r := 47) (k := 0) rfl rfl rfl
theorem zd_535_191 : decode prog_14_method_34_code 191 = .ok (.aload_n 0, 1) := zsh_g zdk_535 (r := 47) (k := 1) rfl rfl rfl
theorem zd_535_192 : decode prog_14_method_34_code 192 = .ok (.bipush 41, 2) := zsh_g zdk_535 (r := 48) (k := 0) rfl rfl rfl
theorem zd_535_194 : decode prog_14_method_34_code 194 = .ok (.invokevirtual 631, 3) := zsh_g zdk_535 (r := 48) (k := 1) rfl rfl rfl
theorem zd_535_197 : decode prog_14_method_34_code 197 = .ok (.aload_n 0, 1) := zsh_g zdk_535 (r := 49) (k := 0) rfl rfl rfl
theorem zd_535_198 : decode prog_14_method_34_code 198 = .ok (.dup, 1) := zsh_g zdk_535 (r := 49) (k := 1) rfl rfl rfl
theorem zd_535_199 : decode prog_14_method_34_code 199 = .ok (.getfield 601, 3) := zsh_g zdk_535 (r := 49) (k := 2) rfl rfl rfl
theorem zd_535_202 : decode prog_14_method_34_code 202 = .ok (.iconst 1, 1) := zsh_g zdk_535 (r := 50) (k := 0) rfl rfl rfl
theorem zd_535_203 : decode prog_14_method_34_code 203 = .ok (.isub, 1) := zsh_g zdk_535 (r := 50) (k := 1) rfl rfl rfl
theorem zd_535_204 : decode prog_14_method_34_code 204 = .ok (.putfield 601, 3) := zsh_g zdk_535 (r := 51) (k := 0) rfl rfl rfl
theorem zd_535_207 : decode prog_14_method_34_code 207 = .ok (.iconst 1, 1) := zsh_g zdk_535 (r := 51) (k := 1) rfl rfl rfl
theorem zd_535_209 : decode prog_14_method_34_code 209 = .ok (.aload_n 0, 1) := zsh_g zdk_535 (r := 52) (k := 0) rfl rfl rfl
theorem zd_535_210 : decode prog_14_method_34_code 210 = .ok (.bipush 40, 2) := zsh_g zdk_535 (r := 52) (k := 1) rfl rfl rfl
theorem zd_535_212 : decode prog_14_method_34_code 212 = .ok (.invokevirtual 583, 3) := zsh_g zdk_535 (r := 53) (k := 0) rfl rfl rfl
theorem zd_535_215 : decode prog_14_method_34_code 215 = .ok (.ifCond .eq 27, 3) := zsh_g zdk_535 (r := 53) (k := 1) rfl rfl rfl
theorem zd_535_218 : decode prog_14_method_34_code 218 = .ok (.aload_n 0, 1) := zsh_g zdk_535 (r := 54) (k := 0) rfl rfl rfl
theorem zd_535_219 : decode prog_14_method_34_code 219 = .ok (.invokevirtual 628, 3) := zsh_g zdk_535 (r := 54) (k := 1) rfl rfl rfl
theorem zd_535_222 : decode prog_14_method_34_code 222 = .ok (.aload_n 0, 1) := zsh_g zdk_535 (r := 55) (k := 0) rfl rfl rfl
theorem zd_535_223 : decode prog_14_method_34_code 223 = .ok (.dup, 1) := zsh_g zdk_535 (r := 55) (k := 1) rfl rfl rfl
theorem zd_535_224 : decode prog_14_method_34_code 224 = .ok (.getfield 576, 3) := zsh_g zdk_535 (r := 56) (k := 0) rfl rfl rfl
theorem zd_535_227 : decode prog_14_method_34_code 227 = .ok (.iconst 1, 1) := zsh_g zdk_535 (r := 56) (k := 1) rfl rfl rfl
theorem zd_535_228 : decode prog_14_method_34_code 228 = .ok (.iadd, 1) := zsh_g zdk_535 (r := 57) (k := 0) rfl rfl rfl
theorem zd_535_229 : decode prog_14_method_34_code 229 = .ok (.putfield 576, 3) := zsh_g zdk_535 (r := 57) (k := 1) rfl rfl rfl
theorem zd_535_232 : decode prog_14_method_34_code 232 = .ok (.aload_n 0, 1) := zsh_g zdk_535 (r := 58) (k := 0) rfl rfl rfl
theorem zd_535_233 : decode prog_14_method_34_code 233 = .ok (.iconst 1, 1) := zsh_g zdk_535 (r := 58) (k := 1) rfl rfl rfl
theorem zd_535_234 : decode prog_14_method_34_code 234 = .ok (.iload_n 1, 1) := zsh_g zdk_535 (r := 58) (k := 2) rfl rfl rfl
theorem zd_535_235 : decode prog_14_method_34_code 235 = .ok (.iconst (-1), 1) := zsh_g zdk_535 (r := 58) (k := 3) rfl rfl rfl
theorem zd_535_236 : decode prog_14_method_34_code 236 = .ok (.iconst 0, 1) := zsh_g zdk_535 (r := 59) (k := 0) rfl rfl rfl
theorem zd_535_237 : decode prog_14_method_34_code 237 = .ok (.invokevirtual 634, 3) := zsh_g zdk_535 (r := 59) (k := 1) rfl rfl rfl
theorem zd_535_240 : decode prog_14_method_34_code 240 = .ok (.iconst 0, 1) := zsh_g zdk_535 (r := 60) (k := 0) rfl rfl rfl
theorem zd_535_242 : decode prog_14_method_34_code 242 = .ok (.aload_n 0, 1) := zsh_g zdk_535 (r := 60) (k := 1) rfl rfl rfl
theorem zd_535_243 : decode prog_14_method_34_code 243 = .ok (.iconst 1, 1) := zsh_g zdk_535 (r := 60) (k := 2) rfl rfl rfl
theorem zd_535_244 : decode prog_14_method_34_code 244 = .ok (.invokevirtual 583, 3) := zsh_g zdk_535 (r := 61) (k := 0) rfl rfl rfl
theorem zd_535_247 : decode prog_14_method_34_code 247 = .ok (.ifCond .ne 9, 3) := zsh_g zdk_535 (r := 61) (k := 1) rfl rfl rfl
theorem zd_535_250 : decode prog_14_method_34_code 250 = .ok (.aload_n 0, 1) := zsh_g zdk_535 (r := 62) (k := 0) rfl rfl rfl
theorem zd_535_251 : decode prog_14_method_34_code 251 = .ok (.invokevirtual 586, 3) := zsh_g zdk_535 (r := 62) (k := 1) rfl rfl rfl
theorem zd_535_254 : decode prog_14_method_34_code 254 = .ok (.iconst 1, 1) := zsh_g zdk_535 (r := 63) (k := 0) rfl rfl rfl
theorem zd_535_256 : decode prog_14_method_34_code 256 = .ok (.aload_n 0, 1) := zsh_g zdk_535 (r := 64) (k := 0) rfl rfl rfl
theorem zd_535_257 : decode prog_14_method_34_code 257 = .ok (.getfield 178, 3) := zsh_g zdk_535 (r := 64) (k := 1) rfl rfl rfl
theorem zd_535_260 : decode prog_14_method_34_code 260 = .ok (.aload_n 0, 1) := zsh_g zdk_535 (r := 65) (k := 0) rfl rfl rfl
theorem zd_535_261 : decode prog_14_method_34_code 261 = .ok (.getfield 576, 3) := zsh_g zdk_535 (r := 65) (k := 1) rfl rfl rfl
theorem zd_535_264 : decode prog_14_method_34_code 264 = .ok (.iaload, 1) := zsh_g zdk_535 (r := 66) (k := 0) rfl rfl rfl
theorem zd_535_265 : decode prog_14_method_34_code 265 = .ok (.istore_n 2, 1) := zsh_g zdk_535 (r := 66) (k := 1) rfl rfl rfl
theorem zd_535_266 : decode prog_14_method_34_code 266 = .ok (.aload_n 0, 1) := zsh_g zdk_535 (r := 66) (k := 2) rfl rfl rfl
theorem zd_535_267 : decode prog_14_method_34_code 267 = .ok (.getfield 175, 3) := zsh_g zdk_535 (r := 66) (k := 3) rfl rfl rfl
theorem zd_535_270 : decode prog_14_method_34_code 270 = .ok (.aload_n 0, 1) := zsh_g zdk_535 (r := 67) (k := 0) rfl rfl rfl
theorem zd_535_271 : decode prog_14_method_34_code 271 = .ok (.getfield 576, 3) := zsh_g zdk_535 (r := 67) (k := 1) rfl rfl rfl
theorem zd_535_274 : decode prog_14_method_34_code 274 = .ok (.iaload, 1) := zsh_g zdk_535 (r := 68) (k := 0) rfl rfl rfl
theorem zd_535_275 : decode prog_14_method_34_code 275 = .ok (.istore_n 3, 1) := zsh_g zdk_535 (r := 68) (k := 1) rfl rfl rfl
theorem zd_535_276 : decode prog_14_method_34_code 276 = .ok (.aload_n 0, 1) := zsh_g zdk_535 (r := 69) (k := 0) rfl rfl rfl
theorem zd_535_277 : decode prog_14_method_34_code 277 = .ok (.dup, 1) := zsh_g zdk_535 (r := 69) (k := 1) rfl rfl rfl
theorem zd_535_278 : decode prog_14_method_34_code 278 = .ok (.getfield 576, 3) := zsh_g zdk_535 (r := 69) (k := 2) rfl rfl rfl
theorem zd_535_281 : decode prog_14_method_34_code 281 = .ok (.iconst 1, 1) := zsh_g zdk_535 (r := 70) (k := 0) rfl rfl rfl
theorem zd_535_282 : decode prog_14_method_34_code 282 = .ok (.iadd, 1) := zsh_g zdk_535 (r := 70) (k := 1) rfl rfl rfl
theorem zd_535_283 : decode prog_14_method_34_code 283 = .ok (.putfield 576, 3) := zsh_g zdk_535 (r := 70) (k := 2) rfl rfl rfl
theorem zd_535_286 : decode prog_14_method_34_code 286 = .ok (.aload_n 0, 1) := zsh_g zdk_535 (r := 71) (k := 0) rfl rfl rfl
theorem zd_535_287 : decode prog_14_method_34_code 287 = .ok (.bipush 91, 2) := zsh_g zdk_535 (r := 71) (k := 1) rfl rfl rfl
theorem zd_535_289 : decode prog_14_method_34_code 289 = .ok (.invokevirtual 583, 3) := zsh_g zdk_535 (r := 72) (k := 0) rfl rfl rfl
theorem zd_535_292 : decode prog_14_method_34_code 292 = .ok (.ifCond .eq 27, 3) := zsh_g zdk_535 (r := 73) (k := 0) rfl rfl rfl
theorem zd_535_295 : decode prog_14_method_34_code 295 = .ok (.aload_n 0, 1) := zsh_g zdk_535 (r := 73) (k := 1) rfl rfl rfl
theorem zd_535_296 : decode prog_14_method_34_code 296 = .ok (.invokevirtual 628, 3) := zsh_g zdk_535 (r := 74) (k := 0) rfl rfl rfl
theorem zd_535_299 : decode prog_14_method_34_code 299 = .ok (.aload_n 0, 1) := zsh_g zdk_535 (r := 74) (k := 1) rfl rfl rfl
theorem zd_535_300 : decode prog_14_method_34_code 300 = .ok (.dup, 1) := zsh_g zdk_535 (r := 75) (k := 0) rfl rfl rfl
theorem zd_535_301 : decode prog_14_method_34_code 301 = .ok (.getfield 576, 3) := zsh_g zdk_535 (r := 75) (k := 1) rfl rfl rfl
theorem zd_535_304 : decode prog_14_method_34_code 304 = .ok (.iconst 1, 1) := zsh_g zdk_535 (r := 76) (k := 0) rfl rfl rfl
theorem zd_535_305 : decode prog_14_method_34_code 305 = .ok (.iadd, 1) := zsh_g zdk_535 (r := 76) (k := 1) rfl rfl rfl
theorem zd_535_306 : decode prog_14_method_34_code 306 = .ok (.putfield 576, 3) := zsh_g zdk_535 (r := 76) (k := 2) rfl rfl rfl
theorem zd_535_309 : decode prog_14_method_34_code 309 = .ok (.aload_n 0, 1) := zsh_g zdk_535 (r := 77) (k := 0) rfl rfl rfl
theorem zd_535_310 : decode prog_14_method_34_code 310 = .ok (.iconst 2, 1) := zsh_g zdk_535 (r := 77) (k := 1) rfl rfl rfl
theorem zd_535_311 : decode prog_14_method_34_code 311 = .ok (.iload_n 1, 1) := zsh_g zdk_535 (r := 77) (k := 2) rfl rfl rfl
theorem zd_535_312 : decode prog_14_method_34_code 312 = .ok (.iload_n 2, 1) := zsh_g zdk_535 (r := 78) (k := 0) rfl rfl rfl
theorem zd_535_313 : decode prog_14_method_34_code 313 = .ok (.iload_n 3, 1) := zsh_g zdk_535 (r := 78) (k := 1) rfl rfl rfl
theorem zd_535_314 : decode prog_14_method_34_code 314 = .ok (.invokevirtual 634, 3) := zsh_g zdk_535 (r := 78) (k := 2) rfl rfl rfl
theorem zd_535_317 : decode prog_14_method_34_code 317 = .ok (.iconst 0, 1) := zsh_g zdk_535 (r := 79) (k := 0) rfl rfl rfl
theorem zd_535_319 : decode prog_14_method_34_code 319 = .ok (.aload_n 0, 1) := zsh_g zdk_535 (r := 79) (k := 1) rfl rfl rfl
theorem zd_535_320 : decode prog_14_method_34_code 320 = .ok (.bipush 40, 2) := zsh_g zdk_535 (r := 80) (k := 0) rfl rfl rfl
theorem zd_535_322 : decode prog_14_method_34_code 322 = .ok (.invokevirtual 583, 3) := zsh_g zdk_535 (r := 80) (k := 1) rfl rfl rfl
theorem zd_535_325 : decode prog_14_method_34_code 325 = .ok (.ifCond .eq 12, 3) := zsh_g zdk_535 (r := 81) (k := 0) rfl rfl rfl
theorem zd_535_328 : decode prog_14_method_34_code 328 = .ok (.aload_n 0, 1) := zsh_g zdk_535 (r := 82) (k := 0) rfl rfl rfl
theorem zd_535_329 : decode prog_14_method_34_code 329 = .ok (.iload_n 2, 1) := zsh_g zdk_535 (r := 82) (k := 1) rfl rfl rfl
theorem zd_535_330 : decode prog_14_method_34_code 330 = .ok (.iload_n 3, 1) := zsh_g zdk_535 (r := 82) (k := 2) rfl rfl rfl
theorem zd_535_331 : decode prog_14_method_34_code 331 = .ok (.iload_n 1, 1) := zsh_g zdk_535 (r := 82) (k := 3) rfl rfl rfl
theorem zd_535_332 : decode prog_14_method_34_code 332 = .ok (.iconst 0, 1) := zsh_g zdk_535 (r := 83) (k := 0) rfl rfl rfl
theorem zd_535_333 : decode prog_14_method_34_code 333 = .ok (.invokevirtual 638, 3) := zsh_g zdk_535 (r := 83) (k := 1) rfl rfl rfl
theorem zd_535_337 : decode prog_14_method_34_code 337 = .ok (.aload_n 0, 1) := zsh_g zdk_535 (r := 84) (k := 0) rfl rfl rfl
theorem zd_535_338 : decode prog_14_method_34_code 338 = .ok (.iload_n 2, 1) := zsh_g zdk_535 (r := 84) (k := 1) rfl rfl rfl
theorem zd_535_339 : decode prog_14_method_34_code 339 = .ok (.iconst 1, 1) := zsh_g zdk_535 (r := 84) (k := 2) rfl rfl rfl
theorem zd_535_340 : decode prog_14_method_34_code 340 = .ok (.iload_n 3, 1) := zsh_g zdk_535 (r := 85) (k := 0) rfl rfl rfl
theorem zd_535_341 : decode prog_14_method_34_code 341 = .ok (.invokevirtual 613, 3) := zsh_g zdk_535 (r := 85) (k := 1) rfl rfl rfl
theorem zd_535_344 : decode prog_14_method_34_code 344 = .ok (.istore 4, 2) := zsh_g zdk_535 (r := 86) (k := 0) rfl rfl rfl
theorem zd_535_346 : decode prog_14_method_34_code 346 = .ok (.aload_n 0, 1) := zsh_g zdk_535 (r := 86) (k := 1) rfl rfl rfl
theorem zd_535_347 : decode prog_14_method_34_code 347 = .ok (.iconst 5, 1) := zsh_g zdk_535 (r := 86) (k := 2) rfl rfl rfl
theorem zd_535_348 : decode prog_14_method_34_code 348 = .ok (.iload_n 2, 1) := zsh_g zdk_535 (r := 87) (k := 0) rfl rfl rfl
theorem zd_535_349 : decode prog_14_method_34_code 349 = .ok (.aload_n 0, 1) := zsh_g zdk_535 (r := 87) (k := 1) rfl rfl rfl
theorem zd_535_350 : decode prog_14_method_34_code 350 = .ok (.iload 4, 2) := zsh_g zdk_535 (r := 87) (k := 2) rfl rfl rfl
theorem zd_535_352 : decode prog_14_method_34_code 352 = .ok (.invokevirtual 642, 3) := zsh_g zdk_535 (r := 88) (k := 0) rfl rfl rfl
theorem zd_535_355 : decode prog_14_method_34_code 355 = .ok (.iload_n 1, 1) := zsh_g zdk_535 (r := 88) (k := 1) rfl rfl rfl
theorem zd_535_356 : decode prog_14_method_34_code 356 = .ok (.iconst 0, 1) := zsh_g zdk_535 (r := 89) (k := 0) rfl rfl rfl
theorem zd_535_357 : decode prog_14_method_34_code 357 = .ok (.invokevirtual 620, 3) := zsh_g zdk_535 (r := 89) (k := 1) rfl rfl rfl
theorem zd_535_360 : decode prog_14_method_34_code 360 = .ok (.iconst 1, 1) := zsh_g zdk_535 (r := 90) (k := 0) rfl rfl rfl
def zdl_536 : List (List (Nat × Instr × Nat)) := [[(0, (.aload_n 0), 1), (1, (.getfield 604), 3)], [(0, (.iconst 1), 1), (1, .isub, 1), (2, (.istore_n 1), 1), (3, (.aload_n 0), 1)], [(0, (.getfield 610), 3), (3, (.aload_n 0), 1)], [(0, (.getfield 247), 3), (3, (.iload_n 1), 1)], [(0, .iaload, 1), (1, (.if_icmp .le 52), 3)], [(0, (.aload_n 0), 1), (1, .dup, 1), (2, (.getfield 610), 3)], [(1, (.iconst 1), 1), (2, .isub, 1), (3, (.putfield 610), 3)], [(2, (.aload_n 0), 1), (3, .dup, 1)], [(0, (.getfield 601), 3), (3, (.iconst 1), 1)], [(0, .isub, 1), (1, (.putfield 601), 3)], [(0, (.aload_n 0), 1), (1, (.bipush 9), 2), (3, (.aload_n 0), 1)], [(0, (.getfield 265), 3), (3, (.aload_n 0), 1)], [(0, (.getfield 610), 3), (3, .iaload, 1)], [(0, (.iconst 0), 1), (1, (.aload_n 0), 1), (2, (.getfield 268), 3)], [(1, (.aload_n 0), 1), (2, (.getfield 610), 3)], [(1, .iaload, 1), (2, (.iconst 0), 1), (3, (.invokevirtual 620), 3)], [(2, (.goto (-59)), 3)], [(1, (.aload_n 0), 1), (2, (.getfield 244), 3)], [(1, (.iload_n 1), 1), (2, .iaload, 1), (3, (.ifCond .le 30), 3)], [(2, (.aload_n 0), 1), (3, (.bipush 10), 2)], [(1, (.aload_n 0), 1), (2, (.getfield 244), 3)], [(1, (.iload_n 1), 1), (2, .iaload, 1), (3, (.iconst 0), 1)], [(0, (.aload_n 0), 1), (1, (.getfield 235), 3)], [(0, (.iload_n 1), 1), (1, .iaload, 1), (2, (.iconst 0), 1), (3, (.invokevirtual 620), 3)], [(2, (.aload_n 0), 1), (3, (.getfield 244), 3)], [(2, (.iload_n 1), 1), (3, (.iconst 0), 1)], [(0, .iastore, 1), (1, (.aload_n 0), 1), (2, (.getfield 572), 3)], [(1, (.ifCond .eq 7), 3)], [(0, (.iconst 0), 1), (1, (.goto 12), 3)], [(0, (.aload_n 0), 1), (1, (.getfield 172), 3)], [(0, (.aload_n 0), 1), (1, (.getfield 576), 3)], [(0, .iaload, 1), (1, (.istore_n 2), 1), (2, (.iload_n 2), 1), (3, (.invokestatic 649), 3)], [(2, (.ifCond .eq 22), 3)], [(1, (.aload_n 0), 1), (2, (.getfield 244), 3)], [(1, (.iload_n 1), 1), (2, (.iload_n 2), 1), (3, .iastore, 1)], [(0, (.aload_n 0), 1), (1, .dup, 1), (2, (.getfield 576), 3)], [(1, (.iconst 1), 1), (2, .iadd, 1), (3, (.putfield 576), 3)], [(2, (.iconst 1), 1)], [(0, (.aload_n 0), 1), (1, (.getfield 241), 3)], [(0, (.iload_n 1), 1), (1, .iaload, 1), (2, (.ifCond .le 30), 3)], [(1, (.aload_n 0), 1), (2, (.bipush 10), 2)], [(0, (.aload_n 0), 1), (1, (.getfield 241), 3)], [(0, (.iload_n 1), 1), (1, .iaload, 1), (2, (.iconst 0), 1), (3, (.aload_n 0), 1)], [(0, (.getfield 232), 3), (3, (.iload_n 1), 1)], [(0, .iaload, 1), (1, (.iconst 0), 1), (2, (.invokevirtual 620), 3)], [(1, (.aload_n 0), 1), (2, (.getfield 241), 3)], [(1, (.iload_n 1), 1), (2, (.iconst 0), 1), (3, .iastore, 1)], [(0, (.iload_n 2), 1), (1, (.invokestatic 652), 3)], [(0, (.ifCond .eq 36), 3), (3, (.aload_n 0), 1)], [(0, (.getfield 241), 3), (3, (.iload_n 1), 1)], [(0, (.iload_n 2), 1), (1, .iastore, 1), (2, (.aload_n 0), 1), (3, (.getfield 235), 3)], [(2, (.iload_n 1), 1), (3, (.aload_n 0), 1)], [(0, (.getfield 232), 3), (3, (.iload_n 1), 1)], [(0, .iaload, 1), (1, (.iconst 1), 1), (2, .iadd, 1), (3, .iastore, 1)], [(0, (.aload_n 0), 1), (1, .dup, 1), (2, (.getfield 576), 3)], [(1, (.iconst 1), 1), (2, .iadd, 1), (3, (.putfield 576), 3)], [(2, (.iconst 1), 1)], [(0, (.iload_n 2), 1), (1, (.invokestatic 655), 3)], [(0, (.ifCond .eq 57), 3), (3, (.aload_n 0), 1)], [(0, (.getfield 238), 3), (3, (.iload_n 1), 1)], [(0, .iaload, 1), (1, (.ifCond .ne 48), 3)], [(0, (.aload_n 0), 1), (1, (.getfield 238), 3)], [(0, (.iload_n 1), 1), (1, (.iload_n 2), 1), (2, .iastore, 1), (3, (.aload_n 0), 1)], [(0, (.getfield 232), 3), (3, (.iload_n 1), 1)], [(0, (.aload_n 0), 1), (1, (.getfield 229), 3)], [(0, (.iload_n 1), 1), (1, .iaload, 1), (2, (.iconst 1), 1), (3, .iadd, 1)], [(0, .iastore, 1), (1, (.aload_n 0), 1), (2, (.getfield 235), 3)], [(1, (.iload_n 1), 1), (2, (.aload_n 0), 1), (3, (.getfield 232), 3)], [(2, (.iload_n 1), 1), (3, .iaload, 1)], [(0, .iastore, 1), (1, (.aload_n 0), 1), (2, .dup, 1), (3, (.getfield 576), 3)], [(2, (.iconst 1), 1), (3, .iadd, 1)], [(0, (.putfield 576), 3), (3, (.iconst 1), 1)], [(1, (.aload_n 0), 1), (2, (.getfield 238), 3)], [(1, (.iload_n 1), 1), (2, .iaload, 1), (3, (.ifCond .le 23), 3)], [(2, (.aload_n 0), 1), (3, (.bipush 10), 2)], [(1, (.aload_n 0), 1), (2, (.getfield 238), 3)], [(1, (.iload_n 1), 1), (2, .iaload, 1), (3, (.iconst 0), 1)], [(0, (.aload_n 0), 1), (1, (.getfield 229), 3)], [(0, (.iload_n 1), 1), (1, .iaload, 1), (2, (.iconst 0), 1), (3, (.invokevirtual 620), 3)], [(2, (.iconst 0), 1)]]
theorem zdk_536 : zsh_all 8 zdl_536 prog_14_method_39_code.data.toList = true := by decide +kernel
theorem zd_536_0 : decode prog_14_method_39_code 0 = .ok (.aload_n 0, 1) := zsh_g zdk_536 (r := 0) (k := 0) rfl rfl rfl
theorem zd_536_1 : decode prog_14_method_39_code 1 = .ok (.getfield 604, 3) := zsh_g zdk_536 (r := 0) (k := 1) rfl rfl rfl
theorem zd_536_4 : decode prog_14_method_39_code 4 = .ok (.iconst 1, 1) := zsh_g zdk_536 (r := 1) (k := 0) rfl rfl rfl
theorem zd_536_5 : decode prog_14_method_39_code 5 = .ok (.isub, 1) := zsh_g zdk_536 (r := 1) (k := 1) rfl rfl rfl
theorem zd_536_6 : decode prog_14_method_39_code 6 = .ok (.istore_n 1, 1) := zsh_g zdk_536 (r := 1) (k := 2) rfl rfl rfl
theorem zd_536_7 : decode prog_14_method_39_code 7 = .ok (.aload_n 0, 1) := zsh_g zdk_536 (r := 1) (k := 3) rfl rfl rfl
theorem zd_536_8 : decode prog_14_method_39_code 8 = .ok (.getfield 610, 3) := zsh_g zdk_536 (r := 2) (k := 0) rfl rfl rfl
theorem zd_536_11 : decode prog_14_method_39_code 11 = .ok (.aload_n 0, 1) := zsh_g zdk_536 (r := 2) (k := 1) rfl rfl rfl
theorem zd_536_12 : decode prog_14_method_39_code 12 = .ok (.getfield 247, 3) := zsh_g zdk_536 (r := 3) (k := 0) rfl rfl rfl
theorem zd_536_15 : decode prog_14_method_39_code 15 = .ok (.iload_n 1, 1) := zsh_g zdk_536 (r := 3) (k := 1) rfl rfl rfl
theorem zd_536_16 : decode prog_14_method_39_code 16 = .ok (.iaload, 1) := zsh_g zdk_536 (r := 4) (k := 0) rfl rfl rfl
theorem zd_536_17 : decode prog_14_method_39_code 17 = .ok (.if_icmp .le 52, 3) := zsh_g zdk_536 (r := 4) (k := 1) rfl rfl rfl
theorem zd_536_20 : decode prog_14_method_39_code 20 = .ok (.aload_n 0, 1) := zsh_g zdk_536 (r := 5) (k := 0) rfl rfl rfl
theorem zd_536_21 : decode prog_14_method_39_code 21 = .ok (.dup, 1) := zsh_g zdk_536 (r := 5) (k := 1) rfl rfl rfl
theorem zd_536_22 : decode prog_14_method_39_code 22 = .ok (.getfield 610, 3) := zsh_g zdk_536 (r := 5) (k := 2) rfl rfl rfl
theorem zd_536_25 : decode prog_14_method_39_code 25 = .ok (.iconst 1, 1) := zsh_g zdk_536 (r := 6) (k := 0) rfl rfl rfl
theorem zd_536_26 : decode prog_14_method_39_code 26 = .ok (.isub, 1) := zsh_g zdk_536 (r := 6) (k := 1) rfl rfl rfl
theorem zd_536_27 : decode prog_14_method_39_code 27 = .ok (.putfield 610, 3) := zsh_g zdk_536 (r := 6) (k := 2) rfl rfl rfl
theorem zd_536_30 : decode prog_14_method_39_code 30 = .ok (.aload_n 0, 1) := zsh_g zdk_536 (r := 7) (k := 0) rfl rfl rfl
theorem zd_536_31 : decode prog_14_method_39_code 31 = .ok (.dup, 1) := zsh_g zdk_536 (r := 7) (k := 1) rfl rfl rfl
theorem zd_536_32 : decode prog_14_method_39_code 32 = .ok (.getfield 601, 3) := zsh_g zdk_536 (r := 8) (k := 0) rfl rfl rfl
theorem zd_536_35 : decode prog_14_method_39_code 35 = .ok (.iconst 1, 1) := zsh_g zdk_536 (r := 8) (k := 1) rfl rfl rfl
theorem zd_536_36 : decode prog_14_method_39_code 36 = .ok (.isub, 1) := zsh_g zdk_536 (r := 9) (k := 0) rfl rfl rfl
theorem zd_536_37 : decode prog_14_method_39_code 37 = .ok (.putfield 601, 3) := zsh_g zdk_536 (r := 9) (k := 1) rfl rfl rfl
theorem zd_536_40 : decode prog_14_method_39_code 40 = .ok (.aload_n 0, 1) := zsh_g zdk_536 (r := 10) (k := 0) rfl rfl rfl
theorem zd_536_41 : decode prog_14_method_39_code 41 = .ok (.bipush 9, 2) := zsh_g zdk_536 (r := 10) (k := 1) rfl rfl rfl
theorem zd_536_43 : decode prog_14_method_39_code 43 = .ok (.aload_n 0, 1) := zsh_g zdk_536 (r := 10) (k := 2) rfl rfl rfl
theorem zd_536_44 : decode prog_14_method_39_code 44 = .ok (.getfield 265, 3) := zsh_g zdk_536 (r := 11) (k := 0) rfl rfl rfl
theorem zd_536_47 : decode prog_14_method_39_code 47 = .ok (.aload_n 0, 1) := zsh_g zdk_536 (r := 11) (k := 1) rfl rfl rfl
theorem zd_536_48 : decode prog_14_method_39_code 48 = .ok (.getfield 610, 3) := zsh_g zdk_536 (r := 12) (k := 0) rfl rfl rfl
theorem zd_536_51 : decode prog_14_method_39_code 51 = .ok (.iaload, 1) := zsh_g zdk_536 (r := 12) (k := 1) rfl rfl rfl
theorem zd_536_52 : decode prog_14_method_39_code 52 = .ok (.iconst 0, 1) := zsh_g zdk_536 (r := 13) (k := 0) rfl rfl rfl
theorem zd_536_53 : decode prog_14_method_39_code 53 = .ok (.aload_n 0, 1) := zsh_g zdk_536 (r := 13) (k := 1) rfl rfl rfl
theorem zd_536_54 : decode prog_14_method_39_code 54 = .ok (.getfield 268, 3) := zsh_g zdk_536 (r := 13) (k := 2) rfl rfl rfl
theorem zd_536_57 : decode prog_14_method_39_code 57 = .ok (.aload_n 0, 1) := zsh_g zdk_536 (r := 14) (k := 0) rfl rfl rfl
theorem zd_536_58 : decode prog_14_method_39_code 58 = .ok (.getfield 610, 3) := zsh_g zdk_536 (r := 14) (k := 1) rfl rfl rfl
theorem zd_536_61 : decode prog_14_method_39_code 61 = .ok (.iaload, 1) := zsh_g zdk_536 (r := 15) (k := 0) rfl rfl rfl
theorem zd_536_62 : decode prog_14_method_39_code 62 = .ok (.iconst 0, 1) := zsh_g zdk_536 (r := 15) (k := 1) rfl rfl rfl
theorem zd_536_63 : decode prog_14_method_39_code 63 = .ok (.invokevirtual 620, 3) := zsh_g zdk_536 (r := 15) (k := 2) rfl rfl rfl
theorem zd_536_66 : decode prog_14_method_39_code 66 = .ok (.goto (-59), 3) := zsh_g zdk_536 (r := 16) (k := 0) rfl rfl rfl
theorem zd_536_69 : decode prog_14_method_39_code 69 = .ok (.aload_n 0, 1) := zsh_g zdk_536 (r := 17) (k := 0) rfl rfl rfl
theorem zd_536_70 : decode prog_14_method_39_code 70 = .ok (.getfield 244, 3) := zsh_g zdk_536 (r := 17) (k := 1) rfl rfl rfl
theorem zd_536_73 : decode prog_14_method_39_code 73 = .ok (.iload_n 1, 1) := zsh_g zdk_536 (r := 18) (k := 0) rfl rfl rfl
theorem zd_536_74 : decode prog_14_method_39_code 74 = .ok (.iaload, 1) := zsh_g zdk_536 (r := 18) (k := 1) rfl rfl rfl
theorem zd_536_75 : decode prog_14_method_39_code 75 = .ok (.ifCond .le 30, 3) := zsh_g zdk_536 (r := 18) (k := 2) rfl rfl rfl
theorem zd_536_78 : decode prog_14_method_39_code 78 = .ok (.aload_n 0, 1) := zsh_g zdk_536 (r := 19) (k := 0) rfl rfl rfl
theorem zd_536_79 : decode prog_14_method_39_code 79 = .ok (.bipush 10, 2) := zsh_g zdk_536 (r := 19) (k := 1) rfl rfl rfl
theorem zd_536_81 : decode prog_14_method_39_code 81 = .ok (.aload_n 0, 1) := zsh_g zdk_536 (r := 20) (k := 0) rfl rfl rfl
theorem zd_536_82 : decode prog_14_method_39_code 82 = .ok (.getfield 244, 3) := zsh_g zdk_536 (r := 20) (k := 1) rfl rfl rfl
theorem zd_536_85 : decode prog_14_method_39_code 85 = .ok (.iload_n 1, 1) := zsh_g zdk_536 (r := 21) (k := 0) rfl rfl rfl
theorem zd_536_86 : decode prog_14_method_39_code 86 = .ok (.iaload, 1) := zsh_g zdk_536 (r := 21) (k := 1) rfl rfl rfl
theorem zd_536_87 : decode prog_14_method_39_code 87 = .ok (.iconst 0, 1) := zsh_g zdk_536 (r := 21) (k := 2) rfl rfl rfl
theorem zd_536_88 : decode prog_14_method_39_code 88 = .ok (.aload_n 0, 1) := zsh_g zdk_536 (r := 22) (k := 0) rfl rfl rfl
theorem zd_536_89 : decode prog_14_method_39_code 89 = .ok (.getfield 235, 3) := zsh_g zdk_536 (r := 22) (k := 1) rfl rfl rfl
theorem zd_536_92 : decode prog_14_method_39_code 92 = .ok (.iload_n 1, 1) := zsh_g zdk_536 (r := 23) (k := 0) rfl rfl rfl
theorem zd_536_93 : decode prog_14_method_39_code 93 = .ok (.iaload, 1) := zsh_g zdk_536 (r := 23) (k := 1) rfl rfl rfl
theorem zd_536_94 : decode prog_14_method_39_code 94 = .ok (.iconst 0, 1) := zsh_g zdk_536 (r := 23) (k := 2) rfl rfl rfl
theorem zd_536_95 : decode prog_14_method_39_code 95 = .ok (.invokevirtual 620, 3) := zsh_g zdk_536 (r := 23) (k := 3) rfl rfl rfl
theorem zd_536_98 : decode prog_14_method_39_code 98 = .ok (.aload_n 0, 1) := zsh_g zdk_536 (r := 24) (k := 0) rfl rfl rfl
theorem zd_536_99 : decode prog_14_method_39_code 99 = .ok (.getfield 244, 3) := zsh_g zdk_536 (r := 24) (k := 1) rfl rfl rfl
theorem zd_536_102 : decode prog_14_method_39_code 102 = .ok (.iload_n 1, 1) := zsh_g zdk_536 (r := 25) (k := 0) rfl rfl rfl
theorem zd_536_103 : decode prog_14_method_39_code 103 = .ok (.iconst 0, 1) := zsh_g zdk_536 (r := 25) (k := 1) rfl rfl rfl
theorem zd_536_104 : decode prog_14_method_39_code 104 = .ok (.iastore, 1) := zsh_g zdk_536 (r := 26) (k := 0) rfl rfl rfl
theorem zd_536_105 : decode prog_14_method_39_code 105 = .ok (.aload_n 0, 1) := zsh_g zdk_536 (r := 26) (k := 1) rfl rfl rfl
theorem zd_536_106 : decode prog_14_method_39_code 106 = .ok (.getfield 572, 3) := zsh_g zdk_536 (r := 26) (k := 2) rfl rfl rfl
theorem zd_536_109 : decode prog_14_method_39_code 109 = .ok (.ifCond .eq 7, 3) := zsh_g zdk_536 (r := 27) (k := 0) rfl rfl rfl
theorem zd_536_112 : decode prog_14_method_39_code 112 = .ok (.iconst 0, 1) := zsh_g zdk_536 (r := 28) (k := 0) rfl rfl rfl
theorem zd_536_113 : decode prog_14_method_39_code 113 = .ok (.goto 12, 3) := zsh_g zdk_536 (r := 28) (k := 1) rfl rfl rfl
theorem zd_536_116 : decode prog_14_method_39_code 116 = .ok (.aload_n 0, 1) := zsh_g zdk_536 (r := 29) (k := 0) rfl rfl rfl
theorem zd_536_117 : decode prog_14_method_39_code 117 = .ok (.getfield 172, 3) := zsh_g zdk_536 (r := 29) (k := 1) rfl rfl rfl
theorem zd_536_120 : decode prog_14_method_39_code 120 = .ok (.aload_n 0, 1) := zsh_g zdk_536 (r := 30) (k := 0) rfl rfl rfl
theorem zd_536_121 : decode prog_14_method_39_code 121 = .ok (.getfield 576, 3) := zsh_g zdk_536 (r := 30) (k := 1) rfl rfl rfl
theorem zd_536_124 : decode prog_14_method_39_code 124 = .ok (.iaload, 1) := zsh_g zdk_536 (r := 31) (k := 0) rfl rfl rfl
theorem zd_536_125 : decode prog_14_method_39_code 125 = .ok (.istore_n 2, 1) := zsh_g zdk_536 (r := 31) (k := 1) rfl rfl rfl
theorem zd_536_126 : decode prog_14_method_39_code 126 = .ok (.iload_n 2, 1) := zsh_g zdk_536 (r := 31) (k := 2) rfl rfl rfl
theorem zd_536_127 : decode prog_14_method_39_code 127 = .ok (.invokestatic 649, 3) := zsh_g zdk_536 (r := 31) (k := 3) rfl rfl rfl
theorem zd_536_130 : decode prog_14_method_39_code 130 = .ok (.ifCond .eq 22, 3) := zsh_g zdk_536 (r := 32) (k := 0) rfl rfl rfl
theorem zd_536_133 : decode prog_14_method_39_code 133 = .ok (.aload_n 0, 1) := zsh_g zdk_536 (r := 33) (k := 0) rfl rfl rfl
theorem zd_536_134 : decode prog_14_method_39_code 134 = .ok (.getfield 244, 3) := zsh_g zdk_536 (r := 33) (k := 1) rfl rfl rfl
theorem zd_536_137 : decode prog_14_method_39_code 137 = .ok (.iload_n 1, 1) := zsh_g zdk_536 (r := 34) (k := 0) rfl rfl rfl
theorem zd_536_138 : decode prog_14_method_39_code 138 = .ok (.iload_n 2, 1) := zsh_g zdk_536 (r := 34) (k := 1) rfl rfl rfl
theorem zd_536_139 : decode prog_14_method_39_code 139 = .ok (.iastore, 1) := zsh_g zdk_536 (r := 34) (k := 2) rfl rfl rfl
theorem zd_536_140 : decode prog_14_method_39_code 140 = .ok (.aload_n 0, 1) := zsh_g zdk_536 (r := 35) (k := 0) rfl rfl rfl
theorem zd_536_141 : decode prog_14_method_39_code 141 = .ok (.dup, 1) := zsh_g zdk_536 (r := 35) (k := 1) rfl rfl rfl
theorem zd_536_142 : decode prog_14_method_39_code 142 = .ok (.getfield 576, 3) := zsh_g zdk_536 (r := 35) (k := 2) rfl rfl rfl
theorem zd_536_145 : decode prog_14_method_39_code 145 = .ok (.iconst 1, 1) := zsh_g zdk_536 (r := 36) (k := 0) rfl rfl rfl
theorem zd_536_146 : decode prog_14_method_39_code 146 = .ok (.iadd, 1) := zsh_g zdk_536 (r := 36) (k := 1) rfl rfl rfl
theorem zd_536_147 : decode prog_14_method_39_code 147 = .ok (.putfield 576, 3) := zsh_g zdk_536 (r := 36) (k := 2) rfl rfl rfl
theorem zd_536_150 : decode prog_14_method_39_code 150 = .ok (.iconst 1, 1) := zsh_g zdk_536 (r := 37) (k := 0) rfl rfl rfl
theorem zd_536_152 : decode prog_14_method_39_code 152 = .ok (.aload_n 0, 1) := zsh_g zdk_536 (r := 38) (k := 0) rfl rfl rfl
theorem zd_536_153 : decode prog_14_method_39_code 153 = .ok (.getfield 241, 3) := zsh_g zdk_536 (r := 38) (k := 1) rfl rfl rfl
theorem zd_536_156 : decode prog_14_method_39_code 156 = .ok (.iload_n 1, 1) := zsh_g zdk_536 (r := 39) (k := 0) rfl rfl rfl
theorem zd_536_157 : decode prog_14_method_39_code 157 = .ok (.iaload, 1) := zsh_g zdk_536 (r := 39) (k := 1) rfl rfl rfl
theorem zd_536_158 : decode prog_14_method_39_code 158 = .ok (.ifCond .le 30, 3) := zsh_g zdk_536 (r := 39) (k := 2) rfl rfl rfl
theorem zd_536_161 : decode prog_14_method_39_code 161 = .ok (.aload_n 0, 1) := zsh_g zdk_536 (r := 40) (k := 0) rfl rfl rfl
theorem zd_536_162 : decode prog_14_method_39_code 162 = .ok (.bipush 10, 2) := zsh_g zdk_536 (r := 40) (k := 1) rfl rfl rfl
theorem zd_536_164 : decode prog_14_method_39_code 164 = .ok (.aload_n 0, 1) := zsh_g zdk_536 (r := 41) (k := 0) rfl rfl rfl
theorem zd_536_165 : decode prog_14_method_39_code 165 = .ok (.getfield 241, 3) := zsh_g zdk_536 (r := 41) (k := 1) rfl rfl rfl
theorem zd_536_168 : decode prog_14_method_39_code 168 = .ok (.iload_n 1, 1) := zsh_g zdk_536 (r := 42) (k := 0) rfl rfl rfl
theorem zd_536_169 : decode prog_14_method_39_code 169 = .ok (.iaload, 1) := zsh_g zdk_536 (r := 42) (k := 1) rfl rfl rfl
theorem zd_536_170 : decode prog_14_method_39_code 170 = .ok (.iconst 0, 1) := zsh_g zdk_536 (r := 42) (k := 2) rfl rfl rfl
theorem zd_536_171 : decode prog_14_method_39_code 171 = .ok (.aload_n 0, 1) := zsh_g zdk_536 (r := 42) (k := 3) rfl rfl rfl
theorem zd_536_172 : decode prog_14_method_39_code 172 = .ok (.getfield 232, 3) := zsh_g zdk_536 (r := 43) (k := 0) rfl rfl rfl
theorem zd_536_175 : decode prog_14_method_39_code 175 = .ok (.iload_n 1, 1) := zsh_g zdk_536 (r := 43) (k := 1) rfl rfl rfl
theorem zd_536_176 : decode prog_14_method_39_code 176 = .ok (.iaload, 1) := zsh_g zdk_536 (r := 44) (k := 0) rfl rfl rfl
theorem zd_536_177 : decode prog_14_method_39_code 177 = .ok (.iconst 0, 1) := zsh_g zdk_536 (r := 44) (k := 1) rfl rfl rfl
theorem zd_536_178 : decode prog_14_method_39_code 178 = .ok (.invokevirtual 620, 3) := zsh_g zdk_536 (r := 44) (k := 2) rfl rfl rfl
theorem zd_536_181 : decode prog_14_method_39_code 181 = .ok (.aload_n 0, 1) := zsh_g zdk_536 (r := 45) (k := 0) rfl rfl rfl
theorem zd_536_182 : decode prog_14_method_39_code 182 = .ok (.getfield 241, 3) := zsh_g zdk_536 (r := 45) (k := 1) rfl rfl rfl
theorem zd_536_185 : decode prog_14_method_39_code 185 = .ok (.iload_n 1, 1) := zsh_g zdk_536 (r := 46) (k := 0) rfl rfl rfl
theorem zd_536_186 : decode prog_14_method_39_code 186 = .ok (.iconst 0, 1) := zsh_g zdk_536 (r := 46) (k := 1) rfl rfl rfl
theorem zd_536_187 : decode prog_14_method_39_code 187 = .ok (.iastore, 1) := zsh_g zdk_536 (r := 46) (k := 2) rfl rfl rfl
theorem zd_536_188 : decode prog_14_method_39_code 188 = .ok (.iload_n 2, 1) := zsh_g zdk_536 (r := 47) (k := 0) rfl rfl rfl
theorem zd_536_189 : decode prog_14_method_39_code 189 = .ok (.invokestatic 652, 3) := zsh_g zdk_536 (r := 47) (k := 1) rfl rfl rfl
theorem zd_536_192 : decode prog_14_method_39_code 192 = .ok (.ifCond .eq 36, 3) := zsh_g zdk_536 (r := 48) (k := 0) rfl rfl rfl
theorem zd_536_195 : decode prog_14_method_39_code 195 = .ok (.aload_n 0, 1) := zsh_g zdk_536 (r := 48) (k := 1) rfl rfl rfl
theorem zd_536_196 : decode prog_14_method_39_code 196 = .ok (.getfield 241, 3) := zsh_g zdk_536 (r := 49) (k := 0) rfl rfl rfl
theorem zd_536_199 : decode prog_14_method_39_code 199 = .ok (.iload_n 1, 1) := zsh_g zdk_536 (r := 49) (k := 1) rfl rfl rfl
theorem zd_536_200 : decode prog_14_method_39_code 200 = .ok (.iload_n 2, 1) := zsh_g zdk_536 (r := 50) (k := 0) rfl rfl rfl
theorem zd_536_201 : decode prog_14_method_39_code 201 = .ok (.iastore, 1) := zsh_g zdk_536 (r := 50) (k := 1) rfl rfl rfl
theorem zd_536_202 : decode prog_14_method_39_code 202 = .ok (.aload_n 0, 1) := zsh_g zdk_536 (r := 50) (k := 2) rfl rfl rfl
theorem zd_536_203 : decode prog_14_method_39_code 203 = .ok (.getfield 235, 3) := zsh_g zdk_536 (r := 50) (k := 3) rfl rfl rfl
theorem zd_536_206 : decode prog_14_method_39_code 206 = .ok (.iload_n 1, 1) := zsh_g zdk_536 (r := 51) (k := 0) rfl rfl rfl
theorem zd_536_207 : decode prog_14_method_39_code 207 = .ok (.aload_n 0, 1) := zsh_g zdk_536 (r := 51) (k := 1) rfl rfl rfl
theorem zd_536_208 : decode prog_14_method_39_code 208 = .ok (.getfield 232, 3) := zsh_g zdk_536 (r := 52) (k := 0) rfl rfl rfl
theorem zd_536_211 : decode prog_14_method_39_code 211 = .ok (.iload_n 1, 1) := zsh_g zdk_536 (r := 52) (k := 1) rfl rfl rfl
theorem zd_536_212 : decode prog_14_method_39_code 212 = .ok (.iaload, 1) := zsh_g zdk_536 (r := 53) (k := 0) rfl rfl rfl
theorem zd_536_213 : decode prog_14_method_39_code 213 = .ok (.iconst 1, 1) := zsh_g zdk_536 (r := 53) (k := 1) rfl rfl rfl
theorem zd_536_214 : decode prog_14_method_39_code 214 = .ok (.iadd, 1) := zsh_g zdk_536 (r := 53) (k := 2) rfl rfl rfl
theorem zd_536_215 : decode prog_14_method_39_code 215 = .ok (.iastore, 1) := zsh_g zdk_536 (r := 53) (k := 3) rfl rfl rfl
theorem zd_536_216 : decode prog_14_method_39_code 216 = .ok (.aload_n 0, 1) := zsh_g zdk_536 (r := 54) (k := 0) rfl rfl rfl
theorem zd_536_217 : decode prog_14_method_39_code 217 = .ok (.dup, 1) := zsh_g zdk_536 (r := 54) (k := 1) rfl rfl rfl
theorem zd_536_218 : decode prog_14_method_39_code 218 = .ok (.getfield 576, 3) := zsh_g zdk_536 (r := 54) (k := 2) rfl rfl rfl
theorem zd_536_221 : decode prog_14_method_39_code 221 = .ok (.iconst 1, 1) := zsh_g zdk_536 (r := 55) (k := 0) rfl rfl rfl
theorem zd_536_222 : decode prog_14_method_39_code 222 = .ok (.iadd, 1) := zsh_g zdk_536 (r := 55) (k := 1) rfl rfl rfl
theorem zd_536_223 : decode prog_14_method_39_code 223 = .ok (.putfield 576, 3) := zsh_g zdk_536 (r := 55) (k := 2) rfl rfl rfl
theorem zd_536_226 : decode prog_14_method_39_code 226 = .ok (.iconst 1, 1) := zsh_g zdk_536 (r := 56) (k := 0) rfl rfl rfl
theorem zd_536_228 : decode prog_14_method_39_code 228 = .ok (.iload_n 2, 1) := zsh_g zdk_536 (r := 57) (k := 0) rfl rfl rfl
theorem zd_536_229 : decode prog_14_method_39_code 229 = .ok (.invokestatic 655, 3) := zsh_g zdk_536 (r := 57) (k := 1) rfl rfl rfl
theorem zd_536_232 : decode prog_14_method_39_code 232 = .ok (.ifCond .eq 57, 3) := zsh_g zdk_536 (r := 58) (k := 0) rfl rfl rfl
theorem zd_536_235 : decode prog_14_method_39_code 235 = .ok (.aload_n 0, 1) := zsh_g zdk_536 (r := 58) (k := 1) rfl rfl rfl
theorem zd_536_236 : decode prog_14_method_39_code 236 = .ok (.getfield 238, 3) := zsh_g zdk_536 (r := 59) (k := 0) rfl rfl rfl
theorem zd_536_239 : decode prog_14_method_39_code 239 = .ok (.iload_n 1, 1) := zsh_g zdk_536 (r := 59) (k := 1) rfl rfl rfl
theorem zd_536_240 : decode prog_14_method_39_code 240 = .ok (.iaload, 1) := zsh_g zdk_536 (r := 60) (k := 0) rfl rfl rfl
theorem zd_536_241 : decode prog_14_method_39_code 241 = .ok (.ifCond .ne 48, 3) := zsh_g zdk_536 (r := 60) (k := 1) rfl rfl rfl
theorem zd_536_244 : decode prog_14_method_39_code 244 = .ok (.aload_n 0, 1) := zsh_g zdk_536 (r := 61) (k := 0) rfl rfl rfl
theorem zd_536_245 : decode prog_14_method_39_code 245 = .ok (.getfield 238, 3) := zsh_g zdk_536 (r := 61) (k := 1) rfl rfl rfl
theorem zd_536_248 : decode prog_14_method_39_code 248 = .ok (.iload_n 1, 1) := zsh_g zdk_536 (r := 62) (k := 0) rfl rfl rfl
theorem zd_536_249 : decode prog_14_method_39_code 249 = .ok (.iload_n 2, 1) := zsh_g zdk_536 (r := 62) (k := 1) rfl rfl rfl
theorem zd_536_250 : decode prog_14_method_39_code 250 = .ok (.iastore, 1) := zsh_g zdk_536 (r := 62) (k := 2) rfl rfl rfl
theorem zd_536_251 : decode prog_14_method_39_code 251 = .ok (.aload_n 0, 1) := zsh_g zdk_536 (r := 62) (k := 3) rfl rfl rfl
theorem zd_536_252 : decode prog_14_method_39_code 252 = .ok (.getfield 232, 3) := zsh_g zdk_536 (r := 63) (k := 0) rfl rfl rfl
theorem zd_536_255 : decode prog_14_method_39_code 255 = .ok (.iload_n 1, 1) := zsh_g zdk_536 (r := 63) (k := 1) rfl rfl rfl
theorem zd_536_256 : decode prog_14_method_39_code 256 = .ok (.aload_n 0, 1) := zsh_g zdk_536 (r := 64) (k := 0) rfl rfl rfl
theorem zd_536_257 : decode prog_14_method_39_code 257 = .ok (.getfield 229, 3) := zsh_g zdk_536 (r := 64) (k := 1) rfl rfl rfl
theorem zd_536_260 : decode prog_14_method_39_code 260 = .ok (.iload_n 1, 1) := zsh_g zdk_536 (r := 65) (k := 0) rfl rfl rfl
theorem zd_536_261 : decode prog_14_method_39_code 261 = .ok (.iaload, 1) := zsh_g zdk_536 (r := 65) (k := 1) rfl rfl rfl
theorem zd_536_262 : decode prog_14_method_39_code 262 = .ok (.iconst 1, 1) := zsh_g zdk_536 (r := 65) (k := 2) rfl rfl rfl
theorem zd_536_263 : decode prog_14_method_39_code 263 = .ok (.iadd, 1) := zsh_g zdk_536 (r := 65) (k := 3) rfl rfl rfl
theorem zd_536_264 : decode prog_14_method_39_code 264 = .ok (.iastore, 1) := zsh_g zdk_536 (r := 66) (k := 0) rfl rfl rfl
theorem zd_536_265 : decode prog_14_method_39_code 265 = .ok (.aload_n 0, 1) := zsh_g zdk_536 (r := 66) (k := 1) rfl rfl rfl
theorem zd_536_266 : decode prog_14_method_39_code 266 = .ok (.getfield 235, 3) := zsh_g zdk_536 (r := 66) (k := 2) rfl rfl rfl
theorem zd_536_269 : decode prog_14_method_39_code 269 = .ok (.iload_n 1, 1) := zsh_g zdk_536 (r := 67) (k := 0) rfl rfl rfl
theorem zd_536_270 : decode prog_14_method_39_code 270 = .ok (.aload_n 0, 1) := zsh_g zdk_536 (r := 67) (k := 1) rfl rfl rfl
theorem zd_536_271 : decode prog_14_method_39_code 271 = .ok (.getfield 232, 3) := zsh_g zdk_536 (r := 67) (k := 2) rfl rfl rfl
theorem zd_536_274 : decode prog_14_method_39_code 274 = .ok (.iload_n 1, 1) := zsh_g zdk_536 (r := 68) (k := 0) rfl rfl rfl
theorem zd_536_275 : decode prog_14_method_39_code 275 = .ok (.iaload, 1) := zsh_g zdk_536 (r := 68) (k := 1) rfl rfl rfl
theorem zd_536_276 : decode prog_14_method_39_code 276 = .ok (.iastore, 1) := zsh_g zdk_536 (r := 69) (k := 0) rfl rfl rfl
theorem zd_536_277 : decode prog_14_method_39_code 277 = .ok (.aload_n 0, 1) := zsh_g zdk_536 (r := 69) (k := 1) rfl rfl rfl
theorem zd_536_278 : decode prog_14_method_39_code 278 = .ok (.dup, 1) := zsh_g zdk_536 (r := 69) (k := 2) rfl rfl rfl
theorem zd_536_279 : decode prog_14_method_39_code 279 = .ok (.getfield 576, 3) := zsh_g zdk_536 (r := 69) (k := 3) rfl rfl rfl
theorem zd_536_282 : decode prog_14_method_39_code 282 = .ok (.iconst 1, 1) := zsh_g zdk_536 (r := 70) (k := 0) rfl rfl rfl
theorem zd_536_283 : decode prog_14_method_39_code 283 = .ok (.iadd, 1) := zsh_g zdk_536 (r := 70) (k := 1) rfl rfl rfl
theorem zd_536_284 : decode prog_14_method_39_code 284 = .ok (.putfield 576, 3) := zsh_g zdk_536 (r := 71) (k := 0) rfl rfl rfl
theorem zd_536_287 : decode prog_14_method_39_code 287 = .ok (.iconst 1, 1) := zsh_g zdk_536 (r := 71) (k := 1) rfl rfl rfl
theorem zd_536_289 : decode prog_14_method_39_code 289 = .ok (.aload_n 0, 1) := zsh_g zdk_536 (r := 72) (k := 0) rfl rfl rfl
theorem zd_536_290 : decode prog_14_method_39_code 290 = .ok (.getfield 238, 3) := zsh_g zdk_536 (r := 72) (k := 1) rfl rfl rfl
theorem zd_536_293 : decode prog_14_method_39_code 293 = .ok (.iload_n 1, 1) := zsh_g zdk_536 (r := 73) (k := 0) rfl rfl rfl
theorem zd_536_294 : decode prog_14_method_39_code 294 = .ok (.iaload, 1) := zsh_g zdk_536 (r := 73) (k := 1) rfl rfl rfl
theorem zd_536_295 : decode prog_14_method_39_code 295 = .ok (.ifCond .le 23, 3) := zsh_g zdk_536 (r := 73) (k := 2) rfl rfl rfl
theorem zd_536_298 : decode prog_14_method_39_code 298 = .ok (.aload_n 0, 1) := zsh_g zdk_536 (r := 74) (k := 0) rfl rfl rfl
theorem zd_536_299 : decode prog_14_method_39_code 299 = .ok (.bipush 10, 2) := zsh_g zdk_536 (r := 74) (k := 1) rfl rfl rfl
theorem zd_536_301 : decode prog_14_method_39_code 301 = .ok (.aload_n 0, 1) := zsh_g zdk_536 (r := 75) (k := 0) rfl rfl rfl
theorem zd_536_302 : decode prog_14_method_39_code 302 = .ok (.getfield 238, 3) := zsh_g zdk_536 (r := 75) (k := 1) rfl rfl rfl
theorem zd_536_305 : decode prog_14_method_39_code 305 = .ok (.iload_n 1, 1) := zsh_g zdk_536 (r := 76) (k := 0) rfl rfl rfl
theorem zd_536_306 : decode prog_14_method_39_code 306 = .ok (.iaload, 1) := zsh_g zdk_536 (r := 76) (k := 1) rfl rfl rfl
theorem zd_536_307 : decode prog_14_method_39_code 307 = .ok (.iconst 0, 1) := zsh_g zdk_536 (r := 76) (k := 2) rfl rfl rfl
theorem zd_536_308 : decode prog_14_method_39_code 308 = .ok (.aload_n 0, 1) := zsh_g zdk_536 (r := 77) (k := 0) rfl rfl rfl
theorem zd_536_309 : decode prog_14_method_39_code 309 = .ok (.getfield 229, 3) := zsh_g zdk_536 (r := 77) (k := 1) rfl rfl rfl
theorem zd_536_312 : decode prog_14_method_39_code 312 = .ok (.iload_n 1, 1) := zsh_g zdk_536 (r := 78) (k := 0) rfl rfl rfl
theorem zd_536_313 : decode prog_14_method_39_code 313 = .ok (.iaload, 1) := zsh_g zdk_536 (r := 78) (k := 1) rfl rfl rfl
theorem zd_536_314 : decode prog_14_method_39_code 314 = .ok (.iconst 0, 1) := zsh_g zdk_536 (r := 78) (k := 2) rfl rfl rfl
theorem zd_536_315 : decode prog_14_method_39_code 315 = .ok (.invokevirtual 620, 3) := zsh_g zdk_536 (r := 78) (k := 3) rfl rfl rfl
theorem zd_536_318 : decode prog_14_method_39_code 318 = .ok (.iconst 0, 1) := zsh_g zdk_536 (r := 79) (k := 0) rfl rfl rfl
def zdl_537 : List (List (Nat × Instr × Nat)) := [[(0, (.aload_n 0), 1), (1, (.getfield 604), 3)], [(0, (.iconst 1), 1), (1, .isub, 1), (2, (.istore_n 1), 1), (3, (.aload_n 0), 1)], [(0, (.getfield 259), 3), (3, (.iload_n 1), 1)], [(0, .iaload, 1), (1, (.istore_n 2), 1), (2, (.aload_n 0), 1), (3, (.getfield 226), 3)], [(2, (.iload_n 1), 1), (3, .iaload, 1)], [], [], [], [], [], [], [], [(0, (.aload_n 0), 1), (1, .dup, 1), (2, (.getfield 604), 3)], [(1, (.iconst 1), 1), (2, .isub, 1), (3, (.putfield 604), 3)], [(2, (.iconst 2), 1)], [(0, (.aload_n 0), 1), (1, (.bipush 41), 2), (3, (.invokevirtual 631), 3)], [(2, (.aload_n 0), 1), (3, .dup, 1)], [(0, (.getfield 601), 3), (3, (.iconst 1), 1)], [(0, .isub, 1), (1, (.putfield 601), 3)], [(0, (.aload_n 0), 1), (1, .dup, 1), (2, (.getfield 604), 3)], [(1, (.iconst 1), 1), (2, .isub, 1), (3, (.putfield 604), 3)], [(2, (.iconst 1), 1)], [(0, (.aload_n 0), 1), (1, (.aload_n 0), 1), (2, (.getfield 250), 3)], [(1, (.iload_n 1), 1), (2, .iaload, 1), (3, (.iconst 2), 1)], [(0, (.aload_n 0), 1), (1, (.getfield 253), 3)], [(0, (.iload_n 1), 1), (1, .iaload, 1), (2, (.invokevirtual 613), 3)], [(1, (.istore_n 3), 1), (2, (.aload_n 0), 1), (3, (.bipush 93), 2)], [(1, (.invokevirtual 631), 3)], [(0, (.aload_n 0), 1), (1, .dup, 1), (2, (.getfield 601), 3)], [(1, (.iconst 1), 1), (2, .isub, 1), (3, (.putfield 601), 3)], [(2, (.aload_n 0), 1), (3, (.bipush 6), 2)], [(1, (.aload_n 0), 1), (2, (.getfield 250), 3)], [(1, (.iload_n 1), 1), (2, .iaload, 1), (3, (.aload_n 0), 1)], [(0, (.iload_n 3), 1), (1, (.invokevirtual 642), 3)], [(0, (.iload_n 2), 1), (1, (.aload_n 0), 1), (2, (.iload_n 3), 1), (3, (.invokevirtual 658), 3)], [(2, (.invokevirtual 620), 3)], [(1, (.aload_n 0), 1), (2, (.bipush 7), 2)], [(0, (.aload_n 0), 1), (1, (.getfield 250), 3)], [(0, (.iload_n 1), 1), (1, .iaload, 1), (2, (.aload_n 0), 1), (3, (.iload_n 3), 1)], [(0, (.invokevirtual 642), 3), (3, (.iload_n 2), 1)], [(0, (.iconst 0), 1), (1, (.invokevirtual 620), 3)], [(0, (.aload_n 0), 1), (1, .dup, 1), (2, (.getfield 604), 3)], [(1, (.iconst 1), 1), (2, .isub, 1), (3, (.putfield 604), 3)], [(2, (.iconst 1), 1)], [(0, (.aload_n 0), 1), (1, (.getfield 256), 3)], [(0, (.iload_n 1), 1), (1, .dup2, 1), (2, .iaload, 1), (3, (.iconst 1), 1)], [(0, .iadd, 1), (1, .iastore, 1), (2, (.aload_n 0), 1), (3, (.bipush 44), 2)], [(1, (.invokevirtual 583), 3)], [(0, (.ifCond .eq 37), 3), (3, (.aload_n 0), 1)], [(0, (.getfield 256), 3), (3, (.iload_n 1), 1)], [(0, .iaload, 1), (1, (.iconst 4), 1), (2, (.if_icmp .ge 27), 3)], [(1, (.aload_n 0), 1), (2, .dup, 1), (3, (.getfield 576), 3)], [(2, (.iconst 1), 1), (3, .iadd, 1)], [(0, (.putfield 576), 3), (3, (.aload_n 0), 1)], [(0, (.iload_n 2), 1), (1, (.aload_n 0), 1), (2, (.getfield 256), 3)], [(1, (.iload_n 1), 1), (2, .iaload, 1), (3, .iadd, 1)], [(0, (.invokevirtual 607), 3), (3, (.iconst 0), 1)], [(1, (.aload_n 0), 1), (2, (.bipush 41), 2)], [(0, (.invokevirtual 631), 3), (3, (.aload_n 0), 1)], [(0, .dup, 1), (1, (.getfield 601), 3)], [(0, (.iconst 1), 1), (1, .isub, 1), (2, (.putfield 601), 3)], [(1, (.aload_n 0), 1), (2, (.aload_n 0), 1), (3, (.getfield 250), 3)], [(2, (.iload_n 1), 1), (3, .iaload, 1)], [(0, (.aload_n 0), 1), (1, (.getfield 253), 3)], [(0, (.iload_n 1), 1), (1, .iaload, 1), (2, (.aload_n 0), 1), (3, (.getfield 256), 3)], [(2, (.iload_n 1), 1), (3, .iaload, 1)], [(0, (.iload_n 2), 1), (1, (.aload_n 0), 1), (2, (.getfield 262), 3)], [(1, (.iload_n 1), 1), (2, .baload, 1), (3, (.invokevirtual 645), 3)], [(2, (.aload_n 0), 1), (3, .dup, 1)], [(0, (.getfield 604), 3), (3, (.iconst 1), 1)], [(0, .isub, 1), (1, (.putfield 604), 3)], [(0, (.aload_n 0), 1), (1, (.getfield 262), 3)], [(0, (.iload_n 1), 1), (1, .baload, 1), (2, (.ifCond .eq 7), 3)], [(1, (.iconst 2), 1), (2, (.goto 4), 3)], [(1, (.iconst 1), 1)]]
theorem zdk_537 : zsh_all 8 zdl_537 prog_14_method_40_code.data.toList = true := by decide +kernel
theorem zd_537_0 : decode prog_14_method_40_code 0 = .ok (.aload_n 0, 1) := zsh_g zdk_537 (r := 0) (k := 0) rfl rfl rfl
theorem zd_537_1 : decode prog_14_method_40_code 1 = .ok (.getfield 604, 3) := zsh_g zdk_537 (r := 0) (k := 1) rfl rfl rfl
theorem zd_537_4 : decode prog_14_method_40_code 4 = .ok (.iconst 1, 1) := zsh_g zdk_537 (r := 1) (k := 0) rfl rfl rfl
theorem zd_537_5 : decode prog_14_method_40_code 5 = .ok (.isub, 1) := zsh_g zdk_537 (r := 1) (k := 1) rfl rfl rfl
theorem zd_537_6 : decode prog_14_method_40_code 6 = .ok (.istore_n 1, 1) := zsh_g zdk_537 (r := 1) (k := 2) rfl rfl rfl
theorem zd_537_7 : decode prog_14_method_40_code 7 = .ok (.aload_n 0, 1) := zsh_g zdk_537 (r := 1) (k := 3) rfl rfl rfl
theorem zd_537_8 : decode prog_14_method_40_code 8 = .ok (.getfield 259, 3) := zsh_g zdk_537 (r := 2) (k := 0) rfl rfl rfl
theorem zd_537_11 : decode prog_14_method_40_code 11 = .ok (.iload_n 1, 1) := zsh_g zdk_537 (r := 2) (k := 1) rfl rfl rfl
theorem zd_537_12 : decode prog_14_method_40_code 12 = .ok (.iaload, 1) := zsh_g zdk_537 (r := 3) (k := 0) rfl rfl rfl
theorem zd_537_13 : decode prog_14_method_40_code 13 = .ok (.istore_n 2, 1) := zsh_g zdk_537 (r := 3) (k := 1) rfl rfl rfl
theorem zd_537_14 : decode prog_14_method_40_code 14 = .ok (.aload_n 0, 1) := zsh_g zdk_537 (r := 3) (k := 2) rfl rfl rfl
theorem zd_537_15 : decode prog_14_method_40_code 15 = .ok (.getfield 226, 3) := zsh_g zdk_537 (r := 3) (k := 3) rfl rfl rfl
theorem zd_537_18 : decode prog_14_method_40_code 18 = .ok (.iload_n 1, 1) := zsh_g zdk_537 (r := 4) (k := 0) rfl rfl rfl
theorem zd_537_19 : decode prog_14_method_40_code 19 = .ok (.iaload, 1) := zsh_g zdk_537 (r := 4) (k := 1) rfl rfl rfl
theorem zd_537_48 : decode prog_14_method_40_code 48 = .ok (.aload_n 0, 1) := zsh_g zdk_537 (r := 12) (k := 0) rfl rfl rfl
theorem zd_537_49 : decode prog_14_method_40_code 49 = .ok (.dup, 1) := zsh_g zdk_537 (r := 12) (k := 1) rfl rfl rfl
theorem zd_537_50 : decode prog_14_method_40_code 50 = .ok (.getfield 604, 3) := zsh_g zdk_537 (r := 12) (k := 2) rfl rfl rfl
theorem zd_537_53 : decode prog_14_method_40_code 53 = .ok (.iconst 1, 1) := zsh_g zdk_537 (r := 13) (k := 0) rfl rfl rfl
theorem zd_537_54 : decode prog_14_method_40_code 54 = .ok (.isub, 1) := zsh_g zdk_537 (r := 13) (k := 1) rfl rfl rfl
theorem zd_537_55 : decode prog_14_method_40_code 55 = .ok (.putfield 604, 3) := zsh_g zdk_537 (r := 13) (k := 2) rfl rfl rfl
theorem zd_537_58 : decode prog_14_method_40_code 58 = .ok (.iconst 2, 1) := zsh_g zdk_537 (r := 14) (k := 0) rfl rfl rfl
theorem zd_537_60 : decode prog_14_method_40_code 60 = .ok (.aload_n 0, 1) := zsh_g zdk_537 (r := 15) (k := 0) rfl rfl rfl
theorem zd_537_61 : decode prog_14_method_40_code 61 = .ok (.bipush 41, 2) := zsh_g zdk_537 (r := 15) (k := 1) rfl rfl rfl
theorem zd_537_63 : decode prog_14_method_40_code 63 = .ok (.invokevirtual 631, 3) := zsh_g zdk_537 (r := 15) (k := 2) rfl rfl rfl
theorem zd_537_66 : decode prog_14_method_40_code 66 = .ok (.aload_n 0, 1) := zsh_g zdk_537 (r := 16) (k := 0) rfl rfl rfl
theorem zd_537_67 : decode prog_14_method_40_code 67 = .ok (.dup, 1) := zsh_g zdk_537 (r := 16) (k := 1) rfl rfl rfl
theorem zd_537_68 : decode prog_14_method_40_code 68 = .ok (.getfield 601, 3) := zsh_g zdk_537 (r := 17) (k := 0) rfl rfl rfl
theorem zd_537_71 : decode prog_14_method_40_code 71 = .ok (.iconst 1, 1) := zsh_g zdk_537 (r := 17) (k := 1) rfl rfl rfl
theorem zd_537_72 : decode prog_14_method_40_code 72 = .ok (.isub, 1) := zsh_g zdk_537 (r := 18) (k := 0) rfl rfl rfl
theorem zd_537_73 : decode prog_14_method_40_code 73 = .ok (.putfield 601, 3) := zsh_g zdk_537 (r := 18) (k := 1) rfl rfl rfl
theorem zd_537_76 : decode prog_14_method_40_code 76 = .ok (.aload_n 0, 1) := zsh_g zdk_537 (r := 19) (k := 0) rfl rfl rfl
theorem zd_537_77 : decode prog_14_method_40_code 77 = .ok (.dup, 1) := zsh_g zdk_537 (r := 19) (k := 1) rfl rfl rfl
theorem zd_537_78 : decode prog_14_method_40_code 78 = .ok (.getfield 604, 3) := zsh_g zdk_537 (r := 19) (k := 2) rfl rfl rfl
theorem zd_537_81 : decode prog_14_method_40_code 81 = .ok (.iconst 1, 1) := zsh_g zdk_537 (r := 20) (k := 0) rfl rfl rfl
theorem zd_537_82 : decode prog_14_method_40_code 82 = .ok (.isub, 1) := zsh_g zdk_537 (r := 20) (k := 1) rfl rfl rfl
theorem zd_537_83 : decode prog_14_method_40_code 83 = .ok (.putfield 604, 3) := zsh_g zdk_537 (r := 20) (k := 2) rfl rfl rfl
theorem zd_537_86 : decode prog_14_method_40_code 86 = .ok (.iconst 1, 1) := zsh_g zdk_537 (r := 21) (k := 0) rfl rfl rfl
theorem zd_537_88 : decode prog_14_method_40_code 88 = .ok (.aload_n 0, 1) := zsh_g zdk_537 (r := 22) (k := 0) rfl rfl rfl
theorem zd_537_89 : decode prog_14_method_40_code 89 = .ok (.aload_n 0, 1) := zsh_g zdk_537 (r := 22) (k := 1) rfl rfl rfl
theorem zd_537_90 : decode prog_14_method_40_code 90 = .ok (.getfield 250, 3) := zsh_g zdk_537 (r := 22) (k := 2) rfl rfl rfl
theorem zd_537_93 : decode prog_14_method_40_code 93 = .ok (.iload_n 1, 1) := zsh_g zdk_537 (r := 23) (k := 0) rfl rfl rfl
theorem zd_537_94 : decode prog_14_method_40_code 94 = .ok (.iaload, 1) := zsh_g zdk_537 (r := 23) (k := 1) rfl rfl rfl
theorem zd_537_95 : decode prog_14_method_40_code 95 = .ok (.iconst 2, 1) := zsh_g zdk_537 (r := 23) (k := 2) rfl rfl rfl
theorem zd_537_96 : decode prog_14_method_40_code 96 = .ok (.aload_n 0, 1) := zsh_g zdk_537 (r := 24) (k := 0) rfl rfl rfl
theorem zd_537_97 : decode prog_14_method_40_code 97 = .ok (.getfield 253, 3) := zsh_g zdk_537 (r := 24) (k := 1) rfl rfl rfl
theorem zd_537_100 : decode prog_14_method_40_code 100 = .ok (.iload_n 1, 1) := zsh_g zdk_537 (r := 25) (k := 0) rfl rfl rfl
theorem zd_537_101 : decode prog_14_method_40_code 101 = .ok (.iaload, 1) := zsh_g zdk_537 (r := 25) (k := 1) rfl rfl rfl
theorem zd_537_102 : decode prog_14_method_40_code 102 = .ok (.invokevirtual 613, 3) := zsh_g zdk_537 (r := 25) (k := 2) rfl rfl rfl
theorem zd_537_105 : decode prog_14_method_40_code 105 = .ok (.istore_n 3, 1) := zsh_g zdk_537 (r := 26) (k := 0) rfl rfl rfl
theorem zd_537_106 : decode prog_14_method_40_code 106 = .ok (.aload_n 0, 1) := zsh_g zdk_537 (r := 26) (k := 1) rfl rfl rfl
theorem zd_537_107 : decode prog_14_method_40_code 107 = .ok (.bipush 93, 2) := zsh_g zdk_537 (r := 26) (k := 2) rfl rfl rfl
theorem zd_537_109 : decode prog_14_method_40_code 109 = .ok (.invokevirtual 631, 3) := zsh_g zdk_537 (r := 27) (k := 0) rfl rfl rfl
theorem zd_537_112 : decode prog_14_method_40_code 112 = .ok (.aload_n 0, 1) := zsh_g zdk_537 (r := 28) (k := 0) rfl rfl rfl
theorem zd_537_113 : decode prog_14_method_40_code 113 = .ok (.dup, 1) := zsh_g zdk_537 (r := 28) (k := 1) rfl rfl rfl
theorem zd_537_114 : decode prog_14_method_40_code 114 = .ok (.getfield 601, 3) := zsh_g zdk_537 (r := 28) (k := 2) rfl rfl rfl
theorem zd_537_117 : decode prog_14_method_40_code 117 = .ok (.iconst 1, 1) := zsh_g zdk_537 (r := 29) (k := 0) rfl rfl rfl
theorem zd_537_118 : decode prog_14_method_40_code 118 = .ok (.isub, 1) := zsh_g zdk_537 (r := 29) (k := 1) rfl rfl rfl
theorem zd_537_119 : decode prog_14_method_40_code 119 = .ok (.putfield 601, 3) := zsh_g zdk_537 (r := 29) (k := 2) rfl rfl rfl
theorem zd_537_122 : decode prog_14_method_40_code 122 = .ok (.aload_n 0, 1) := zsh_g zdk_537 (r := 30) (k := 0) rfl rfl rfl
theorem zd_537_123 : decode prog_14_method_40_code 123 = .ok (.bipush 6, 2) := zsh_g zdk_537 (r := 30) (k := 1) rfl rfl rfl
theorem zd_537_125 : decode prog_14_method_40_code 125 = .ok (.aload_n 0, 1) := zsh_g zdk_537 (r := 31) (k := 0) rfl rfl rfl
theorem zd_537_126 : decode prog_14_method_40_code 126 = .ok (.getfield 250, 3) := zsh_g zdk_537 (r := 31) (k := 1) rfl rfl rfl
theorem zd_537_129 : decode prog_14_method_40_code 129 = .ok (.iload_n 1, 1) := zsh_g zdk_537 (r := 32) (k := 0) rfl rfl rfl
theorem zd_537_130 : decode prog_14_method_40_code 130 = .ok (.iaload, 1) := zsh_g zdk_537 (r := 32) (k := 1) rfl rfl rfl
theorem zd_537_131 : decode prog_14_method_40_code 131 = .ok (.aload_n 0, 1) := zsh_g zdk_537 (r := 32) (k := 2) rfl rfl rfl
theorem zd_537_132 : decode prog_14_method_40_code 132 = .ok (.iload_n 3, 1) := zsh_g zdk_537 (r := 33) (k := 0) rfl rfl rfl
theorem zd_537_133 : decode prog_14_method_40_code 133 = .ok (.invokevirtual 642, 3) := zsh_g zdk_537 (r := 33) (k := 1) rfl rfl rfl
theorem zd_537_136 : decode prog_14_method_40_code 136 = .ok (.iload_n 2, 1) := zsh_g zdk_537 (r := 34) (k := 0) rfl rfl rfl
theorem zd_537_137 : decode prog_14_method_40_code 137 = .ok (.aload_n 0, 1) := zsh_g zdk_537 (r := 34) (k := 1) rfl rfl rfl
theorem zd_537_138 : decode prog_14_method_40_code 138 = .ok (.iload_n 3, 1) := zsh_g zdk_537 (r := 34) (k := 2) rfl rfl rfl
theorem zd_537_139 : decode prog_14_method_40_code 139 = .ok (.invokevirtual 658, 3) := zsh_g zdk_537 (r := 34) (k := 3) rfl rfl rfl
theorem zd_537_142 : decode prog_14_method_40_code 142 = .ok (.invokevirtual 620, 3) := zsh_g zdk_537 (r := 35) (k := 0) rfl rfl rfl
theorem zd_537_145 : decode prog_14_method_40_code 145 = .ok (.aload_n 0, 1) := zsh_g zdk_537 (r := 36) (k := 0) rfl rfl rfl
theorem zd_537_146 : decode prog_14_method_40_code 146 = .ok (.bipush 7, 2) := zsh_g zdk_537 (r := 36) (k := 1) rfl rfl rfl
theorem zd_537_148 : decode prog_14_method_40_code 148 = .ok (.aload_n 0, 1) := zsh_g zdk_537 (r := 37) (k := 0) rfl rfl rfl
theorem zd_537_149 : decode prog_14_method_40_code 149 = .ok (.getfield 250, 3) := zsh_g zdk_537 (r := 37) (k := 1) rfl rfl rfl
theorem zd_537_152 : decode prog_14_method_40_code 152 = .ok (.iload_n 1, 1) := zsh_g zdk_537 (r := 38) (k := 0) rfl rfl rfl
theorem zd_537_153 : decode prog_14_method_40_code 153 = .ok (.iaload, 1) := zsh_g zdk_537 (r := 38) (k := 1) rfl rfl rfl
theorem zd_537_154 : decode prog_14_method_40_code 154 = .ok (.aload_n 0, 1) := zsh_g zdk_537 (r := 38) (k := 2) rfl rfl rfl
theorem zd_537_155 : decode prog_14_method_40_code 155 = .ok (.iload_n 3, 1) := zsh_g zdk_537 (r := 38) (k := 3) rfl rfl rfl
theorem zd_537_156 : decode prog_14_method_40_code 156 = .ok (.invokevirtual 642, 3) := zsh_g zdk_537 (r := 39) (k := 0) rfl rfl rfl
theorem zd_537_159 : decode prog_14_method_40_code 159 = .ok (.iload_n 2, 1) := zsh_g zdk_537 (r := 39) (k := 1) rfl rfl rfl
theorem zd_537_160 : decode prog_14_method_40_code 160 = .ok (.iconst 0, 1) := zsh_g zdk_537 (r := 40) (k := 0) rfl rfl rfl
theorem zd_537_161 : decode prog_14_method_40_code 161 = .ok (.invokevirtual 620, 3) := zsh_g zdk_537 (r := 40) (k := 1) rfl rfl rfl
theorem zd_537_164 : decode prog_14_method_40_code 164 = .ok (.aload_n 0, 1) := zsh_g zdk_537 (r := 41) (k := 0) rfl rfl rfl
theorem zd_537_165 : decode prog_14_method_40_code 165 = .ok (.dup, 1) := zsh_g zdk_537 (r := 41) (k := 1) rfl rfl rfl
theorem zd_537_166 : decode prog_14_method_40_code 166 = .ok (.getfield 604, 3) := zsh_g zdk_537 (r := 41) (k := 2) rfl rfl rfl
theorem zd_537_169 : decode prog_14_method_40_code 169 = .ok (.iconst 1, 1) := zsh_g zdk_537 (r := 42) (k := 0) rfl rfl rfl
theorem zd_537_170 : decode prog_14_method_40_code 170 = .ok (.isub, 1) := zsh_g zdk_537 (r := 42) (k := 1) rfl rfl rfl
theorem zd_537_171 : decode prog_14_method_40_code 171 = .ok (.putfield 604, 3) := zsh_g zdk_537 (r := 42) (k := 2) rfl rfl rfl
theorem zd_537_174 : decode prog_14_method_40_code 174 = .ok (.iconst 1, 1) := zsh_g zdk_537 (r := 43) (k := 0) rfl rfl rfl
theorem zd_537_176 : decode prog_14_method_40_code 176 = .ok (.aload_n 0, 1) := zsh_g zdk_537 (r := 44) (k := 0) rfl rfl rfl
theorem zd_537_177 : decode prog_14_method_40_code 177 = .ok (.getfield 256, 3) := zsh_g zdk_537 (r := 44) (k := 1) rfl rfl rfl
theorem zd_537_180 : decode prog_14_method_40_code 180 = .ok (.iload_n 1, 1) := zsh_g zdk_537 (r := 45) (k := 0) rfl rfl rfl
theorem zd_537_181 : decode prog_14_method_40_code 181 = .ok (.dup2, 1) := zsh_g zdk_537 (r := 45) (k := 1) rfl rfl rfl
theorem zd_537_182 : decode prog_14_method_40_code 182 = .ok (.iaload, 1) := zsh_g zdk_537 (r := 45) (k := 2) rfl rfl rfl
theorem zd_537_183 : decode prog_14_method_40_code 183 = .ok (.iconst 1, 1) := zsh_g zdk_537 (r := 45) (k := 3) rfl rfl rfl
theorem zd_537_184 : decode prog_14_method_40_code 184 = .ok (.iadd, 1) := zsh_g zdk_537 (r := 46) (k := 0) rfl rfl rfl
theorem zd_537_185 : decode prog_14_method_40_code 185 = .ok (.iastore, 1) := zsh_g zdk_537 (r := 46) (k := 1) rfl rfl rfl
theorem zd_537_186 : decode prog_14_method_40_code 186 = .ok (.aload_n 0, 1) := zsh_g zdk_537 (r := 46) (k := 2) rfl rfl rfl
theorem zd_537_187 : decode prog_14_method_40_code 187 = .ok (.bipush 44, 2) := zsh_g zdk_537 (r := 46) (k := 3) rfl rfl rfl
theorem zd_537_189 : decode prog_14_method_40_code 189 = .ok (.invokevirtual 583, 3) := zsh_g zdk_537 (r := 47) (k := 0) rfl rfl rfl
theorem zd_537_192 : decode prog_14_method_40_code 192 = .ok (.ifCond .eq 37, 3) := zsh_g zdk_537 (r := 48) (k := 0) rfl rfl rfl
theorem zd_537_195 : decode prog_14_method_40_code 195 = .ok (.aload_n 0, 1) := zsh_g zdk_537 (r := 48) (k := 1) rfl rfl rfl
theorem zd_537_196 : decode prog_14_method_40_code 196 = .ok (.getfield 256, 3) := zsh_g zdk_537 (r := 49) (k := 0) rfl rfl rfl
theorem zd_537_199 : decode prog_14_method_40_code 199 = .ok (.iload_n 1, 1) := zsh_g zdk_537 (r := 49) (k := 1) rfl rfl rfl
theorem zd_537_200 : decode prog_14_method_40_code 200 = .ok (.iaload, 1) := zsh_g zdk_537 (r := 50) (k := 0) rfl rfl rfl
theorem zd_537_201 : decode prog_14_method_40_code 201 = .ok (.iconst 4, 1) := zsh_g zdk_537 (r := 50) (k := 1) rfl rfl rfl
theorem zd_537_202 : decode prog_14_method_40_code 202 = .ok (.if_icmp .ge 27, 3) := zsh_g zdk_537 (r := 50) (k := 2) rfl rfl rfl
theorem zd_537_205 : decode prog_14_method_40_code 205 = .ok (.aload_n 0, 1) := zsh_g zdk_537 (r := 51) (k := 0) rfl rfl rfl
theorem zd_537_206 : decode prog_14_method_40_code 206 = .ok (.dup, 1) := zsh_g zdk_537 (r := 51) (k := 1) rfl rfl rfl
theorem zd_537_207 : decode prog_14_method_40_code 207 = .ok (.getfield 576, 3) := zsh_g zdk_537 (r := 51) (k := 2) rfl rfl rfl
theorem zd_537_210 : decode prog_14_method_40_code 210 = .ok (.iconst 1, 1) := zsh_g zdk_537 (r := 52) (k := 0) rfl rfl rfl
theorem zd_537_211 : decode prog_14_method_40_code 211 = .ok (.iadd, 1) := zsh_g zdk_537 (r := 52) (k := 1) rfl rfl rfl
theorem zd_537_212 : decode prog_14_method_40_code 212 = .ok (.putfield 576, 3) := zsh_g zdk_537 (r := 53) (k := 0) rfl rfl rfl
theorem zd_537_215 : decode prog_14_method_40_code 215 = .ok (.aload_n 0, 1) := zsh_g zdk_537 (r := 53) (k := 1) rfl rfl rfl
theorem zd_537_216 : decode prog_14_method_40_code 216 = .ok (.iload_n 2, 1) := zsh_g zdk_537 (r := 54) (k := 0) rfl rfl rfl
theorem zd_537_217 : decode prog_14_method_40_code 217 = .ok (.aload_n 0, 1) := zsh_g zdk_537 (r := 54) (k := 1) rfl rfl rfl
theorem zd_537_218 : decode prog_14_method_40_code 218 = .ok (.getfield 256, 3) := zsh_g zdk_537 (r := 54) (k := 2) rfl rfl rfl
theorem zd_537_221 : decode prog_14_method_40_code 221 = .ok (.iload_n 1, 1) := zsh_g zdk_537 (r := 55) (k := 0) rfl rfl rfl
theorem zd_537_222 : decode prog_14_method_40_code 222 = .ok (.iaload, 1) := zsh_g zdk_537 (r := 55) (k := 1) rfl rfl rfl
theorem zd_537_223 : decode prog_14_method_40_code 223 = .ok (.iadd, 1) := zsh_g zdk_537 (r := 55) (k := 2) rfl rfl rfl
theorem zd_537_224 : decode prog_14_method_40_code 224 = .ok (.invokevirtual 607, 3) := zsh_g zdk_537 (r := 56) (k := 0) rfl rfl rfl
theorem zd_537_227 : decode prog_14_method_40_code 227 = .ok (.iconst 0, 1) := zsh_g zdk_537 (r := 56) (k := 1) rfl rfl rfl
theorem zd_537_229 : decode prog_14_method_40_code 229 = .ok (.aload_n 0, 1) := zsh_g zdk_537 (r := 57) (k := 0) rfl rfl rfl
theorem zd_537_230 : decode prog_14_method_40_code 230 = .ok (.bipush 41, 2) := zsh_g zdk_537 (r := 57) (k := 1) rfl rfl rfl
theorem zd_537_232 : decode prog_14_method_40_code 232 = .ok (.invokevirtual 631, 3) := zsh_g zdk_537 (r := 58) (k := 0) rfl rfl rfl
theorem zd_537_235 : decode prog_14_method_40_code 235 = .ok (.aload_n 0, 1) := zsh_g zdk_537 (r := 58) (k := 1) rfl rfl rfl
theorem zd_537_236 : decode prog_14_method_40_code 236 = .ok (.dup, 1) := zsh_g zdk_537 (r := 59) (k := 0) rfl rfl rfl
theorem zd_537_237 : decode prog_14_method_40_code 237 = .ok (.getfield 601, 3) := zsh_g zdk_537 (r := 59) (k := 1) rfl rfl rfl
theorem zd_537_240 : decode prog_14_method_40_code 240 = .ok (.iconst 1, 1) := zsh_g zdk_537 (r := 60) (k := 0) rfl rfl rfl
theorem zd_537_241 : decode prog_14_method_40_code 241 = .ok (.isub, 1) := zsh_g zdk_537 (r := 60) (k := 1) rfl rfl rfl
theorem zd_537_242 : decode prog_14_method_40_code 242 = .ok (.putfield 601, 3) := zsh_g zdk_537 (r := 60) (k := 2) rfl rfl rfl
theorem zd_537_245 : decode prog_14_method_40_code 245 = .ok (.aload_n 0, 1) := zsh_g zdk_537 (r := 61) (k := 0) rfl rfl rfl
theorem zd_537_246 : decode prog_14_method_40_code 246 = .ok (.aload_n 0, 1) := zsh_g zdk_537 (r := 61) (k := 1) rfl rfl rfl
theorem zd_537_247 : decode prog_14_method_40_code 247 = .ok (.getfield 250, 3) := zsh_g zdk_537 (r := 61) (k := 2) rfl rfl rfl
theorem zd_537_250 : decode prog_14_method_40_code 250 = .ok (.iload_n 1, 1) := zsh_g zdk_537 (r := 62) (k := 0) rfl rfl rfl
theorem zd_537_251 : decode prog_14_method_40_code 251 = .ok (.iaload, 1) := zsh_g zdk_537 (r := 62) (k := 1) rfl rfl rfl
theorem zd_537_252 : decode prog_14_method_40_code 252 = .ok (.aload_n 0, 1) := zsh_g zdk_537 (r := 63) (k := 0) rfl rfl rfl
theorem zd_537_253 : decode prog_14_method_40_code 253 = .ok (.getfield 253, 3) := zsh_g zdk_537 (r := 63) (k := 1) rfl rfl rfl
theorem zd_537_256 : decode prog_14_method_40_code 256 = .ok (.iload_n 1, 1) := zsh_g zdk_537 (r := 64) (k := 0) rfl rfl rfl
theorem zd_537_257 : decode prog_14_method_40_code 257 = .ok (.iaload, 1) := zsh_g zdk_537 (r := 64) (k := 1) rfl rfl rfl
theorem zd_537_258 : decode prog_14_method_40_code 258 = .ok (.aload_n 0, 1) := zsh_g zdk_537 (r := 64) (k := 2) rfl rfl rfl
theorem zd_537_259 : decode prog_14_method_40_code 259 = .ok (.getfield 256, 3) := zsh_g zdk_537 (r := 64) (k := 3) rfl rfl rfl
theorem zd_537_262 : decode prog_14_method_40_code 262 = .ok (.iload_n 1, 1) := zsh_g zdk_537 (r := 65) (k := 0) rfl rfl rfl
theorem zd_537_263 : decode prog_14_method_40_code 263 = .ok (.iaload, 1) := zsh_g zdk_537 (r := 65) (k := 1) rfl rfl rfl
theorem zd_537_264 : decode prog_14_method_40_code 264 = .ok (.iload_n 2, 1) := zsh_g zdk_537 (r := 66) (k := 0) rfl rfl rfl
theorem zd_537_265 : decode prog_14_method_40_code 265 = .ok (.aload_n 0, 1) := zsh_g zdk_537 (r := 66) (k := 1) rfl rfl rfl
theorem zd_537_266 : decode prog_14_method_40_code 266 = .ok (.getfield 262, 3) := zsh_g zdk_537 (r := 66) (k := 2) rfl rfl rfl
theorem zd_537_269 : decode prog_14_method_40_code 269 = .ok (.iload_n 1, 1) := zsh_g zdk_537 (r := 67) (k := 0) rfl rfl rfl
theorem zd_537_270 : decode prog_14_method_40_code 270 = .ok (.baload, 1) := zsh_g zdk_537 (r := 67) (k := 1) rfl rfl rfl
theorem zd_537_271 : decode prog_14_method_40_code 271 = .ok (.invokevirtual 645, 3) := zsh_g zdk_537 (r := 67) (k := 2) rfl rfl rfl
theorem zd_537_274 : decode prog_14_method_40_code 274 = .ok (.aload_n 0, 1) := zsh_g zdk_537 (r := 68) (k := 0) rfl rfl rfl
theorem zd_537_275 : decode prog_14_method_40_code 275 = .ok (.dup, 1) := zsh_g zdk_537 (r := 68) (k := 1) rfl rfl rfl
theorem zd_537_276 : decode prog_14_method_40_code 276 = .ok (.getfield 604, 3) := zsh_g zdk_537 (r := 69) (k := 0) rfl rfl rfl
theorem zd_537_279 : decode prog_14_method_40_code 279 = .ok (.iconst 1, 1) := zsh_g zdk_537 (r := 69) (k := 1) rfl rfl rfl
theorem zd_537_280 : decode prog_14_method_40_code 280 = .ok (.isub, 1) := zsh_g zdk_537 (r := 70) (k := 0) rfl rfl rfl
theorem zd_537_281 : decode prog_14_method_40_code 281 = .ok (.putfield 604, 3) := zsh_g zdk_537 (r := 70) (k := 1) rfl rfl rfl
theorem zd_537_284 : decode prog_14_method_40_code 284 = .ok (.aload_n 0, 1) := zsh_g zdk_537 (r := 71) (k := 0) rfl rfl rfl
theorem zd_537_285 : decode prog_14_method_40_code 285 = .ok (.getfield 262, 3) := zsh_g zdk_537 (r := 71) (k := 1) rfl rfl rfl
theorem zd_537_288 : decode prog_14_method_40_code 288 = .ok (.iload_n 1, 1) := zsh_g zdk_537 (r := 72) (k := 0) rfl rfl rfl
theorem zd_537_289 : decode prog_14_method_40_code 289 = .ok (.baload, 1) := zsh_g zdk_537 (r := 72) (k := 1) rfl rfl rfl
theorem zd_537_290 : decode prog_14_method_40_code 290 = .ok (.ifCond .eq 7, 3) := zsh_g zdk_537 (r := 72) (k := 2) rfl rfl rfl
theorem zd_537_293 : decode prog_14_method_40_code 293 = .ok (.iconst 2, 1) := zsh_g zdk_537 (r := 73) (k := 0) rfl rfl rfl
theorem zd_537_294 : decode prog_14_method_40_code 294 = .ok (.goto 4, 3) := zsh_g zdk_537 (r := 73) (k := 1) rfl rfl rfl
theorem zd_537_297 : decode prog_14_method_40_code 297 = .ok (.iconst 1, 1) := zsh_g zdk_537 (r := 74) (k := 0) rfl rfl rfl
theorem zd_537_20 : decode prog_14_method_40_code 20 = .ok (.tableswitch 156 0 2 #[28, 40, 68], 28) := by decide +kernel
def zdl_538 : List (List (Nat × Instr × Nat)) := [[(0, (.aload_n 0), 1), (1, (.getfield 604), 3)], [(0, (.iconst 1), 1), (1, .isub, 1), (2, (.istore_n 2), 1), (3, (.aload_n 0), 1)], [(0, (.getfield 229), 3), (3, (.iload_n 2), 1)], [(0, (.iload_n 1), 1), (1, .iastore, 1), (2, (.aload_n 0), 1), (3, (.getfield 232), 3)], [(2, (.iload_n 2), 1), (3, (.iload_n 1), 1)], [(0, .iastore, 1), (1, (.aload_n 0), 1), (2, (.getfield 235), 3)], [(1, (.iload_n 2), 1), (2, (.iload_n 1), 1), (3, .iastore, 1)], [(0, (.aload_n 0), 1), (1, (.getfield 238), 3)], [(0, (.iload_n 2), 1), (1, (.iconst 0), 1), (2, .iastore, 1), (3, (.aload_n 0), 1)], [(0, (.getfield 241), 3), (3, (.iload_n 2), 1)], [(0, (.iconst 0), 1), (1, .iastore, 1), (2, (.aload_n 0), 1), (3, (.getfield 244), 3)], [(2, (.iload_n 2), 1), (3, (.iconst 0), 1)], [(0, .iastore, 1), (1, (.aload_n 0), 1), (2, (.getfield 247), 3)], [(1, (.iload_n 2), 1), (2, (.aload_n 0), 1), (3, (.getfield 610), 3)], [(2, .iastore, 1)]]
theorem zdk_538 : zsh_all 8 zdl_538 prog_14_method_31_code.data.toList = true := by decide +kernel
theorem zd_538_0 : decode prog_14_method_31_code 0 = .ok (.aload_n 0, 1) := zsh_g zdk_538 (r := 0) (k := 0) rfl rfl rfl
theorem zd_538_1 : decode prog_14_method_31_code 1 = .ok (.getfield 604, 3) := zsh_g zdk_538 (r := 0) (k := 1) rfl rfl rfl
theorem zd_538_4 : decode prog_14_method_31_code 4 = .ok (.iconst 1, 1) := zsh_g zdk_538 (r := 1) (k := 0) rfl rfl rfl
theorem zd_538_5 : decode prog_14_method_31_code 5 = .ok (.isub, 1) := zsh_g zdk_538 (r := 1) (k := 1) rfl rfl rfl
theorem zd_538_6 : decode prog_14_method_31_code 6 = .ok (.istore_n 2, 1) := zsh_g zdk_538 (r := 1) (k := 2) rfl rfl rfl
theorem zd_538_7 : decode prog_14_method_31_code 7 = .ok (.aload_n 0, 1) := zsh_g zdk_538 (r := 1) (k := 3) rfl rfl rfl
theorem zd_538_8 : decode prog_14_method_31_code 8 = .ok (.getfield 229, 3) := zsh_g zdk_538 (r := 2) (k := 0) rfl rfl rfl
theorem zd_538_11 : decode prog_14_method_31_code 11 = .ok (.iload_n 2, 1) := zsh_g zdk_538 (r := 2) (k := 1) rfl rfl rfl
theorem zd_538_12 : decode prog_14_method_31_code 12 = .ok (.iload_n 1, 1) := zsh_g zdk_538 (r := 3) (k := 0) rfl rfl rfl
theorem zd_538_13 : decode prog_14_method_31_code 13 = .ok (.iastore, 1) := zsh_g zdk_538 (r := 3) (k := 1) rfl rfl rfl
theorem zd_538_14 : decode prog_14_method_31_code 14 = .ok (.aload_n 0, 1) := zsh_g zdk_538 (r := 3) (k := 2) rfl rfl rfl
theorem zd_538_15 : decode prog_14_method_31_code 15 = .ok (.getfield 232, 3) := zsh_g zdk_538 (r := 3) (k := 3) rfl rfl rfl
theorem zd_538_18 : decode prog_14_method_31_code 18 = .ok (.iload_n 2, 1) := zsh_g zdk_538 (r := 4) (k := 0) rfl rfl rfl
theorem zd_538_19 : decode prog_14_method_31_code 19 = .ok (.iload_n 1, 1) := zsh_g zdk_538 (r := 4) (k := 1) rfl rfl rfl
theorem zd_538_20 : decode prog_14_method_31_code 20 = .ok (.iastore, 1) := zsh_g zdk_538 (r := 5) (k := 0) rfl rfl rfl
theorem zd_538_21 : decode prog_14_method_31_code 21 = .ok (.aload_n 0, 1) := zsh_g zdk_538 (r := 5) (k := 1) rfl rfl rfl
theorem zd_538_22 : decode prog_14_method_31_code 22 = .ok (.getfield 235, 3) := zsh_g zdk_538 (r := 5) (k := 2) rfl rfl rfl
theorem zd_538_25 : decode prog_14_method_31_code 25 = .ok (.iload_n 2, 1) := zsh_g zdk_538 (r := 6) (k := 0) rfl rfl rfl
theorem zd_538_26 : decode prog_14_method_31_code 26 = .ok (.iload_n 1, 1) := zsh_g zdk_538 (r := 6) (k := 1) rfl rfl rfl
theorem zd_538_27 : decode prog_14_method_31_code 27 = .ok (.iastore, 1) := zsh_g zdk_538 (r := 6) (k := 2) rfl rfl rfl
theorem zd_538_28 : decode prog_14_method_31_code 28 = .ok (.aload_n 0, 1) := zsh_g zdk_538 (r := 7) (k := 0) rfl rfl rfl
theorem zd_538_29 : decode prog_14_method_31_code 29 = .ok (.getfield 238, 3) := zsh_g zdk_538 (r := 7) (k := 1) rfl rfl rfl
theorem zd_538_32 : decode prog_14_method_31_code 32 = .ok (.iload_n 2, 1) := zsh_g zdk_538 (r := 8) (k := 0) rfl rfl rfl
theorem zd_538_33 : decode prog_14_method_31_code 33 = .ok (.iconst 0, 1) := zsh_g zdk_538 (r := 8) (k := 1) rfl rfl rfl
theorem zd_538_34 : decode prog_14_method_31_code 34 = .ok (.iastore, 1) := zsh_g zdk_538 (r := 8) (k := 2) rfl rfl rfl
theorem zd_538_35 : decode prog_14_method_31_code 35 = .ok (.aload_n 0, 1) := zsh_g zdk_538 (r := 8) (k := 3) rfl rfl rfl
theorem zd_538_36 : decode prog_14_method_31_code 36 = .ok (.getfield 241, 3) := zsh_g zdk_538 (r := 9) (k := 0) rfl rfl rfl
theorem zd_538_39 : decode prog_14_method_31_code 39 = .ok (.iload_n 2, 1) := zsh_g zdk_538 (r := 9) (k := 1) rfl rfl rfl
theorem zd_538_40 : decode prog_14_method_31_code 40 = .ok (.iconst 0, 1) := zsh_g zdk_538 (r := 10) (k := 0) rfl rfl rfl
theorem zd_538_41 : decode prog_14_method_31_code 41 = .ok (.iastore, 1) := zsh_g zdk_538 (r := 10) (k := 1) rfl rfl rfl
theorem zd_538_42 : decode prog_14_method_31_code 42 = .ok (.aload_n 0, 1) := zsh_g zdk_538 (r := 10) (k := 2) rfl rfl rfl
theorem zd_538_43 : decode prog_14_method_31_code 43 = .ok (.getfield 244, 3) := zsh_g zdk_538 (r := 10) (k := 3) rfl rfl rfl
theorem zd_538_46 : decode prog_14_method_31_code 46 = .ok (.iload_n 2, 1) := zsh_g zdk_538 (r := 11) (k := 0) rfl rfl rfl
theorem zd_538_47 : decode prog_14_method_31_code 47 = .ok (.iconst 0, 1) := zsh_g zdk_538 (r := 11) (k := 1) rfl rfl rfl
theorem zd_538_48 : decode prog_14_method_31_code 48 = .ok (.iastore, 1) := zsh_g zdk_538 (r := 12) (k := 0) rfl rfl rfl
theorem zd_538_49 : decode prog_14_method_31_code 49 = .ok (.aload_n 0, 1) := zsh_g zdk_538 (r := 12) (k := 1) rfl rfl rfl
theorem zd_538_50 : decode prog_14_method_31_code 50 = .ok (.getfield 247, 3) := zsh_g zdk_538 (r := 12) (k := 2) rfl rfl rfl
theorem zd_538_53 : decode prog_14_method_31_code 53 = .ok (.iload_n 2, 1) := zsh_g zdk_538 (r := 13) (k := 0) rfl rfl rfl
theorem zd_538_54 : decode prog_14_method_31_code 54 = .ok (.aload_n 0, 1) := zsh_g zdk_538 (r := 13) (k := 1) rfl rfl rfl
theorem zd_538_55 : decode prog_14_method_31_code 55 = .ok (.getfield 610, 3) := zsh_g zdk_538 (r := 13) (k := 2) rfl rfl rfl
theorem zd_538_58 : decode prog_14_method_31_code 58 = .ok (.iastore, 1) := zsh_g zdk_538 (r := 14) (k := 0) rfl rfl rfl
def zdl_539 : List (List (Nat × Instr × Nat)) := [[(0, (.iload_n 1), 1), (1, (.bipush 7), 2), (3, (.if_icmp .gt 42), 3)], [(2, (.aload_n 0), 1), (3, (.aload_n 0), 1)], [(0, (.invokevirtual 1303), 3), (3, (.putfield 1306), 3)], [(2, (.aload_n 0), 1), (3, (.bipush 44), 2)], [(1, (.invokevirtual 1269), 3)], [(0, (.aload_n 0), 1), (1, (.aload_n 0), 1), (2, (.invokevirtual 1303), 3)], [(1, (.putfield 1309), 3)], [(0, (.aload_n 0), 1), (1, (.bipush 44), 2), (3, (.invokevirtual 1269), 3)], [(2, (.aload_n 0), 1), (3, (.aload_n 0), 1)], [(0, (.invokevirtual 1303), 3), (3, (.putfield 1312), 3)], [(2, (.goto 269), 3)], [(1, (.iload_n 1), 1), (2, (.bipush 13), 2)], [(0, (.if_icmp .gt 56), 3), (3, (.aload_n 0), 1)], [(0, (.aload_n 0), 1), (1, (.invokevirtual 1303), 3)], [(0, (.putfield 1306), 3), (3, (.aload_n 0), 1)], [(0, (.bipush 44), 2), (2, (.invokevirtual 1269), 3)], [(1, (.aload_n 0), 1), (2, (.aload_n 0), 1), (3, (.invokevirtual 1303), 3)], [(2, (.putfield 1312), 3)], [(1, (.aload_n 0), 1), (2, (.bipush 44), 2)], [(0, (.invokevirtual 1269), 3), (3, (.iload_n 1), 1)], [(0, (.bipush 10), 2), (2, (.if_icmp .gt 11), 3)], [(1, (.aload_n 0), 1), (2, (.iconst 1), 1), (3, (.invokevirtual 1315), 3)], [(2, (.goto 221), 3)], [(1, (.aload_n 0), 1), (2, (.aload_n 0), 1), (3, (.invokevirtual 1303), 3)], [(2, (.putfield 1309), 3)], [(1, (.goto 210), 3)], [(0, (.iload_n 1), 1), (1, (.bipush 17), 2), (3, (.if_icmp .gt 28), 3)], [(2, (.aload_n 0), 1), (3, (.aload_n 0), 1)], [(0, (.invokevirtual 1303), 3), (3, (.putfield 1309), 3)], [(2, (.aload_n 0), 1), (3, (.bipush 44), 2)], [(1, (.invokevirtual 1269), 3)], [(0, (.aload_n 0), 1), (1, (.aload_n 0), 1), (2, (.invokevirtual 1303), 3)], [(1, (.putfield 1312), 3)], [(0, (.goto 179), 3), (3, (.iload_n 1), 1)], [(0, (.bipush 19), 2), (2, (.if_icmp .gt 14), 3)], [(1, (.aload_n 0), 1), (2, (.aload_n 0), 1), (3, (.invokevirtual 1303), 3)], [(2, (.putfield 1306), 3)], [(1, (.goto 162), 3)], [(0, (.iload_n 1), 1), (1, (.bipush 23), 2), (3, (.if_icmp .gt 14), 3)], [(2, (.aload_n 0), 1), (3, (.aload_n 0), 1)], [(0, (.invokevirtual 1303), 3), (3, (.putfield 1309), 3)], [(2, (.goto 145), 3)], [(1, (.iload_n 1), 1), (2, (.bipush 25), 2)], [(0, (.if_icmp .ne 11), 3), (3, (.aload_n 0), 1)], [(0, (.iconst 1), 1), (1, (.invokevirtual 1315), 3)], [(0, (.goto 131), 3), (3, (.iload_n 1), 1)], [(0, (.bipush 25), 2), (2, (.if_icmp .le 59), 3)], [(1, (.iload_n 1), 1), (2, (.bipush 31), 2)], [(0, (.if_icmp .gt 53), 3), (3, (.aload_n 0), 1)], [(0, (.aload_n 0), 1), (1, (.invokevirtual 1303), 3)], [(0, (.putfield 1312), 3), (3, (.aload_n 0), 1)], [(0, (.bipush 44), 2), (2, (.invokevirtual 1269), 3)], [(1, (.aload_n 0), 1), (2, (.aload_n 0), 1), (3, (.invokevirtual 1303), 3)], [(2, (.putfield 1309), 3)], [(1, (.aload_n 0), 1), (2, (.bipush 44), 2)], [(0, (.invokevirtual 1269), 3), (3, (.iload_n 1), 1)], [(0, (.bipush 28), 2), (2, (.if_icmp .gt 11), 3)], [(1, (.aload_n 0), 1), (2, (.iconst 2), 1), (3, (.invokevirtual 1318), 3)], [(2, (.ifCond .ne 77), 3)], [(1, (.aload_n 0), 1), (2, (.iconst 1), 1), (3, (.invokevirtual 1315), 3)], [(2, (.goto 69), 3)], [(1, (.iload_n 1), 1), (2, (.bipush 32), 2)], [(0, (.if_icmp .ne 33), 3), (3, (.aload_n 0), 1)], [(0, (.aload_n 0), 1), (1, (.invokevirtual 1303), 3)], [(0, (.putfield 1312), 3), (3, (.aload_n 0), 1)], [(0, (.bipush 44), 2), (2, (.invokevirtual 1269), 3)], [(1, (.aload_n 0), 1), (2, (.iconst 1), 1), (3, (.invokevirtual 1318), 3)], [(2, (.ifCond .ne 41), 3)], [(1, (.aload_n 0), 1), (2, (.iconst 1), 1), (3, (.invokevirtual 1315), 3)], [(2, (.goto 33), 3)], [(1, (.iload_n 1), 1), (2, (.bipush 33), 2)], [(0, (.if_icmp .lt 16), 3), (3, (.iload_n 1), 1)], [(0, (.bipush 40), 2), (2, (.if_icmp .gt 10), 3)], [(1, (.aload_n 0), 1), (2, (.invokevirtual 1321), 3)], [(1, (.goto 14), 3)], [(0, (.iload_n 1), 1), (1, (.bipush 41), 2), (3, (.if_icmp .lt 8), 3)], [(2, (.aload_n 0), 1), (3, (.iload_n 1), 1)], [(0, (.invokevirtual 1324), 3)]]
theorem zdk_539 : zsh_all 8 zdl_539 prog_14_method_135_code.data.toList = true := by decide +kernel
theorem zd_539_0 : decode prog_14_method_135_code 0 = .ok (.iload_n 1, 1) := zsh_g zdk_539 (r := 0) (k := 0) rfl rfl rfl
theorem zd_539_1 : decode prog_14_method_135_code 1 = .ok (.bipush 7, 2) := zsh_g zdk_539 (r := 0) (k := 1) rfl rfl rfl
theorem zd_539_3 : decode prog_14_method_135_code 3 = .ok (.if_icmp .gt 42, 3) := zsh_g zdk_539 (r := 0) (k := 2) rfl rfl rfl
theorem zd_539_6 : decode prog_14_method_135_code 6 = .ok (.aload_n 0, 1) := zsh_g zdk_539 (r := 1) (k := 0) rfl rfl rfl
theorem zd_539_7 : decode prog_14_method_135_code 7 = .ok (.aload_n 0, 1) := zsh_g zdk_539 (r := 1) (k := 1) rfl rfl rfl
theorem zd_539_8 : decode prog_14_method_135_code 8 = .ok (.invokevirtual 1303, 3) := zsh_g zdk_539 (r := 2) (k := 0) rfl rfl rfl
theorem zd_539_11 : decode prog_14_method_135_code 11 = .ok (.putfield 1306, 3) := zsh_g zdk_539 (r := 2) (k := 1) rfl rfl rfl
theorem zd_539_14 : decode prog_14_method_135_code 14 = .ok (.aload_n 0, 1) := zsh_g zdk_539 (r := 3) (k := 0) rfl rfl rfl
theorem zd_539_15 : decode prog_14_method_135_code 15 = .ok (.bipush 44, 2) := zsh_g zdk_539 (r := 3) (k := 1) rfl rfl rfl
theorem zd_539_17 : decode prog_14_method_135_code 17 = .ok (.invokevirtual 1269, 3) := zsh_g zdk_539 (r := 4) (k := 0) rfl rfl rfl
theorem zd_539_20 : decode prog_14_method_135_code 20 = .ok (.aload_n 0, 1) := zsh_g zdk_539 (r := 5) (k := 0) rfl rfl rfl
theorem zd_539_21 : decode prog_14_method_135_code 21 = .ok (.aload_n 0, 1) := zsh_g zdk_539 (r := 5) (k := 1) rfl rfl rfl
theorem zd_539_22 : decode prog_14_method_135_code 22 = .ok (.invokevirtual 1303, 3) := zsh_g zdk_539 (r := 5) (k := 2) rfl rfl rfl
theorem zd_539_25 : decode prog_14_method_135_code 25 = .ok (.putfield 1309, 3) := zsh_g zdk_539 (r := 6) (k := 0) rfl rfl rfl
theorem zd_539_28 : decode prog_14_method_135_code 28 = .ok (.aload_n 0, 1) := zsh_g zdk_539 (r := 7) (k := 0) rfl rfl rfl
theorem zd_539_29 : decode prog_14_method_135_code 29 = .ok (.bipush 44, 2) := zsh_g zdk_539 (r := 7) (k := 1) rfl rfl rfl
theorem zd_539_31 : decode prog_14_method_135_code 31 = .ok (.invokevirtual 1269, 3) := zsh_g zdk_539 (r := 7) (k := 2) rfl rfl rfl
theorem zd_539_34 : decode prog_14_method_135_code 34 = .ok (.aload_n 0, 1) := zsh_g zdk_539 (r := 8) (k := 0) rfl rfl rfl
theorem zd_539_35 : decode prog_14_method_135_code 35 = .ok (.aload_n 0, 1) := zsh_g zdk_539 (r := 8) (k := 1) rfl rfl rfl
theorem zd_539_36 : decode prog_14_method_135_code 36 = .ok (.invokevirtual 1303, 3) := zsh_g zdk_539 (r := 9) (k := 0) rfl rfl rfl
theorem zd_539_39 : decode prog_14_method_135_code 39 = .ok (.putfield 1312, 3) := zsh_g zdk_539 (r := 9) (k := 1) rfl rfl rfl
theorem zd_539_42 : decode prog_14_method_135_code 42 = .ok (.goto 269, 3) := zsh_g zdk_539 (r := 10) (k := 0) rfl rfl rfl
theorem zd_539_45 : decode prog_14_method_135_code 45 = .ok (.iload_n 1, 1) := zsh_g zdk_539 (r := 11) (k := 0) rfl rfl rfl
theorem zd_539_46 : decode prog_14_method_135_code 46 = .ok (.bipush 13, 2) := zsh_g zdk_539 (r := 11) (k := 1) rfl rfl rfl
theorem zd_539_48 : decode prog_14_method_135_code 48 = .ok (.if_icmp .gt 56, 3) := zsh_g zdk_539 (r := 12) (k := 0) rfl rfl rfl
theorem zd_539_51 : decode prog_14_method_135_code 51 = .ok (.aload_n 0, 1) := zsh_g zdk_539 (r := 12) (k := 1) rfl rfl rfl
theorem zd_539_52 : decode prog_14_method_135_code 52 = .ok (.aload_n 0, 1) := zsh_g zdk_539 (r := 13) (k := 0) rfl rfl rfl
theorem zd_539_53 : decode prog_14_method_135_code 53 = .ok (.invokevirtual 1303, 3) := zsh_g zdk_539 (r := 13) (k := 1) rfl rfl rfl
theorem zd_539_56 : decode prog_14_method_135_code 56 = .ok (.putfield 1306, 3) := zsh_g zdk_539 (r := 14) (k := 0) rfl rfl rfl
theorem zd_539_59 : decode prog_14_method_135_code 59 = .ok (.aload_n 0, 1) := zsh_g zdk_539 (r := 14) (k := 1) rfl rfl rfl
theorem zd_539_60 : decode prog_14_method_135_code 60 = .ok (.bipush 44, 2) := zsh_g zdk_539 (r := 15) (k := 0) rfl rfl rfl
theorem zd_539_62 : decode prog_14_method_135_code 62 = .ok (.invokevirtual 1269, 3) := zsh_g zdk_539 (r := 15) (k := 1) rfl rfl rfl
theorem zd_539_65 : decode prog_14_method_135_code 65 = .ok (.aload_n 0, 1) := zsh_g zdk_539 (r := 16) (k := 0) rfl rfl rfl
theorem zd_539_66 : decode prog_14_method_135_code 66 = .ok (.aload_n 0, 1) := zsh_g zdk_539 (r := 16) (k := 1) rfl rfl rfl
theorem zd_539_67 : decode prog_14_method_135_code 67 = .ok (.invokevirtual 1303, 3) := zsh_g zdk_539 (r := 16) (k := 2) rfl rfl rfl
theorem zd_539_70 : decode prog_14_method_135_code 70 = .ok (.putfield 1312, 3) := zsh_g zdk_539 (r := 17) (k := 0) rfl rfl rfl
theorem zd_539_73 : decode prog_14_method_135_code 73 = .ok (.aload_n 0, 1) := zsh_g zdk_539 (r := 18) (k := 0) rfl rfl rfl
theorem zd_539_74 : decode prog_14_method_135_code 74 = .ok (.bipush 44, 2) := zsh_g zdk_539 (r := 18) (k := 1) rfl rfl rfl
theorem zd_539_76 : decode prog_14_method_135_code 76 = .ok (.invokevirtual 1269, 3) := zsh_g zdk_539 (r := 19) (k := 0) rfl rfl rfl
theorem zd_539_79 : decode prog_14_method_135_code 79 = .ok (.iload_n 1, 1) := zsh_g zdk_539 (r := 19) (k := 1) rfl rfl rfl
theorem zd_539_80 : decode prog_14_method_135_code 80 = .ok (.bipush 10, 2) := zsh_g zdk_539 (r := 20) (k := 0) rfl rfl rfl
theorem zd_539_82 : decode prog_14_method_135_code 82 = .ok (.if_icmp .gt 11, 3) := zsh_g zdk_539 (r := 20) (k := 1) rfl rfl rfl
theorem zd_539_85 : decode prog_14_method_135_code 85 = .ok (.aload_n 0, 1) := zsh_g zdk_539 (r := 21) (k := 0) rfl rfl rfl
theorem zd_539_86 : decode prog_14_method_135_code 86 = .ok (.iconst 1, 1) := zsh_g zdk_539 (r := 21) (k := 1) rfl rfl rfl
theorem zd_539_87 : decode prog_14_method_135_code 87 = .ok (.invokevirtual 1315, 3) := zsh_g zdk_539 (r := 21) (k := 2) rfl rfl rfl
theorem zd_539_90 : decode prog_14_method_135_code 90 = .ok (.goto 221, 3) := zsh_g zdk_539 (r := 22) (k := 0) rfl rfl rfl
theorem zd_539_93 : decode prog_14_method_135_code 93 = .ok (.aload_n 0, 1) := zsh_g zdk_539 (r := 23) (k := 0) rfl rfl rfl
theorem zd_539_94 : decode prog_14_method_135_code 94 = .ok (.aload_n 0, 1) := zsh_g zdk_539 (r := 23) (k := 1) rfl rfl rfl
theorem zd_539_95 : decode prog_14_method_135_code 95 = .ok (.invokevirtual 1303, 3) := zsh_g zdk_539 (r := 23) (k := 2) rfl rfl rfl
theorem zd_539_98 : decode prog_14_method_135_code 98 = .ok (.putfield 1309, 3) := zsh_g zdk_539 (r := 24) (k := 0) rfl rfl rfl
theorem zd_539_101 : decode prog_14_method_135_code 101 = .ok (.goto 210, 3) := zsh_g zdk_539 (r := 25) (k := 0) rfl rfl rfl
theorem zd_539_104 : decode prog_14_method_135_code 104 = .ok (.iload_n 1, 1) := zsh_g zdk_539 (r := 26) (k := 0) rfl rfl rfl
theorem zd_539_105 : decode prog_14_method_135_code 105 = .ok (.bipush 17, 2) := zsh_g zdk_539 (r := 26) (k := 1) rfl rfl rfl
theorem zd_539_107 : decode prog_14_method_135_code 107 = .ok (.if_icmp .gt 28, 3) := zsh_g zdk_539 (r := 26) (k := 2) rfl rfl rfl
theorem zd_539_110 : decode prog_14_method_135_code 110 = .ok (.aload_n 0, 1) := zsh_g zdk_539 (r := 27) (k := 0) rfl rfl rfl
theorem zd_539_111 : decode prog_14_method_135_code 111 = .ok (.aload_n 0, 1) := zsh_g zdk_539 (r := 27) (k := 1) rfl rfl rfl
theorem zd_539_112 : decode prog_14_method_135_code 112 = .ok (.invokevirtual 1303, 3) := zsh_g zdk_539 (r := 28) (k := 0) rfl rfl rfl
theorem zd_539_115 : decode prog_14_method_135_code 115 = .ok (.putfield 1309, 3) := zsh_g zdk_539 (r := 28) (k := 1) rfl rfl rfl
theorem zd_539_118 : decode prog_14_method_135_code 118 = .ok (.aload_n 0, 1) := zsh_g zdk_539 (r := 29) (k := 0) rfl rfl rfl
theorem zd_539_119 : decode prog_14_method_135_code 119 = .ok (.bipush 44, 2) := zsh_g zdk_539 (r := 29) (k := 1) rfl rfl rfl
theorem zd_539_121 : decode prog_14_method_135_code 121 = .ok (.invokevirtual 1269, 3) := zsh_g zdk_539 (r := 30) (k := 0) rfl rfl rfl
theorem zd_539_124 : decode prog_14_method_135_code 124 = .ok (.aload_n 0, 1) := zsh_g zdk_539 (r := 31) (k := 0) rfl rfl rfl
theorem zd_539_125 : decode prog_14_method_135_code 125 = .ok (.aload_n 0, 1) := zsh_g zdk_539 (r := 31) (k := 1) rfl rfl rfl
theorem zd_539_126 : decode prog_14_method_135_code 126 = .ok (.invokevirtual 1303, 3) := zsh_g zdk_539 (r := 31) (k := 2) rfl rfl rfl
theorem zd_539_129 : decode prog_14_method_135_code 129 = .ok (.putfield 1312, 3) := zsh_g zdk_539 (r := 32) (k := 0) rfl rfl rfl
theorem zd_539_132 : decode prog_14_method_135_code 132 = .ok (.goto 179, 3) := zsh_g zdk_539 (r := 33) (k := 0) rfl rfl rfl
theorem zd_539_135 : decode prog_14_method_135_code 135 = .ok (.iload_n 1, 1) := zsh_g zdk_539 (r := 33) (k := 1) rfl rfl rfl
theorem zd_539_136 : decode prog_14_method_135_code 136 = .ok (.bipush 19, 2) := zsh_g zdk_539 (r := 34) (k := 0) rfl rfl rfl
theorem zd_539_138 : decode prog_14_method_135_code 138 = .ok (.if_icmp .gt 14, 3) := zsh_g zdk_539 (r := 34) (k := 1) rfl rfl rfl
theorem zd_539_141 : decode prog_14_method_135_code 141 = .ok (.aload_n 0, 1) := zsh_g zdk_539 (r := 35) (k := 0) rfl rfl rfl
theorem zd_539_142 : decode prog_14_method_135_code 142 = .ok (.aload_n 0, 1) := zsh_g zdk_539 (r := 35) (k := 1) rfl rfl rfl
theorem zd_539_143 : decode prog_14_method_135_code 143 = .ok (.invokevirtual 1303, 3) := zsh_g zdk_539 (r := 35) (k := 2) rfl rfl rfl
theorem zd_539_146 : decode prog_14_method_135_code 146 = .ok (.putfield 1306, 3) := zsh_g zdk_539 (r := 36) (k := 0) rfl rfl rfl
theorem zd_539_149 : decode prog_14_method_135_code 149 = .ok (.goto 162, 3) := zsh_g zdk_539 (r := 37) (k := 0) rfl rfl rfl
theorem zd_539_152 : decode prog_14_method_135_code 152 = .ok (.iload_n 1, 1) := zsh_g zdk_539 (r := 38) (k := 0) rfl rfl rfl
theorem zd_539_153 : decode prog_14_method_135_code 153 = .ok (.bipush 23, 2) := zsh_g zdk_539 (r := 38) (k := 1) rfl rfl rfl
theorem zd_539_155 : decode prog_14_method_135_code 155 = .ok (.if_icmp .gt 14, 3) := zsh_g zdk_539 (r := 38) (k := 2) rfl rfl rfl
theorem zd_539_158 : decode prog_14_method_135_code 158 = .ok (.aload_n 0, 1) := zsh_g zdk_539 (r := 39) (k := 0) rfl rfl rfl
theorem zd_539_159 : decode prog_14_method_135_code 159 = .ok (.aload_n 0, 1) := zsh_g zdk_539 (r := 39) (k := 1) rfl rfl rfl
theorem zd_539_160 : decode prog_14_method_135_code 160 = .ok (.invokevirtual 1303, 3) := zsh_g zdk_539 (r := 40) (k := 0) rfl rfl rfl
theorem zd_539_163 : decode prog_14_method_135_code 163 = .ok (.putfield 1309, 3) := zsh_g zdk_539 (r := 40) (k := 1) rfl rfl rfl
theorem zd_539_166 : decode prog_14_method_135_code 166 = .ok (.goto 145, 3) := zsh_g zdk_539 (r := 41) (k := 0) rfl rfl rfl
theorem zd_539_169 : decode prog_14_method_135_code 169 = .ok (.iload_n 1, 1) := zsh_g zdk_539 (r := 42) (k := 0) rfl rfl rfl
theorem zd_539_170 : decode prog_14_method_135_code 170 = .ok (.bipush 25, 2) := zsh_g zdk_539 (r := 42) (k := 1) rfl rfl rfl
theorem zd_539_172 : decode prog_14_method_135_code 172 = .ok (.if_icmp .ne 11, 3) := zsh_g zdk_539 (r := 43) (k := 0) rfl rfl rfl
theorem zd_539_175 : decode prog_14_method_135_code 175 = .ok (.aload_n 0, 1) := zsh_g zdk_539 (r := 43) (k := 1) rfl rfl rfl
theorem zd_539_176 : decode prog_14_method_135_code 176 = .ok (.iconst 1, 1) := zsh_g zdk_539 (r := 44) (k := 0) rfl rfl rfl
theorem zd_539_177 : decode prog_14_method_135_code 177 = .ok (.invokevirtual 1315, 3) := zsh_g zdk_539 (r := 44) (k := 1) rfl rfl rfl
theorem zd_539_180 : decode prog_14_method_135_code 180 = .ok (.goto 131, 3) := zsh_g zdk_539 (r := 45) (k := 0) rfl rfl rfl
theorem zd_539_183 : decode prog_14_method_135_code 183 = .ok (.iload_n 1, 1) := zsh_g zdk_539 (r := 45) (k := 1) rfl rfl rfl
theorem zd_539_184 : decode prog_14_method_135_code 184 = .ok (.bipush 25, 2) := zsh_g zdk_539 (r := 46) (k := 0) rfl rfl rfl
theorem zd_539_186 : decode prog_14_method_135_code 186 = .ok (.if_icmp .le 59, 3) := zsh_g zdk_539 (r := 46) (k := 1) rfl rfl rfl
theorem zd_539_189 : decode prog_14_method_135_code 189 = .ok (.iload_n 1, 1) := zsh_g zdk_539 (r := 47) (k := 0) rfl rfl rfl
theorem zd_539_190 : decode prog_14_method_135_code 190 = .ok (.bipush 31, 2) := zsh_g zdk_539 (r := 47) (k := 1) rfl rfl rfl
theorem zd_539_192 : decode prog_14_method_135_code 192 = .ok (.if_icmp .gt 53, 3) := zsh_g zdk_539 (r := 48) (k := 0) rfl rfl rfl
theorem zd_539_195 : decode prog_14_method_135_code 195 = .ok (.aload_n 0, 1) := zsh_g zdk_539 (r := 48) (k := 1) rfl rfl rfl
theorem zd_539_196 : decode prog_14_method_135_code 196 = .ok (.aload_n 0, 1) := zsh_g zdk_539 (r := 49) (k := 0) rfl rfl rfl
theorem zd_539_197 : decode prog_14_method_135_code 197 = .ok (.invokevirtual 1303, 3) := zsh_g zdk_539 (r := 49) (k := 1) rfl rfl rfl
theorem zd_539_200 : decode prog_14_method_135_code 200 = .ok (.putfield 1312, 3) := zsh_g zdk_539 (r := 50) (k := 0) rfl rfl rfl
theorem zd_539_203 : decode prog_14_method_135_code 203 = .ok (.aload_n 0, 1) := zsh_g zdk_539 (r := 50) (k := 1) rfl rfl rfl
theorem zd_539_204 : decode prog_14_method_135_code 204 = .ok (.bipush 44, 2) := zsh_g zdk_539 (r := 51) (k := 0) rfl rfl rfl
theorem zd_539_206 : decode prog_14_method_135_code 206 = .ok (.invokevirtual 1269, 3) := zsh_g zdk_539 (r := 51) (k := 1) rfl rfl rfl
theorem zd_539_209 : decode prog_14_method_135_code 209 = .ok (.aload_n 0, 1) := zsh_g zdk_539 (r := 52) (k := 0) rfl rfl rfl
theorem zd_539_210 : decode prog_14_method_135_code 210 = .ok (.aload_n 0, 1) := zsh_g zdk_539 (r := 52) (k := 1) rfl rfl rfl
theorem zd_539_211 : decode prog_14_method_135_code 211 = .ok (.invokevirtual 1303, 3) := zsh_g zdk_539 (r := 52) (k := 2) rfl rfl rfl
theorem zd_539_214 : decode prog_14_method_135_code 214 = .ok (.putfield 1309, 3) := zsh_g zdk_539 (r := 53) (k := 0) rfl rfl rfl
theorem zd_539_217 : decode prog_14_method_135_code 217 = .ok (.aload_n 0, 1) := zsh_g zdk_539 (r := 54) (k := 0) rfl rfl rfl
theorem zd_539_218 : decode prog_14_method_135_code 218 = .ok (.bipush 44, 2) := zsh_g zdk_539 (r := 54) (k := 1) rfl rfl rfl
theorem zd_539_220 : decode prog_14_method_135_code 220 = .ok (.invokevirtual 1269, 3) := zsh_g zdk_539 (r := 55) (k := 0) rfl rfl rfl
theorem zd_539_223 : decode prog_14_method_135_code 223 = .ok (.iload_n 1, 1) := zsh_g zdk_539 (r := 55) (k := 1) rfl rfl rfl
theorem zd_539_224 : decode prog_14_method_135_code 224 = .ok (.bipush 28, 2) := zsh_g zdk_539 (r := 56) (k := 0) rfl rfl rfl
theorem zd_539_226 : decode prog_14_method_135_code 226 = .ok (.if_icmp .gt 11, 3) := zsh_g zdk_539 (r := 56) (k := 1) rfl rfl rfl
theorem zd_539_229 : decode prog_14_method_135_code 229 = .ok (.aload_n 0, 1) := zsh_g zdk_539 (r := 57) (k := 0) rfl rfl rfl
theorem zd_539_230 : decode prog_14_method_135_code 230 = .ok (.iconst 2, 1) := zsh_g zdk_539 (r := 57) (k := 1) rfl rfl rfl
theorem zd_539_231 : decode prog_14_method_135_code 231 = .ok (.invokevirtual 1318, 3) := zsh_g zdk_539 (r := 57) (k := 2) rfl rfl rfl
theorem zd_539_234 : decode prog_14_method_135_code 234 = .ok (.ifCond .ne 77, 3) := zsh_g zdk_539 (r := 58) (k := 0) rfl rfl rfl
theorem zd_539_237 : decode prog_14_method_135_code 237 = .ok (.aload_n 0, 1) := zsh_g zdk_539 (r := 59) (k := 0) rfl rfl rfl
theorem zd_539_238 : decode prog_14_method_135_code 238 = .ok (.iconst 1, 1) := zsh_g zdk_539 (r := 59) (k := 1) rfl rfl rfl
theorem zd_539_239 : decode prog_14_method_135_code 239 = .ok (.invokevirtual 1315, 3) := zsh_g zdk_539 (r := 59) (k := 2) rfl rfl rfl
theorem zd_539_242 : decode prog_14_method_135_code 242 = .ok (.goto 69, 3) := zsh_g zdk_539 (r := 60) (k := 0) rfl rfl rfl
theorem zd_539_245 : decode prog_14_method_135_code 245 = .ok (.iload_n 1, 1) := zsh_g zdk_539 (r := 61) (k := 0) rfl rfl rfl
theorem zd_539_246 : decode prog_14_method_135_code 246 = .ok (.bipush 32, 2) := zsh_g zdk_539 (r := 61) (k := 1) rfl rfl rfl
theorem zd_539_248 : decode prog_14_method_135_code 248 = .ok (.if_icmp .ne 33, 3) := zsh_g zdk_539 (r := 62) (k := 0) rfl rfl rfl
theorem zd_539_251 : decode prog_14_method_135_code 251 = .ok (.aload_n 0, 1) := zsh_g zdk_539 (r := 62) (k := 1) rfl rfl rfl
theorem zd_539_252 : decode prog_14_method_135_code 252 = .ok (.aload_n 0, 1) := zsh_g zdk_539 (r := 63) (k := 0) rfl rfl rfl
theorem zd_539_253 : decode prog_14_method_135_code 253 = .ok (.invokevirtual 1303, 3) := zsh_g zdk_539 (r := 63) (k := 1) rfl rfl rfl
theorem zd_539_256 : decode prog_14_method_135_code 256 = .ok (.putfield 1312, 3) := zsh_g zdk_539 (r := 64) (k := 0) rfl rfl rfl
theorem zd_539_259 : decode prog_14_method_135_code 259 = .ok (.aload_n 0, 1) := zsh_g zdk_539 (r := 64) (k := 1) rfl rfl rfl
theorem zd_539_260 : decode prog_14_method_135_code 260 = .ok (.bipush 44, 2) := zsh_g zdk_539 (r := 65) (k := 0) rfl rfl rfl
theorem zd_539_262 : decode prog_14_method_135_code 262 = .ok (.invokevirtual 1269, 3) := zsh_g zdk_539 (r := 65) (k := 1) rfl rfl rfl
theorem zd_539_265 : decode prog_14_method_135_code 265 = .ok (.aload_n 0, 1) := zsh_g zdk_539 (r := 66) (k := 0) rfl rfl rfl
theorem zd_539_266 : decode prog_14_method_135_code 266 = .ok (.iconst 1, 1) := zsh_g zdk_539 (r := 66) (k := 1) rfl rfl rfl
theorem zd_539_267 : decode prog_14_method_135_code 267 = .ok (.invokevirtual 1318, 3) := zsh_g zdk_539 (r := 66) (k := 2) rfl rfl rfl
theorem zd_539_270 : decode prog_14_method_135_code 270 = .ok (.ifCond .ne 41, 3) := zsh_g zdk_539 (r := 67) (k := 0) rfl rfl rfl
theorem zd_539_273 : decode prog_14_method_135_code 273 = .ok (.aload_n 0, 1) := zsh_g zdk_539 (r := 68) (k := 0) rfl rfl rfl
theorem zd_539_274 : decode prog_14_method_135_code 274 = .ok (.iconst 1, 1) := zsh_g zdk_539 (r := 68) (k := 1) rfl rfl rfl
theorem zd_539_275 : decode prog_14_method_135_code 275 = .ok (.invokevirtual 1315, 3) := zsh_g zdk_539 (r := 68) (k := 2) rfl rfl rfl
theorem zd_539_278 : decode prog_14_method_135_code 278 = .ok (.goto 33, 3) := zsh_g zdk_539 (r := 69) (k := 0) rfl rfl rfl
theorem zd_539_281 : decode prog_14_method_135_code 281 = .ok (.iload_n 1, 1) := zsh_g zdk_539 (r := 70) (k := 0) rfl rfl rfl
theorem zd_539_282 : decode prog_14_method_135_code 282 = .ok (.bipush 33, 2) := zsh_g zdk_539 (r := 70) (k := 1) rfl rfl rfl
theorem zd_539_284 : decode prog_14_method_135_code 284 = .ok (.if_icmp .lt 16, 3) := zsh_g zdk_539 (r := 71) (k := 0) rfl rfl rfl
theorem zd_539_287 : decode prog_14_method_135_code 287 = .ok (.iload_n 1, 1) := zsh_g zdk_539 (r := 71) (k := 1) rfl rfl rfl
theorem zd_539_288 : decode prog_14_method_135_code 288 = .ok (.bipush 40, 2) := zsh_g zdk_539 (r := 72) (k := 0) rfl rfl rfl
theorem zd_539_290 : decode prog_14_method_135_code 290 = .ok (.if_icmp .gt 10, 3) := zsh_g zdk_539 (r := 72) (k := 1) rfl rfl rfl
theorem zd_539_293 : decode prog_14_method_135_code 293 = .ok (.aload_n 0, 1) := zsh_g zdk_539 (r := 73) (k := 0) rfl rfl rfl
theorem zd_539_294 : decode prog_14_method_135_code 294 = .ok (.invokevirtual 1321, 3) := zsh_g zdk_539 (r := 73) (k := 1) rfl rfl rfl
theorem zd_539_297 : decode prog_14_method_135_code 297 = .ok (.goto 14, 3) := zsh_g zdk_539 (r := 74) (k := 0) rfl rfl rfl
theorem zd_539_300 : decode prog_14_method_135_code 300 = .ok (.iload_n 1, 1) := zsh_g zdk_539 (r := 75) (k := 0) rfl rfl rfl
theorem zd_539_301 : decode prog_14_method_135_code 301 = .ok (.bipush 41, 2) := zsh_g zdk_539 (r := 75) (k := 1) rfl rfl rfl
theorem zd_539_303 : decode prog_14_method_135_code 303 = .ok (.if_icmp .lt 8, 3) := zsh_g zdk_539 (r := 75) (k := 2) rfl rfl rfl
theorem zd_539_306 : decode prog_14_method_135_code 306 = .ok (.aload_n 0, 1) := zsh_g zdk_539 (r := 76) (k := 0) rfl rfl rfl
theorem zd_539_307 : decode prog_14_method_135_code 307 = .ok (.iload_n 1, 1) := zsh_g zdk_539 (r := 76) (k := 1) rfl rfl rfl
theorem zd_539_308 : decode prog_14_method_135_code 308 = .ok (.invokevirtual 1324, 3) := zsh_g zdk_539 (r := 77) (k := 0) rfl rfl rfl
