/-! decode rows, by program -/
theorem zd_499_123 : decode prog_30_method_89_code 123 = .ok (.bipush 45, 2) := by decide +kernel
theorem zd_499_125 : decode prog_30_method_89_code 125 = .ok (.invokestatic 111, 3) := by decide +kernel
theorem zd_499_128 : decode prog_30_method_89_code 128 = .ok (.iload 5, 2) := by decide +kernel
theorem zd_500_0 : decode prog_29_method_50_code 0 = .ok (.aload_n 0, 1) := by decide +kernel
theorem zd_500_1 : decode prog_29_method_50_code 1 = .ok (.iload_n 1, 1) := by decide +kernel
theorem zd_500_2 : decode prog_29_method_50_code 2 = .ok (.aload_n 2, 1) := by decide +kernel
theorem zd_500_3 : decode prog_29_method_50_code 3 = .ok (.iload_n 3, 1) := by decide +kernel
theorem zd_500_4 : decode prog_29_method_50_code 4 = .ok (.iload 4, 2) := by decide +kernel
theorem zd_500_6 : decode prog_29_method_50_code 6 = .ok (.invokestatic 240, 3) := by decide +kernel
theorem zd_501_0 : decode prog_30_method_4_code 0 = .ok (.getstatic 44, 3) := by decide +kernel
theorem zd_501_3 : decode prog_30_method_4_code 3 = .ok (.ifCond .ne 25, 3) := by decide +kernel
theorem zd_501_6 : decode prog_30_method_4_code 6 = .ok (.iload_n 1, 1) := by decide +kernel
theorem zd_501_7 : decode prog_30_method_4_code 7 = .ok (.ifCond .lt 11, 3) := by decide +kernel
theorem zd_501_10 : decode prog_30_method_4_code 10 = .ok (.iload_n 1, 1) := by decide +kernel
theorem zd_501_11 : decode prog_30_method_4_code 11 = .ok (.aload_n 0, 1) := by decide +kernel
theorem zd_501_12 : decode prog_30_method_4_code 12 = .ok (.invokestatic 48, 3) := by decide +kernel
theorem zd_501_15 : decode prog_30_method_4_code 15 = .ok (.if_icmp .lt 13, 3) := by decide +kernel
theorem zd_501_28 : decode prog_30_method_4_code 28 = .ok (.iload_n 1, 1) := by decide +kernel
theorem zd_501_29 : decode prog_30_method_4_code 29 = .ok (.iconst 1, 1) := by decide +kernel
theorem zd_501_30 : decode prog_30_method_4_code 30 = .ok (.ishl, 1) := by decide +kernel
theorem zd_501_31 : decode prog_30_method_4_code 31 = .ok (.istore_n 1, 1) := by decide +kernel
theorem zd_501_32 : decode prog_30_method_4_code 32 = .ok (.aload_n 0, 1) := by decide +kernel
theorem zd_501_33 : decode prog_30_method_4_code 33 = .ok (.iload_n 1, 1) := by decide +kernel
theorem zd_501_34 : decode prog_30_method_4_code 34 = .ok (.iinc 1 1, 3) := by decide +kernel
theorem zd_501_37 : decode prog_30_method_4_code 37 = .ok (.iload_n 2, 1) := by decide +kernel
theorem zd_501_38 : decode prog_30_method_4_code 38 = .ok (.getstatic 59, 3) := by decide +kernel
theorem zd_501_41 : decode prog_30_method_4_code 41 = .ok (.ishr, 1) := by decide +kernel
theorem zd_501_42 : decode prog_30_method_4_code 42 = .ok (.i2b, 1) := by decide +kernel
theorem zd_501_43 : decode prog_30_method_4_code 43 = .ok (.bastore, 1) := by decide +kernel
theorem zd_501_44 : decode prog_30_method_4_code 44 = .ok (.aload_n 0, 1) := by decide +kernel
theorem zd_501_45 : decode prog_30_method_4_code 45 = .ok (.iload_n 1, 1) := by decide +kernel
theorem zd_501_46 : decode prog_30_method_4_code 46 = .ok (.iload_n 2, 1) := by decide +kernel
theorem zd_501_47 : decode prog_30_method_4_code 47 = .ok (.getstatic 63, 3) := by decide +kernel
theorem zd_501_50 : decode prog_30_method_4_code 50 = .ok (.ishr, 1) := by decide +kernel
theorem zd_501_51 : decode prog_30_method_4_code 51 = .ok (.i2b, 1) := by decide +kernel
theorem zd_501_52 : decode prog_30_method_4_code 52 = .ok (.bastore, 1) := by decide +kernel
theorem zd_502_0 : decode prog_14_method_26_code 0 = .ok (.aload_n 0, 1) := by decide +kernel
theorem zd_502_1 : decode prog_14_method_26_code 1 = .ok (.iload_n 1, 1) := by decide +kernel
theorem zd_502_2 : decode prog_14_method_26_code 2 = .ok (.invokevirtual 595, 3) := by decide +kernel
theorem zd_502_5 : decode prog_14_method_26_code 5 = .ok (.istore 4, 2) := by decide +kernel
theorem zd_502_7 : decode prog_14_method_26_code 7 = .ok (.iload 4, 2) := by decide +kernel
theorem zd_502_9 : decode prog_14_method_26_code 9 = .ok (.ifCond .lt 31, 3) := by decide +kernel
theorem zd_502_12 : decode prog_14_method_26_code 12 = .ok (.iload_n 2, 1) := by decide +kernel
theorem zd_502_13 : decode prog_14_method_26_code 13 = .ok (.aload_n 0, 1) := by decide +kernel
theorem zd_502_14 : decode prog_14_method_26_code 14 = .ok (.getfield 187, 3) := by decide +kernel
theorem zd_502_17 : decode prog_14_method_26_code 17 = .ok (.iload 4, 2) := by decide +kernel
theorem zd_502_19 : decode prog_14_method_26_code 19 = .ok (.iaload, 1) := by decide +kernel
theorem zd_502_20 : decode prog_14_method_26_code 20 = .ok (.ifCond .le 7, 3) := by decide +kernel
theorem zd_502_23 : decode prog_14_method_26_code 23 = .ok (.iconst 2, 1) := by decide +kernel
theorem zd_502_24 : decode prog_14_method_26_code 24 = .ok (.goto 4, 3) := by decide +kernel
theorem zd_502_27 : decode prog_14_method_26_code 27 = .ok (.iconst 1, 1) := by decide +kernel
theorem zd_502_28 : decode prog_14_method_26_code 28 = .ok (.if_icmp .eq 9, 3) := by decide +kernel
theorem zd_502_31 : decode prog_14_method_26_code 31 = .ok (.aload_n 0, 1) := by decide +kernel
theorem zd_502_32 : decode prog_14_method_26_code 32 = .ok (.iconst 3, 1) := by decide +kernel
theorem zd_502_33 : decode prog_14_method_26_code 33 = .ok (.iload_n 3, 1) := by decide +kernel
theorem zd_502_34 : decode prog_14_method_26_code 34 = .ok (.invokevirtual 579, 3) := by decide +kernel
theorem zd_502_37 : decode prog_14_method_26_code 37 = .ok (.iload 4, 2) := by decide +kernel
theorem zd_502_40 : decode prog_14_method_26_code 40 = .ok (.aload_n 0, 1) := by decide +kernel
theorem zd_502_41 : decode prog_14_method_26_code 41 = .ok (.getfield 196, 3) := by decide +kernel
theorem zd_502_44 : decode prog_14_method_26_code 44 = .ok (.aload_n 0, 1) := by decide +kernel
theorem zd_502_45 : decode prog_14_method_26_code 45 = .ok (.getfield 598, 3) := by decide +kernel
theorem zd_502_48 : decode prog_14_method_26_code 48 = .ok (.iload_n 1, 1) := by decide +kernel
theorem zd_502_49 : decode prog_14_method_26_code 49 = .ok (.iastore, 1) := by decide +kernel
theorem zd_502_50 : decode prog_14_method_26_code 50 = .ok (.aload_n 0, 1) := by decide +kernel
theorem zd_502_51 : decode prog_14_method_26_code 51 = .ok (.getfield 199, 3) := by decide +kernel
theorem zd_502_54 : decode prog_14_method_26_code 54 = .ok (.aload_n 0, 1) := by decide +kernel
theorem zd_502_55 : decode prog_14_method_26_code 55 = .ok (.getfield 598, 3) := by decide +kernel
theorem zd_502_58 : decode prog_14_method_26_code 58 = .ok (.iload_n 2, 1) := by decide +kernel
theorem zd_502_59 : decode prog_14_method_26_code 59 = .ok (.iastore, 1) := by decide +kernel
theorem zd_502_60 : decode prog_14_method_26_code 60 = .ok (.aload_n 0, 1) := by decide +kernel
theorem zd_502_61 : decode prog_14_method_26_code 61 = .ok (.getfield 202, 3) := by decide +kernel
theorem zd_502_64 : decode prog_14_method_26_code 64 = .ok (.aload_n 0, 1) := by decide +kernel
theorem zd_502_65 : decode prog_14_method_26_code 65 = .ok (.getfield 598, 3) := by decide +kernel
theorem zd_502_68 : decode prog_14_method_26_code 68 = .ok (.iload_n 3, 1) := by decide +kernel
theorem zd_502_69 : decode prog_14_method_26_code 69 = .ok (.iastore, 1) := by decide +kernel
theorem zd_502_70 : decode prog_14_method_26_code 70 = .ok (.aload_n 0, 1) := by decide +kernel
theorem zd_502_71 : decode prog_14_method_26_code 71 = .ok (.dup, 1) := by decide +kernel
theorem zd_502_72 : decode prog_14_method_26_code 72 = .ok (.getfield 598, 3) := by decide +kernel
theorem zd_502_75 : decode prog_14_method_26_code 75 = .ok (.iconst 1, 1) := by decide +kernel
theorem zd_502_76 : decode prog_14_method_26_code 76 = .ok (.iadd, 1) := by decide +kernel
theorem zd_502_77 : decode prog_14_method_26_code 77 = .ok (.putfield 598, 3) := by decide +kernel
theorem zd_502_80 : decode prog_14_method_26_code 80 = .ok (.iconst (-1), 1) := by decide +kernel
theorem zd_503_0 : decode prog_14_method_27_code 0 = .ok (.iload_n 1, 1) := by decide +kernel
theorem zd_503_1 : decode prog_14_method_27_code 1 = .ok (.ifCond .ge 7, 3) := by decide +kernel
theorem zd_503_4 : decode prog_14_method_27_code 4 = .ok (.iconst (-1), 1) := by decide +kernel
theorem zd_503_5 : decode prog_14_method_27_code 5 = .ok (.goto 9, 3) := by decide +kernel
theorem zd_503_8 : decode prog_14_method_27_code 8 = .ok (.aload_n 0, 1) := by decide +kernel
theorem zd_503_9 : decode prog_14_method_27_code 9 = .ok (.getfield 190, 3) := by decide +kernel
theorem zd_503_12 : decode prog_14_method_27_code 12 = .ok (.iload_n 1, 1) := by decide +kernel
theorem zd_503_13 : decode prog_14_method_27_code 13 = .ok (.iaload, 1) := by decide +kernel
theorem zd_504_0 : decode prog_14_method_28_code 0 = .ok (.iload_n 1, 1) := by decide +kernel
theorem zd_504_1 : decode prog_14_method_28_code 1 = .ok (.ifCond .ge 7, 3) := by decide +kernel
theorem zd_504_4 : decode prog_14_method_28_code 4 = .ok (.iconst 0, 1) := by decide +kernel
theorem zd_504_5 : decode prog_14_method_28_code 5 = .ok (.goto 9, 3) := by decide +kernel
theorem zd_504_8 : decode prog_14_method_28_code 8 = .ok (.aload_n 0, 1) := by decide +kernel
theorem zd_504_9 : decode prog_14_method_28_code 9 = .ok (.getfield 187, 3) := by decide +kernel
theorem zd_504_12 : decode prog_14_method_28_code 12 = .ok (.iload_n 1, 1) := by decide +kernel
theorem zd_504_13 : decode prog_14_method_28_code 13 = .ok (.iaload, 1) := by decide +kernel
theorem zd_505_0 : decode prog_14_method_35_code 0 = .ok (.aload_n 0, 1) := by decide +kernel
theorem zd_505_1 : decode prog_14_method_35_code 1 = .ok (.invokevirtual 628, 3) := by decide +kernel
theorem zd_505_4 : decode prog_14_method_35_code 4 = .ok (.aload_n 0, 1) := by decide +kernel
theorem zd_505_5 : decode prog_14_method_35_code 5 = .ok (.dup, 1) := by decide +kernel
theorem zd_505_6 : decode prog_14_method_35_code 6 = .ok (.getfield 576, 3) := by decide +kernel
theorem zd_505_9 : decode prog_14_method_35_code 9 = .ok (.iconst 1, 1) := by decide +kernel
theorem zd_505_10 : decode prog_14_method_35_code 10 = .ok (.iadd, 1) := by decide +kernel
theorem zd_505_11 : decode prog_14_method_35_code 11 = .ok (.putfield 576, 3) := by decide +kernel
theorem zd_505_14 : decode prog_14_method_35_code 14 = .ok (.aload_n 0, 1) := by decide +kernel
theorem zd_505_15 : decode prog_14_method_35_code 15 = .ok (.bipush 41, 2) := by decide +kernel
theorem zd_505_17 : decode prog_14_method_35_code 17 = .ok (.invokevirtual 583, 3) := by decide +kernel
theorem zd_505_20 : decode prog_14_method_35_code 20 = .ok (.ifCond .eq 35, 3) := by decide +kernel
theorem zd_505_23 : decode prog_14_method_35_code 23 = .ok (.aload_n 0, 1) := by decide +kernel
theorem zd_505_24 : decode prog_14_method_35_code 24 = .ok (.dup, 1) := by decide +kernel
theorem zd_505_25 : decode prog_14_method_35_code 25 = .ok (.getfield 576, 3) := by decide +kernel
theorem zd_505_28 : decode prog_14_method_35_code 28 = .ok (.iconst 1, 1) := by decide +kernel
theorem zd_505_29 : decode prog_14_method_35_code 29 = .ok (.iadd, 1) := by decide +kernel
theorem zd_505_30 : decode prog_14_method_35_code 30 = .ok (.putfield 576, 3) := by decide +kernel
theorem zd_505_33 : decode prog_14_method_35_code 33 = .ok (.aload_n 0, 1) := by decide +kernel
theorem zd_505_34 : decode prog_14_method_35_code 34 = .ok (.dup, 1) := by decide +kernel
theorem zd_505_35 : decode prog_14_method_35_code 35 = .ok (.getfield 601, 3) := by decide +kernel
theorem zd_505_38 : decode prog_14_method_35_code 38 = .ok (.iconst 1, 1) := by decide +kernel
theorem zd_505_39 : decode prog_14_method_35_code 39 = .ok (.isub, 1) := by decide +kernel
theorem zd_505_40 : decode prog_14_method_35_code 40 = .ok (.putfield 601, 3) := by decide +kernel
theorem zd_505_43 : decode prog_14_method_35_code 43 = .ok (.aload_n 0, 1) := by decide +kernel
theorem zd_505_44 : decode prog_14_method_35_code 44 = .ok (.iload_n 1, 1) := by decide +kernel
theorem zd_505_45 : decode prog_14_method_35_code 45 = .ok (.iload_n 2, 1) := by decide +kernel
theorem zd_505_46 : decode prog_14_method_35_code 46 = .ok (.iconst 0, 1) := by decide +kernel
theorem zd_505_47 : decode prog_14_method_35_code 47 = .ok (.iload_n 3, 1) := by decide +kernel
theorem zd_505_48 : decode prog_14_method_35_code 48 = .ok (.iload 4, 2) := by decide +kernel
theorem zd_505_50 : decode prog_14_method_35_code 50 = .ok (.invokevirtual 645, 3) := by decide +kernel
theorem zd_505_53 : decode prog_14_method_35_code 53 = .ok (.iconst 1, 1) := by decide +kernel
theorem zd_505_55 : decode prog_14_method_35_code 55 = .ok (.aload_n 0, 1) := by decide +kernel
theorem zd_505_56 : decode prog_14_method_35_code 56 = .ok (.iconst 3, 1) := by decide +kernel
theorem zd_505_57 : decode prog_14_method_35_code 57 = .ok (.iload_n 3, 1) := by decide +kernel
theorem zd_505_58 : decode prog_14_method_35_code 58 = .ok (.iload_n 1, 1) := by decide +kernel
theorem zd_505_59 : decode prog_14_method_35_code 59 = .ok (.iload_n 2, 1) := by decide +kernel
theorem zd_505_60 : decode prog_14_method_35_code 60 = .ok (.invokevirtual 634, 3) := by decide +kernel
theorem zd_505_63 : decode prog_14_method_35_code 63 = .ok (.aload_n 0, 1) := by decide +kernel
theorem zd_505_64 : decode prog_14_method_35_code 64 = .ok (.getfield 262, 3) := by decide +kernel
theorem zd_505_67 : decode prog_14_method_35_code 67 = .ok (.aload_n 0, 1) := by decide +kernel
theorem zd_505_68 : decode prog_14_method_35_code 68 = .ok (.getfield 604, 3) := by decide +kernel
theorem zd_505_71 : decode prog_14_method_35_code 71 = .ok (.iconst 1, 1) := by decide +kernel
theorem zd_505_72 : decode prog_14_method_35_code 72 = .ok (.isub, 1) := by decide +kernel
theorem zd_505_73 : decode prog_14_method_35_code 73 = .ok (.iload 4, 2) := by decide +kernel
theorem zd_505_75 : decode prog_14_method_35_code 75 = .ok (.bastore, 1) := by decide +kernel
theorem zd_505_76 : decode prog_14_method_35_code 76 = .ok (.iconst 0, 1) := by decide +kernel
theorem zd_506_0 : decode prog_14_method_41_code 0 = .ok (.iconst 0, 1) := by decide +kernel
theorem zd_506_1 : decode prog_14_method_41_code 1 = .ok (.istore_n 1, 1) := by decide +kernel
theorem zd_506_2 : decode prog_14_method_41_code 2 = .ok (.aload_n 0, 1) := by decide +kernel
theorem zd_506_3 : decode prog_14_method_41_code 3 = .ok (.getfield 572, 3) := by decide +kernel
theorem zd_506_6 : decode prog_14_method_41_code 6 = .ok (.ifCond .ne 52, 3) := by decide +kernel
theorem zd_506_9 : decode prog_14_method_41_code 9 = .ok (.iload_n 1, 1) := by decide +kernel
theorem zd_506_10 : decode prog_14_method_41_code 10 = .ok (.ifCond .ne 11, 3) := by decide +kernel
theorem zd_506_13 : decode prog_14_method_41_code 13 = .ok (.aload_n 0, 1) := by decide +kernel
theorem zd_506_14 : decode prog_14_method_41_code 14 = .ok (.invokevirtual 661, 3) := by decide +kernel
theorem zd_506_17 : decode prog_14_method_41_code 17 = .ok (.istore_n 1, 1) := by decide +kernel
theorem zd_506_18 : decode prog_14_method_41_code 18 = .ok (.goto (-16), 3) := by decide +kernel
theorem zd_506_21 : decode prog_14_method_41_code 21 = .ok (.aload_n 0, 1) := by decide +kernel
theorem zd_506_22 : decode prog_14_method_41_code 22 = .ok (.invokevirtual 665, 3) := by decide +kernel
theorem zd_506_25 : decode prog_14_method_41_code 25 = .ok (.ifCond .eq 8, 3) := by decide +kernel
theorem zd_506_28 : decode prog_14_method_41_code 28 = .ok (.iconst 0, 1) := by decide +kernel
theorem zd_506_29 : decode prog_14_method_41_code 29 = .ok (.istore_n 1, 1) := by decide +kernel
theorem zd_506_30 : decode prog_14_method_41_code 30 = .ok (.goto (-28), 3) := by decide +kernel
theorem zd_506_33 : decode prog_14_method_41_code 33 = .ok (.aload_n 0, 1) := by decide +kernel
theorem zd_506_34 : decode prog_14_method_41_code 34 = .ok (.invokevirtual 668, 3) := by decide +kernel
theorem zd_506_37 : decode prog_14_method_41_code 37 = .ok (.istore_n 2, 1) := by decide +kernel
theorem zd_506_38 : decode prog_14_method_41_code 38 = .ok (.iload_n 2, 1) := by decide +kernel
theorem zd_506_39 : decode prog_14_method_41_code 39 = .ok (.iconst 2, 1) := by decide +kernel
theorem zd_506_40 : decode prog_14_method_41_code 40 = .ok (.if_icmp .ne 4, 3) := by decide +kernel
theorem zd_506_44 : decode prog_14_method_41_code 44 = .ok (.iload_n 2, 1) := by decide +kernel
theorem zd_506_45 : decode prog_14_method_41_code 45 = .ok (.iconst 1, 1) := by decide +kernel
theorem zd_506_46 : decode prog_14_method_41_code 46 = .ok (.if_icmp .ne 7, 3) := by decide +kernel
theorem zd_506_49 : decode prog_14_method_41_code 49 = .ok (.iconst 1, 1) := by decide +kernel
theorem zd_506_50 : decode prog_14_method_41_code 50 = .ok (.goto 4, 3) := by decide +kernel
theorem zd_506_53 : decode prog_14_method_41_code 53 = .ok (.iconst 0, 1) := by decide +kernel
theorem zd_506_54 : decode prog_14_method_41_code 54 = .ok (.istore_n 1, 1) := by decide +kernel
theorem zd_506_55 : decode prog_14_method_41_code 55 = .ok (.goto (-53), 3) := by decide +kernel
theorem zd_507_0 : decode prog_14_method_30_code 0 = .ok (.aload_n 0, 1) := by decide +kernel
theorem zd_507_1 : decode prog_14_method_30_code 1 = .ok (.getfield 226, 3) := by decide +kernel
theorem zd_507_4 : decode prog_14_method_30_code 4 = .ok (.aload_n 0, 1) := by decide +kernel
theorem zd_507_5 : decode prog_14_method_30_code 5 = .ok (.getfield 604, 3) := by decide +kernel
theorem zd_507_8 : decode prog_14_method_30_code 8 = .ok (.iload_n 1, 1) := by decide +kernel
theorem zd_507_9 : decode prog_14_method_30_code 9 = .ok (.iastore, 1) := by decide +kernel
theorem zd_507_10 : decode prog_14_method_30_code 10 = .ok (.aload_n 0, 1) := by decide +kernel
theorem zd_507_11 : decode prog_14_method_30_code 11 = .ok (.getfield 259, 3) := by decide +kernel
theorem zd_507_14 : decode prog_14_method_30_code 14 = .ok (.aload_n 0, 1) := by decide +kernel
theorem zd_507_15 : decode prog_14_method_30_code 15 = .ok (.getfield 604, 3) := by decide +kernel
theorem zd_507_18 : decode prog_14_method_30_code 18 = .ok (.iload_n 2, 1) := by decide +kernel
theorem zd_507_19 : decode prog_14_method_30_code 19 = .ok (.iastore, 1) := by decide +kernel
theorem zd_507_20 : decode prog_14_method_30_code 20 = .ok (.aload_n 0, 1) := by decide +kernel
theorem zd_507_21 : decode prog_14_method_30_code 21 = .ok (.getfield 250, 3) := by decide +kernel
theorem zd_507_24 : decode prog_14_method_30_code 24 = .ok (.aload_n 0, 1) := by decide +kernel
theorem zd_507_25 : decode prog_14_method_30_code 25 = .ok (.getfield 604, 3) := by decide +kernel
theorem zd_507_28 : decode prog_14_method_30_code 28 = .ok (.iload_n 3, 1) := by decide +kernel
theorem zd_507_29 : decode prog_14_method_30_code 29 = .ok (.iastore, 1) := by decide +kernel
theorem zd_507_30 : decode prog_14_method_30_code 30 = .ok (.aload_n 0, 1) := by decide +kernel
theorem zd_507_31 : decode prog_14_method_30_code 31 = .ok (.getfield 253, 3) := by decide +kernel
theorem zd_507_34 : decode prog_14_method_30_code 34 = .ok (.aload_n 0, 1) := by decide +kernel
theorem zd_507_35 : decode prog_14_method_30_code 35 = .ok (.getfield 604, 3) := by decide +kernel
theorem zd_507_38 : decode prog_14_method_30_code 38 = .ok (.iload 4, 2) := by decide +kernel
theorem zd_507_40 : decode prog_14_method_30_code 40 = .ok (.iastore, 1) := by decide +kernel
theorem zd_507_41 : decode prog_14_method_30_code 41 = .ok (.aload_n 0, 1) := by decide +kernel
theorem zd_507_42 : decode prog_14_method_30_code 42 = .ok (.getfield 256, 3) := by decide +kernel
theorem zd_507_45 : decode prog_14_method_30_code 45 = .ok (.aload_n 0, 1) := by decide +kernel
theorem zd_507_46 : decode prog_14_method_30_code 46 = .ok (.getfield 604, 3) := by decide +kernel
theorem zd_507_49 : decode prog_14_method_30_code 49 = .ok (.iconst 0, 1) := by decide +kernel
theorem zd_507_50 : decode prog_14_method_30_code 50 = .ok (.iastore, 1) := by decide +kernel
theorem zd_507_51 : decode prog_14_method_30_code 51 = .ok (.aload_n 0, 1) := by decide +kernel
theorem zd_507_52 : decode prog_14_method_30_code 52 = .ok (.getfield 262, 3) := by decide +kernel
theorem zd_507_55 : decode prog_14_method_30_code 55 = .ok (.aload_n 0, 1) := by decide +kernel
theorem zd_507_56 : decode prog_14_method_30_code 56 = .ok (.getfield 604, 3) := by decide +kernel
theorem zd_507_59 : decode prog_14_method_30_code 59 = .ok (.iconst 0, 1) := by decide +kernel
theorem zd_507_60 : decode prog_14_method_30_code 60 = .ok (.bastore, 1) := by decide +kernel
theorem zd_507_61 : decode prog_14_method_30_code 61 = .ok (.aload_n 0, 1) := by decide +kernel
theorem zd_507_62 : decode prog_14_method_30_code 62 = .ok (.dup, 1) := by decide +kernel
theorem zd_507_63 : decode prog_14_method_30_code 63 = .ok (.getfield 604, 3) := by decide +kernel
theorem zd_507_66 : decode prog_14_method_30_code 66 = .ok (.iconst 1, 1) := by decide +kernel
theorem zd_507_67 : decode prog_14_method_30_code 67 = .ok (.iadd, 1) := by decide +kernel
theorem zd_507_68 : decode prog_14_method_30_code 68 = .ok (.putfield 604, 3) := by decide +kernel
theorem zd_507_71 : decode prog_14_method_30_code 71 = .ok (.aload_n 0, 1) := by decide +kernel
theorem zd_507_72 : decode prog_14_method_30_code 72 = .ok (.iload_n 2, 1) := by decide +kernel
theorem zd_507_73 : decode prog_14_method_30_code 73 = .ok (.invokevirtual 607, 3) := by decide +kernel
theorem zd_508_0 : decode prog_14_method_163_code 0 = .ok (.iconst (-1), 1) := by decide +kernel
theorem zd_508_1 : decode prog_14_method_163_code 1 = .ok (.istore_n 2, 1) := by decide +kernel
theorem zd_508_2 : decode prog_14_method_163_code 2 = .ok (.iconst 0, 1) := by decide +kernel
theorem zd_508_3 : decode prog_14_method_163_code 3 = .ok (.istore_n 3, 1) := by decide +kernel
theorem zd_508_4 : decode prog_14_method_163_code 4 = .ok (.iload_n 3, 1) := by decide +kernel
theorem zd_508_5 : decode prog_14_method_163_code 5 = .ok (.aload_n 0, 1) := by decide +kernel
theorem zd_508_6 : decode prog_14_method_163_code 6 = .ok (.getfield 1450, 3) := by decide +kernel
theorem zd_508_9 : decode prog_14_method_163_code 9 = .ok (.if_icmp .ge 25, 3) := by decide +kernel
theorem zd_508_12 : decode prog_14_method_163_code 12 = .ok (.aload_n 0, 1) := by decide +kernel
theorem zd_508_13 : decode prog_14_method_163_code 13 = .ok (.getfield 335, 3) := by decide +kernel
theorem zd_508_16 : decode prog_14_method_163_code 16 = .ok (.iload_n 3, 1) := by decide +kernel
theorem zd_508_17 : decode prog_14_method_163_code 17 = .ok (.iaload, 1) := by decide +kernel
theorem zd_508_18 : decode prog_14_method_163_code 18 = .ok (.iload_n 1, 1) := by decide +kernel
theorem zd_508_19 : decode prog_14_method_163_code 19 = .ok (.if_icmp .ne 7, 3) := by decide +kernel
theorem zd_508_22 : decode prog_14_method_163_code 22 = .ok (.iload_n 3, 1) := by decide +kernel
theorem zd_508_23 : decode prog_14_method_163_code 23 = .ok (.goto 4, 3) := by decide +kernel
theorem zd_508_26 : decode prog_14_method_163_code 26 = .ok (.iload_n 2, 1) := by decide +kernel
theorem zd_508_27 : decode prog_14_method_163_code 27 = .ok (.istore_n 2, 1) := by decide +kernel
theorem zd_508_28 : decode prog_14_method_163_code 28 = .ok (.iinc 3 1, 3) := by decide +kernel
theorem zd_508_31 : decode prog_14_method_163_code 31 = .ok (.goto (-27), 3) := by decide +kernel
theorem zd_508_34 : decode prog_14_method_163_code 34 = .ok (.iload_n 2, 1) := by decide +kernel
theorem zd_509_0 : decode prog_14_method_168_code 0 = .ok (.aload_n 0, 1) := by decide +kernel
theorem zd_509_1 : decode prog_14_method_168_code 1 = .ok (.getfield 1447, 3) := by decide +kernel
theorem zd_509_4 : decode prog_14_method_168_code 4 = .ok (.istore_n 2, 1) := by decide +kernel
theorem zd_509_5 : decode prog_14_method_168_code 5 = .ok (.iconst 0, 1) := by decide +kernel
theorem zd_509_6 : decode prog_14_method_168_code 6 = .ok (.istore_n 3, 1) := by decide +kernel
theorem zd_509_7 : decode prog_14_method_168_code 7 = .ok (.iconst 1, 1) := by decide +kernel
theorem zd_509_8 : decode prog_14_method_168_code 8 = .ok (.istore 4, 2) := by decide +kernel
theorem zd_509_10 : decode prog_14_method_168_code 10 = .ok (.aload_n 0, 1) := by decide +kernel
theorem zd_509_11 : decode prog_14_method_168_code 11 = .ok (.getfield 1468, 3) := by decide +kernel
theorem zd_509_14 : decode prog_14_method_168_code 14 = .ok (.istore 5, 2) := by decide +kernel
theorem zd_509_16 : decode prog_14_method_168_code 16 = .ok (.aload_n 0, 1) := by decide +kernel
theorem zd_509_17 : decode prog_14_method_168_code 17 = .ok (.invokevirtual 1225, 3) := by decide +kernel
theorem zd_509_20 : decode prog_14_method_168_code 20 = .ok (.aload_n 0, 1) := by decide +kernel
theorem zd_509_21 : decode prog_14_method_168_code 21 = .ok (.getfield 1219, 3) := by decide +kernel
theorem zd_509_24 : decode prog_14_method_168_code 24 = .ok (.aload_n 0, 1) := by decide +kernel
theorem zd_509_25 : decode prog_14_method_168_code 25 = .ok (.getfield 1204, 3) := by decide +kernel
theorem zd_509_28 : decode prog_14_method_168_code 28 = .ok (.if_icmp .ge 228, 3) := by decide +kernel
theorem zd_509_31 : decode prog_14_method_168_code 31 = .ok (.iload 4, 2) := by decide +kernel
theorem zd_509_33 : decode prog_14_method_168_code 33 = .ok (.ifCond .eq 223, 3) := by decide +kernel
theorem zd_509_36 : decode prog_14_method_168_code 36 = .ok (.aload_n 0, 1) := by decide +kernel
theorem zd_509_37 : decode prog_14_method_168_code 37 = .ok (.getfield 1219, 3) := by decide +kernel
theorem zd_509_40 : decode prog_14_method_168_code 40 = .ok (.istore 6, 2) := by decide +kernel
theorem zd_509_42 : decode prog_14_method_168_code 42 = .ok (.iload 6, 2) := by decide +kernel
theorem zd_509_44 : decode prog_14_method_168_code 44 = .ok (.aload_n 0, 1) := by decide +kernel
theorem zd_509_45 : decode prog_14_method_168_code 45 = .ok (.getfield 1204, 3) := by decide +kernel
theorem zd_509_48 : decode prog_14_method_168_code 48 = .ok (.if_icmp .ge 21, 3) := by decide +kernel
theorem zd_509_51 : decode prog_14_method_168_code 51 = .ok (.aload_n 0, 1) := by decide +kernel
theorem zd_509_52 : decode prog_14_method_168_code 52 = .ok (.getfield 298, 3) := by decide +kernel
theorem zd_509_55 : decode prog_14_method_168_code 55 = .ok (.iload 6, 2) := by decide +kernel
theorem zd_509_57 : decode prog_14_method_168_code 57 = .ok (.iaload, 1) := by decide +kernel
theorem zd_509_58 : decode prog_14_method_168_code 58 = .ok (.bipush 44, 2) := by decide +kernel
theorem zd_509_60 : decode prog_14_method_168_code 60 = .ok (.if_icmp .eq 9, 3) := by decide +kernel
theorem zd_509_63 : decode prog_14_method_168_code 63 = .ok (.iinc 6 1, 3) := by decide +kernel
theorem zd_509_66 : decode prog_14_method_168_code 66 = .ok (.goto (-24), 3) := by decide +kernel
theorem zd_509_69 : decode prog_14_method_168_code 69 = .ok (.aload_n 0, 1) := by decide +kernel
theorem zd_509_70 : decode prog_14_method_168_code 70 = .ok (.getfield 1219, 3) := by decide +kernel
theorem zd_509_73 : decode prog_14_method_168_code 73 = .ok (.istore 7, 2) := by decide +kernel
theorem zd_509_75 : decode prog_14_method_168_code 75 = .ok (.iload 6, 2) := by decide +kernel
theorem zd_509_77 : decode prog_14_method_168_code 77 = .ok (.istore 8, 2) := by decide +kernel
theorem zd_509_79 : decode prog_14_method_168_code 79 = .ok (.iload 7, 2) := by decide +kernel
theorem zd_509_81 : decode prog_14_method_168_code 81 = .ok (.iload 8, 2) := by decide +kernel
theorem zd_509_83 : decode prog_14_method_168_code 83 = .ok (.if_icmp .ge 21, 3) := by decide +kernel
theorem zd_509_86 : decode prog_14_method_168_code 86 = .ok (.aload_n 0, 1) := by decide +kernel
theorem zd_509_87 : decode prog_14_method_168_code 87 = .ok (.getfield 298, 3) := by decide +kernel
theorem zd_509_90 : decode prog_14_method_168_code 90 = .ok (.iload 7, 2) := by decide +kernel
theorem zd_509_92 : decode prog_14_method_168_code 92 = .ok (.iaload, 1) := by decide +kernel
theorem zd_509_93 : decode prog_14_method_168_code 93 = .ok (.bipush 32, 2) := by decide +kernel
theorem zd_509_95 : decode prog_14_method_168_code 95 = .ok (.if_icmp .ne 9, 3) := by decide +kernel
theorem zd_509_98 : decode prog_14_method_168_code 98 = .ok (.iinc 7 1, 3) := by decide +kernel
theorem zd_509_101 : decode prog_14_method_168_code 101 = .ok (.goto (-22), 3) := by decide +kernel
theorem zd_509_104 : decode prog_14_method_168_code 104 = .ok (.iload 7, 2) := by decide +kernel
theorem zd_509_106 : decode prog_14_method_168_code 106 = .ok (.iload 8, 2) := by decide +kernel
theorem zd_509_108 : decode prog_14_method_168_code 108 = .ok (.if_icmp .ge 23, 3) := by decide +kernel
theorem zd_509_111 : decode prog_14_method_168_code 111 = .ok (.aload_n 0, 1) := by decide +kernel
theorem zd_509_112 : decode prog_14_method_168_code 112 = .ok (.getfield 298, 3) := by decide +kernel
theorem zd_509_115 : decode prog_14_method_168_code 115 = .ok (.iload 8, 2) := by decide +kernel
theorem zd_509_117 : decode prog_14_method_168_code 117 = .ok (.iconst 1, 1) := by decide +kernel
theorem zd_509_118 : decode prog_14_method_168_code 118 = .ok (.isub, 1) := by decide +kernel
theorem zd_509_119 : decode prog_14_method_168_code 119 = .ok (.iaload, 1) := by decide +kernel
theorem zd_509_120 : decode prog_14_method_168_code 120 = .ok (.bipush 32, 2) := by decide +kernel
theorem zd_509_122 : decode prog_14_method_168_code 122 = .ok (.if_icmp .ne 9, 3) := by decide +kernel
theorem zd_509_125 : decode prog_14_method_168_code 125 = .ok (.iinc 8 (-1), 3) := by decide +kernel
theorem zd_509_128 : decode prog_14_method_168_code 128 = .ok (.goto (-24), 3) := by decide +kernel
theorem zd_509_131 : decode prog_14_method_168_code 131 = .ok (.iload 7, 2) := by decide +kernel
theorem zd_509_133 : decode prog_14_method_168_code 133 = .ok (.iload 8, 2) := by decide +kernel
theorem zd_509_135 : decode prog_14_method_168_code 135 = .ok (.if_icmp .ge 12, 3) := by decide +kernel
theorem zd_509_138 : decode prog_14_method_168_code 138 = .ok (.iload_n 3, 1) := by decide +kernel
theorem zd_509_139 : decode prog_14_method_168_code 139 = .ok (.iconst 4, 1) := by decide +kernel
theorem zd_509_140 : decode prog_14_method_168_code 140 = .ok (.if_icmp .ge 7, 3) := by decide +kernel
theorem zd_509_143 : decode prog_14_method_168_code 143 = .ok (.iconst 1, 1) := by decide +kernel
theorem zd_509_144 : decode prog_14_method_168_code 144 = .ok (.goto 4, 3) := by decide +kernel
theorem zd_509_147 : decode prog_14_method_168_code 147 = .ok (.iconst 0, 1) := by decide +kernel
theorem zd_509_148 : decode prog_14_method_168_code 148 = .ok (.istore 4, 2) := by decide +kernel
theorem zd_509_150 : decode prog_14_method_168_code 150 = .ok (.iload 4, 2) := by decide +kernel
theorem zd_509_152 : decode prog_14_method_168_code 152 = .ok (.ifCond .eq 67, 3) := by decide +kernel
theorem zd_509_155 : decode prog_14_method_168_code 155 = .ok (.iload_n 2, 1) := by decide +kernel
theorem zd_509_156 : decode prog_14_method_168_code 156 = .ok (.bipush 12, 2) := by decide +kernel
theorem zd_509_158 : decode prog_14_method_168_code 158 = .ok (.if_icmp .ge 61, 3) := by decide +kernel
theorem zd_509_161 : decode prog_14_method_168_code 161 = .ok (.aload_n 0, 1) := by decide +kernel
theorem zd_509_162 : decode prog_14_method_168_code 162 = .ok (.getfield 329, 3) := by decide +kernel
theorem zd_509_165 : decode prog_14_method_168_code 165 = .ok (.iconst 4, 1) := by decide +kernel
theorem zd_509_166 : decode prog_14_method_168_code 166 = .ok (.iload_n 2, 1) := by decide +kernel
theorem zd_509_167 : decode prog_14_method_168_code 167 = .ok (.imul, 1) := by decide +kernel
theorem zd_509_168 : decode prog_14_method_168_code 168 = .ok (.iload_n 3, 1) := by decide +kernel
theorem zd_509_169 : decode prog_14_method_168_code 169 = .ok (.iadd, 1) := by decide +kernel
theorem zd_509_170 : decode prog_14_method_168_code 170 = .ok (.iload 5, 2) := by decide +kernel
theorem zd_509_172 : decode prog_14_method_168_code 172 = .ok (.iastore, 1) := by decide +kernel
theorem zd_509_173 : decode prog_14_method_168_code 173 = .ok (.iload 7, 2) := by decide +kernel
theorem zd_509_175 : decode prog_14_method_168_code 175 = .ok (.istore 9, 2) := by decide +kernel
theorem zd_509_177 : decode prog_14_method_168_code 177 = .ok (.iload 9, 2) := by decide +kernel
theorem zd_509_179 : decode prog_14_method_168_code 179 = .ok (.iload 8, 2) := by decide +kernel
theorem zd_509_181 : decode prog_14_method_168_code 181 = .ok (.if_icmp .ge 26, 3) := by decide +kernel
theorem zd_509_184 : decode prog_14_method_168_code 184 = .ok (.aload_n 0, 1) := by decide +kernel
theorem zd_509_185 : decode prog_14_method_168_code 185 = .ok (.getfield 326, 3) := by decide +kernel
theorem zd_509_188 : decode prog_14_method_168_code 188 = .ok (.iload 5, 2) := by decide +kernel
theorem zd_509_190 : decode prog_14_method_168_code 190 = .ok (.aload_n 0, 1) := by decide +kernel
theorem zd_509_191 : decode prog_14_method_168_code 191 = .ok (.getfield 298, 3) := by decide +kernel
theorem zd_509_194 : decode prog_14_method_168_code 194 = .ok (.iload 9, 2) := by decide +kernel
theorem zd_509_196 : decode prog_14_method_168_code 196 = .ok (.iaload, 1) := by decide +kernel
theorem zd_509_197 : decode prog_14_method_168_code 197 = .ok (.iastore, 1) := by decide +kernel
theorem zd_509_198 : decode prog_14_method_168_code 198 = .ok (.iinc 5 1, 3) := by decide +kernel
theorem zd_509_201 : decode prog_14_method_168_code 201 = .ok (.iinc 9 1, 3) := by decide +kernel
theorem zd_509_204 : decode prog_14_method_168_code 204 = .ok (.goto (-27), 3) := by decide +kernel
theorem zd_509_207 : decode prog_14_method_168_code 207 = .ok (.aload_n 0, 1) := by decide +kernel
theorem zd_509_208 : decode prog_14_method_168_code 208 = .ok (.getfield 332, 3) := by decide +kernel
theorem zd_509_211 : decode prog_14_method_168_code 211 = .ok (.iconst 4, 1) := by decide +kernel
theorem zd_509_212 : decode prog_14_method_168_code 212 = .ok (.iload_n 2, 1) := by decide +kernel
theorem zd_509_213 : decode prog_14_method_168_code 213 = .ok (.imul, 1) := by decide +kernel
theorem zd_509_214 : decode prog_14_method_168_code 214 = .ok (.iload_n 3, 1) := by decide +kernel
theorem zd_509_215 : decode prog_14_method_168_code 215 = .ok (.iadd, 1) := by decide +kernel
theorem zd_509_216 : decode prog_14_method_168_code 216 = .ok (.iload 5, 2) := by decide +kernel
theorem zd_509_218 : decode prog_14_method_168_code 218 = .ok (.iastore, 1) := by decide +kernel
theorem zd_509_219 : decode prog_14_method_168_code 219 = .ok (.iinc 3 1, 3) := by decide +kernel
theorem zd_509_222 : decode prog_14_method_168_code 222 = .ok (.iload 4, 2) := by decide +kernel
theorem zd_509_224 : decode prog_14_method_168_code 224 = .ok (.ifCond .eq 18, 3) := by decide +kernel
theorem zd_509_227 : decode prog_14_method_168_code 227 = .ok (.iload 6, 2) := by decide +kernel
theorem zd_509_229 : decode prog_14_method_168_code 229 = .ok (.aload_n 0, 1) := by decide +kernel
theorem zd_509_230 : decode prog_14_method_168_code 230 = .ok (.getfield 1204, 3) := by decide +kernel
theorem zd_509_233 : decode prog_14_method_168_code 233 = .ok (.iconst 1, 1) := by decide +kernel
theorem zd_509_234 : decode prog_14_method_168_code 234 = .ok (.isub, 1) := by decide +kernel
theorem zd_509_235 : decode prog_14_method_168_code 235 = .ok (.if_icmp .eq 7, 3) := by decide +kernel
theorem zd_509_238 : decode prog_14_method_168_code 238 = .ok (.iconst 1, 1) := by decide +kernel
theorem zd_509_239 : decode prog_14_method_168_code 239 = .ok (.goto 4, 3) := by decide +kernel
theorem zd_509_242 : decode prog_14_method_168_code 242 = .ok (.iconst 0, 1) := by decide +kernel
theorem zd_509_243 : decode prog_14_method_168_code 243 = .ok (.istore 4, 2) := by decide +kernel
theorem zd_509_245 : decode prog_14_method_168_code 245 = .ok (.aload_n 0, 1) := by decide +kernel
theorem zd_509_246 : decode prog_14_method_168_code 246 = .ok (.iload 6, 2) := by decide +kernel
theorem zd_509_248 : decode prog_14_method_168_code 248 = .ok (.iconst 1, 1) := by decide +kernel
theorem zd_509_249 : decode prog_14_method_168_code 249 = .ok (.iadd, 1) := by decide +kernel
theorem zd_509_250 : decode prog_14_method_168_code 250 = .ok (.putfield 1219, 3) := by decide +kernel
theorem zd_509_253 : decode prog_14_method_168_code 253 = .ok (.goto (-233), 3) := by decide +kernel
theorem zd_509_256 : decode prog_14_method_168_code 256 = .ok (.iload 4, 2) := by decide +kernel
theorem zd_509_258 : decode prog_14_method_168_code 258 = .ok (.ifCond .eq 13, 3) := by decide +kernel
theorem zd_509_261 : decode prog_14_method_168_code 261 = .ok (.iload_n 3, 1) := by decide +kernel
theorem zd_509_262 : decode prog_14_method_168_code 262 = .ok (.aload_n 0, 1) := by decide +kernel
theorem zd_509_263 : decode prog_14_method_168_code 263 = .ok (.getfield 344, 3) := by decide +kernel
theorem zd_509_266 : decode prog_14_method_168_code 266 = .ok (.iload_n 1, 1) := by decide +kernel
theorem zd_509_267 : decode prog_14_method_168_code 267 = .ok (.iaload, 1) := by decide +kernel
theorem zd_509_268 : decode prog_14_method_168_code 268 = .ok (.if_icmp .eq 9, 3) := by decide +kernel
theorem zd_509_271 : decode prog_14_method_168_code 271 = .ok (.aload_n 0, 1) := by decide +kernel
theorem zd_509_272 : decode prog_14_method_168_code 272 = .ok (.iconst 1, 1) := by decide +kernel
theorem zd_509_273 : decode prog_14_method_168_code 273 = .ok (.invokevirtual 1216, 3) := by decide +kernel
theorem zd_509_277 : decode prog_14_method_168_code 277 = .ok (.aload_n 0, 1) := by decide +kernel
theorem zd_509_278 : decode prog_14_method_168_code 278 = .ok (.getfield 1447, 3) := by decide +kernel
theorem zd_509_281 : decode prog_14_method_168_code 281 = .ok (.bipush 11, 2) := by decide +kernel
theorem zd_509_283 : decode prog_14_method_168_code 283 = .ok (.if_icmp .ne 10, 3) := by decide +kernel
theorem zd_509_286 : decode prog_14_method_168_code 286 = .ok (.aload_n 0, 1) := by decide +kernel
theorem zd_509_287 : decode prog_14_method_168_code 287 = .ok (.bipush 6, 2) := by decide +kernel
theorem zd_509_289 : decode prog_14_method_168_code 289 = .ok (.invokevirtual 1216, 3) := by decide +kernel
theorem zd_509_293 : decode prog_14_method_168_code 293 = .ok (.aload_n 0, 1) := by decide +kernel
theorem zd_509_294 : decode prog_14_method_168_code 294 = .ok (.getfield 446, 3) := by decide +kernel
theorem zd_509_297 : decode prog_14_method_168_code 297 = .ok (.iload_n 2, 1) := by decide +kernel
theorem zd_509_298 : decode prog_14_method_168_code 298 = .ok (.aload_n 0, 1) := by decide +kernel
theorem zd_509_299 : decode prog_14_method_168_code 299 = .ok (.getfield 1468, 3) := by decide +kernel
theorem zd_509_302 : decode prog_14_method_168_code 302 = .ok (.iastore, 1) := by decide +kernel
theorem zd_509_303 : decode prog_14_method_168_code 303 = .ok (.aload_n 0, 1) := by decide +kernel
theorem zd_509_304 : decode prog_14_method_168_code 304 = .ok (.iload 5, 2) := by decide +kernel
theorem zd_509_306 : decode prog_14_method_168_code 306 = .ok (.putfield 1468, 3) := by decide +kernel
theorem zd_509_309 : decode prog_14_method_168_code 309 = .ok (.aload_n 0, 1) := by decide +kernel
theorem zd_509_310 : decode prog_14_method_168_code 310 = .ok (.aload_n 0, 1) := by decide +kernel
theorem zd_509_311 : decode prog_14_method_168_code 311 = .ok (.getfield 338, 3) := by decide +kernel
theorem zd_509_314 : decode prog_14_method_168_code 314 = .ok (.iload_n 1, 1) := by decide +kernel
theorem zd_509_315 : decode prog_14_method_168_code 315 = .ok (.iaload, 1) := by decide +kernel
theorem zd_509_316 : decode prog_14_method_168_code 316 = .ok (.aload_n 0, 1) := by decide +kernel
theorem zd_509_317 : decode prog_14_method_168_code 317 = .ok (.getfield 341, 3) := by decide +kernel
theorem zd_509_320 : decode prog_14_method_168_code 320 = .ok (.iload_n 1, 1) := by decide +kernel
theorem zd_509_321 : decode prog_14_method_168_code 321 = .ok (.iaload, 1) := by decide +kernel
theorem zd_509_322 : decode prog_14_method_168_code 322 = .ok (.iconst 1, 1) := by decide +kernel
theorem zd_509_323 : decode prog_14_method_168_code 323 = .ok (.iload_n 1, 1) := by decide +kernel
theorem zd_509_324 : decode prog_14_method_168_code 324 = .ok (.iload_n 2, 1) := by decide +kernel
theorem zd_509_325 : decode prog_14_method_168_code 325 = .ok (.invokevirtual 1471, 3) := by decide +kernel
theorem zd_509_328 : decode prog_14_method_168_code 328 = .ok (.aload_n 0, 1) := by decide +kernel
theorem zd_509_329 : decode prog_14_method_168_code 329 = .ok (.dup, 1) := by decide +kernel
theorem zd_509_330 : decode prog_14_method_168_code 330 = .ok (.getfield 1465, 3) := by decide +kernel
theorem zd_509_333 : decode prog_14_method_168_code 333 = .ok (.iconst 1, 1) := by decide +kernel
theorem zd_509_334 : decode prog_14_method_168_code 334 = .ok (.iadd, 1) := by decide +kernel
theorem zd_509_335 : decode prog_14_method_168_code 335 = .ok (.putfield 1465, 3) := by decide +kernel
theorem zd_510_0 : decode prog_14_method_140_code 0 = .ok (.aload_n 0, 1) := by decide +kernel
theorem zd_510_1 : decode prog_14_method_140_code 1 = .ok (.iconst 0, 1) := by decide +kernel
theorem zd_510_2 : decode prog_14_method_140_code 2 = .ok (.putfield 1306, 3) := by decide +kernel
theorem zd_510_5 : decode prog_14_method_140_code 5 = .ok (.aload_n 0, 1) := by decide +kernel
theorem zd_510_6 : decode prog_14_method_140_code 6 = .ok (.iconst 0, 1) := by decide +kernel
theorem zd_510_7 : decode prog_14_method_140_code 7 = .ok (.putfield 1309, 3) := by decide +kernel
theorem zd_510_10 : decode prog_14_method_140_code 10 = .ok (.aload_n 0, 1) := by decide +kernel
theorem zd_510_11 : decode prog_14_method_140_code 11 = .ok (.iconst 0, 1) := by decide +kernel
theorem zd_510_12 : decode prog_14_method_140_code 12 = .ok (.putfield 1312, 3) := by decide +kernel
theorem zd_510_15 : decode prog_14_method_140_code 15 = .ok (.aload_n 0, 1) := by decide +kernel
theorem zd_510_16 : decode prog_14_method_140_code 16 = .ok (.iload_n 1, 1) := by decide +kernel
theorem zd_510_17 : decode prog_14_method_140_code 17 = .ok (.invokevirtual 1333, 3) := by decide +kernel
theorem zd_510_20 : decode prog_14_method_140_code 20 = .ok (.aload_n 0, 1) := by decide +kernel
theorem zd_510_21 : decode prog_14_method_140_code 21 = .ok (.invokevirtual 1336, 3) := by decide +kernel
theorem zd_510_24 : decode prog_14_method_140_code 24 = .ok (.aload_n 0, 1) := by decide +kernel
theorem zd_510_25 : decode prog_14_method_140_code 25 = .ok (.getfield 1228, 3) := by decide +kernel
theorem zd_510_28 : decode prog_14_method_140_code 28 = .ok (.ifCond .eq 23, 3) := by decide +kernel
theorem zd_510_31 : decode prog_14_method_140_code 31 = .ok (.aload_n 0, 1) := by decide +kernel
theorem zd_510_32 : decode prog_14_method_140_code 32 = .ok (.getfield 50, 3) := by decide +kernel
theorem zd_510_35 : decode prog_14_method_140_code 35 = .ok (.bipush 64, 2) := by decide +kernel
theorem zd_510_37 : decode prog_14_method_140_code 37 = .ok (.aload_n 0, 1) := by decide +kernel
theorem zd_510_38 : decode prog_14_method_140_code 38 = .ok (.getfield 1174, 3) := by decide +kernel
theorem zd_510_41 : decode prog_14_method_140_code 41 = .ok (.imul, 1) := by decide +kernel
theorem zd_510_42 : decode prog_14_method_140_code 42 = .ok (.aload_n 0, 1) := by decide +kernel
theorem zd_510_43 : decode prog_14_method_140_code 43 = .ok (.getfield 1272, 3) := by decide +kernel
theorem zd_510_46 : decode prog_14_method_140_code 46 = .ok (.iadd, 1) := by decide +kernel
theorem zd_510_47 : decode prog_14_method_140_code 47 = .ok (.baload, 1) := by decide +kernel
theorem zd_510_48 : decode prog_14_method_140_code 48 = .ok (.ifCond .eq 9, 3) := by decide +kernel
theorem zd_510_51 : decode prog_14_method_140_code 51 = .ok (.aload_n 0, 1) := by decide +kernel
theorem zd_510_52 : decode prog_14_method_140_code 52 = .ok (.iconst 1, 1) := by decide +kernel
theorem zd_510_53 : decode prog_14_method_140_code 53 = .ok (.invokevirtual 1216, 3) := by decide +kernel
theorem zd_510_57 : decode prog_14_method_140_code 57 = .ok (.aload_n 0, 1) := by decide +kernel
theorem zd_510_58 : decode prog_14_method_140_code 58 = .ok (.iload_n 1, 1) := by decide +kernel
theorem zd_510_59 : decode prog_14_method_140_code 59 = .ok (.invokevirtual 1339, 3) := by decide +kernel
theorem zd_510_62 : decode prog_14_method_140_code 62 = .ok (.ifCond .eq 12, 3) := by decide +kernel
theorem zd_510_65 : decode prog_14_method_140_code 65 = .ok (.aload_n 0, 1) := by decide +kernel
theorem zd_510_66 : decode prog_14_method_140_code 66 = .ok (.invokevirtual 1290, 3) := by decide +kernel
theorem zd_510_69 : decode prog_14_method_140_code 69 = .ok (.iconst 4, 1) := by decide +kernel
theorem zd_510_70 : decode prog_14_method_140_code 70 = .ok (.irem, 1) := by decide +kernel
theorem zd_510_71 : decode prog_14_method_140_code 71 = .ok (.ifCond .eq 9, 3) := by decide +kernel
theorem zd_510_74 : decode prog_14_method_140_code 74 = .ok (.aload_n 0, 1) := by decide +kernel
theorem zd_510_75 : decode prog_14_method_140_code 75 = .ok (.iconst 3, 1) := by decide +kernel
theorem zd_510_76 : decode prog_14_method_140_code 76 = .ok (.invokevirtual 1216, 3) := by decide +kernel
theorem zd_510_80 : decode prog_14_method_140_code 80 = .ok (.aload_n 0, 1) := by decide +kernel
theorem zd_510_81 : decode prog_14_method_140_code 81 = .ok (.invokevirtual 1342, 3) := by decide +kernel
theorem zd_510_84 : decode prog_14_method_140_code 84 = .ok (.ifCond .ne 9, 3) := by decide +kernel
theorem zd_510_87 : decode prog_14_method_140_code 87 = .ok (.aload_n 0, 1) := by decide +kernel
theorem zd_510_88 : decode prog_14_method_140_code 88 = .ok (.iconst 4, 1) := by decide +kernel
theorem zd_510_89 : decode prog_14_method_140_code 89 = .ok (.invokevirtual 1216, 3) := by decide +kernel
theorem zd_510_93 : decode prog_14_method_140_code 93 = .ok (.iload_n 1, 1) := by decide +kernel
theorem zd_510_94 : decode prog_14_method_140_code 94 = .ok (.bipush 26, 2) := by decide +kernel
theorem zd_510_96 : decode prog_14_method_140_code 96 = .ok (.if_icmp .ge 11, 3) := by decide +kernel
theorem zd_510_99 : decode prog_14_method_140_code 99 = .ok (.aload_n 0, 1) := by decide +kernel
theorem zd_510_100 : decode prog_14_method_140_code 100 = .ok (.iload_n 1, 1) := by decide +kernel
theorem zd_510_101 : decode prog_14_method_140_code 101 = .ok (.invokevirtual 1345, 3) := by decide +kernel
theorem zd_510_104 : decode prog_14_method_140_code 104 = .ok (.goto 22, 3) := by decide +kernel
theorem zd_510_107 : decode prog_14_method_140_code 107 = .ok (.iload_n 1, 1) := by decide +kernel
theorem zd_510_108 : decode prog_14_method_140_code 108 = .ok (.bipush 40, 2) := by decide +kernel
theorem zd_510_110 : decode prog_14_method_140_code 110 = .ok (.if_icmp .gt 11, 3) := by decide +kernel
theorem zd_510_113 : decode prog_14_method_140_code 113 = .ok (.aload_n 0, 1) := by decide +kernel
theorem zd_510_114 : decode prog_14_method_140_code 114 = .ok (.iload_n 1, 1) := by decide +kernel
theorem zd_510_115 : decode prog_14_method_140_code 115 = .ok (.invokevirtual 1348, 3) := by decide +kernel
theorem zd_510_118 : decode prog_14_method_140_code 118 = .ok (.goto 8, 3) := by decide +kernel
theorem zd_510_121 : decode prog_14_method_140_code 121 = .ok (.aload_n 0, 1) := by decide +kernel
theorem zd_510_122 : decode prog_14_method_140_code 122 = .ok (.iload_n 1, 1) := by decide +kernel
theorem zd_510_123 : decode prog_14_method_140_code 123 = .ok (.invokevirtual 1351, 3) := by decide +kernel
theorem zd_511_0 : decode prog_14_method_158_code 0 = .ok (.iload_n 1, 1) := by decide +kernel
theorem zd_511_1 : decode prog_14_method_158_code 1 = .ok (.tableswitch 141 64 76 #[67, 75, 83, 83, 83, 91, 91, 91, 99, 99, 83, 107, 107], 67) := by decide +kernel
theorem zd_511_68 : decode prog_14_method_158_code 68 = .ok (.aload_n 0, 1) := by decide +kernel
theorem zd_511_69 : decode prog_14_method_158_code 69 = .ok (.iconst 0, 1) := by decide +kernel
theorem zd_511_70 : decode prog_14_method_158_code 70 = .ok (.invokevirtual 1413, 3) := by decide +kernel
theorem zd_511_73 : decode prog_14_method_158_code 73 = .ok (.goto 74, 3) := by decide +kernel
theorem zd_511_76 : decode prog_14_method_158_code 76 = .ok (.aload_n 0, 1) := by decide +kernel
theorem zd_511_77 : decode prog_14_method_158_code 77 = .ok (.iconst 1, 1) := by decide +kernel
theorem zd_511_78 : decode prog_14_method_158_code 78 = .ok (.invokevirtual 1413, 3) := by decide +kernel
theorem zd_511_81 : decode prog_14_method_158_code 81 = .ok (.goto 66, 3) := by decide +kernel
theorem zd_511_84 : decode prog_14_method_158_code 84 = .ok (.aload_n 0, 1) := by decide +kernel
theorem zd_511_85 : decode prog_14_method_158_code 85 = .ok (.iload_n 1, 1) := by decide +kernel
theorem zd_511_86 : decode prog_14_method_158_code 86 = .ok (.invokevirtual 1416, 3) := by decide +kernel
theorem zd_511_89 : decode prog_14_method_158_code 89 = .ok (.goto 58, 3) := by decide +kernel
theorem zd_511_92 : decode prog_14_method_158_code 92 = .ok (.aload_n 0, 1) := by decide +kernel
theorem zd_511_93 : decode prog_14_method_158_code 93 = .ok (.iload_n 1, 1) := by decide +kernel
theorem zd_511_94 : decode prog_14_method_158_code 94 = .ok (.invokevirtual 1419, 3) := by decide +kernel
theorem zd_511_97 : decode prog_14_method_158_code 97 = .ok (.goto 50, 3) := by decide +kernel
theorem zd_511_100 : decode prog_14_method_158_code 100 = .ok (.aload_n 0, 1) := by decide +kernel
theorem zd_511_101 : decode prog_14_method_158_code 101 = .ok (.iload_n 1, 1) := by decide +kernel
theorem zd_511_102 : decode prog_14_method_158_code 102 = .ok (.invokevirtual 1422, 3) := by decide +kernel
theorem zd_511_105 : decode prog_14_method_158_code 105 = .ok (.goto 42, 3) := by decide +kernel
theorem zd_511_108 : decode prog_14_method_158_code 108 = .ok (.aload_n 0, 1) := by decide +kernel
theorem zd_511_109 : decode prog_14_method_158_code 109 = .ok (.invokevirtual 1336, 3) := by decide +kernel
theorem zd_511_112 : decode prog_14_method_158_code 112 = .ok (.aload_n 0, 1) := by decide +kernel
theorem zd_511_113 : decode prog_14_method_158_code 113 = .ok (.getfield 1228, 3) := by decide +kernel
theorem zd_511_116 : decode prog_14_method_158_code 116 = .ok (.ifCond .ne 8, 3) := by decide +kernel
theorem zd_511_119 : decode prog_14_method_158_code 119 = .ok (.aload_n 0, 1) := by decide +kernel
theorem zd_511_120 : decode prog_14_method_158_code 120 = .ok (.iconst 1, 1) := by decide +kernel
theorem zd_511_121 : decode prog_14_method_158_code 121 = .ok (.invokevirtual 1216, 3) := by decide +kernel
theorem zd_511_124 : decode prog_14_method_158_code 124 = .ok (.aload_n 0, 1) := by decide +kernel
theorem zd_511_125 : decode prog_14_method_158_code 125 = .ok (.iload_n 1, 1) := by decide +kernel
theorem zd_511_126 : decode prog_14_method_158_code 126 = .ok (.bipush 75, 2) := by decide +kernel
theorem zd_511_128 : decode prog_14_method_158_code 128 = .ok (.if_icmp .ne 7, 3) := by decide +kernel
theorem zd_511_131 : decode prog_14_method_158_code 131 = .ok (.iconst 1, 1) := by decide +kernel
theorem zd_511_132 : decode prog_14_method_158_code 132 = .ok (.goto 4, 3) := by decide +kernel
theorem zd_511_135 : decode prog_14_method_158_code 135 = .ok (.iconst 0, 1) := by decide +kernel
theorem zd_511_136 : decode prog_14_method_158_code 136 = .ok (.putfield 1287, 3) := by decide +kernel
theorem zd_511_139 : decode prog_14_method_158_code 139 = .ok (.goto 8, 3) := by decide +kernel
theorem zd_511_142 : decode prog_14_method_158_code 142 = .ok (.aload_n 0, 1) := by decide +kernel
theorem zd_511_143 : decode prog_14_method_158_code 143 = .ok (.iload_n 1, 1) := by decide +kernel
theorem zd_511_144 : decode prog_14_method_158_code 144 = .ok (.invokevirtual 1425, 3) := by decide +kernel
theorem zd_512_0 : decode prog_14_method_116_code 0 = .ok (.iconst (-1), 1) := by decide +kernel
theorem zd_512_1 : decode prog_14_method_116_code 1 = .ok (.istore_n 2, 1) := by decide +kernel
theorem zd_512_2 : decode prog_14_method_116_code 2 = .ok (.iconst 0, 1) := by decide +kernel
theorem zd_512_3 : decode prog_14_method_116_code 3 = .ok (.istore_n 3, 1) := by decide +kernel
theorem zd_512_4 : decode prog_14_method_116_code 4 = .ok (.iload_n 3, 1) := by decide +kernel
theorem zd_512_5 : decode prog_14_method_116_code 5 = .ok (.aload_n 0, 1) := by decide +kernel
theorem zd_512_6 : decode prog_14_method_116_code 6 = .ok (.getfield 1231, 3) := by decide +kernel
theorem zd_512_9 : decode prog_14_method_116_code 9 = .ok (.if_icmp .ge 25, 3) := by decide +kernel
theorem zd_512_12 : decode prog_14_method_116_code 12 = .ok (.aload_n 0, 1) := by decide +kernel
theorem zd_512_13 : decode prog_14_method_116_code 13 = .ok (.getfield 362, 3) := by decide +kernel
theorem zd_512_16 : decode prog_14_method_116_code 16 = .ok (.iload_n 3, 1) := by decide +kernel
theorem zd_512_17 : decode prog_14_method_116_code 17 = .ok (.iaload, 1) := by decide +kernel
theorem zd_512_18 : decode prog_14_method_116_code 18 = .ok (.iload_n 1, 1) := by decide +kernel
theorem zd_512_19 : decode prog_14_method_116_code 19 = .ok (.if_icmp .ne 7, 3) := by decide +kernel
theorem zd_512_22 : decode prog_14_method_116_code 22 = .ok (.iload_n 3, 1) := by decide +kernel
theorem zd_512_23 : decode prog_14_method_116_code 23 = .ok (.goto 4, 3) := by decide +kernel
theorem zd_512_26 : decode prog_14_method_116_code 26 = .ok (.iload_n 2, 1) := by decide +kernel
theorem zd_512_27 : decode prog_14_method_116_code 27 = .ok (.istore_n 2, 1) := by decide +kernel
theorem zd_512_28 : decode prog_14_method_116_code 28 = .ok (.iinc 3 1, 3) := by decide +kernel
theorem zd_512_31 : decode prog_14_method_116_code 31 = .ok (.goto (-27), 3) := by decide +kernel
theorem zd_512_34 : decode prog_14_method_116_code 34 = .ok (.iload_n 2, 1) := by decide +kernel
theorem zd_513_0 : decode prog_14_method_123_code 0 = .ok (.aload_n 0, 1) := by decide +kernel
theorem zd_513_1 : decode prog_14_method_123_code 1 = .ok (.getfield 53, 3) := by decide +kernel
theorem zd_513_4 : decode prog_14_method_123_code 4 = .ok (.bipush 64, 2) := by decide +kernel
theorem zd_513_6 : decode prog_14_method_123_code 6 = .ok (.aload_n 0, 1) := by decide +kernel
theorem zd_513_7 : decode prog_14_method_123_code 7 = .ok (.getfield 1174, 3) := by decide +kernel
theorem zd_513_10 : decode prog_14_method_123_code 10 = .ok (.imul, 1) := by decide +kernel
theorem zd_513_11 : decode prog_14_method_123_code 11 = .ok (.aload_n 0, 1) := by decide +kernel
theorem zd_513_12 : decode prog_14_method_123_code 12 = .ok (.getfield 1272, 3) := by decide +kernel
theorem zd_513_15 : decode prog_14_method_123_code 15 = .ok (.iadd, 1) := by decide +kernel
theorem zd_513_16 : decode prog_14_method_123_code 16 = .ok (.iaload, 1) := by decide +kernel
theorem zd_514_0 : decode prog_3_method_6_code 0 = .ok (.getstatic 44, 3) := by decide +kernel
theorem zd_514_3 : decode prog_3_method_6_code 3 = .ok (.iload_n 0, 1) := by decide +kernel
theorem zd_514_4 : decode prog_3_method_6_code 4 = .ok (.iaload, 1) := by decide +kernel
theorem zd_514_5 : decode prog_3_method_6_code 5 = .ok (.tableswitch 97 0 11 #[63, 63, 63, 97, 63, 97, 97, 97, 71, 71, 71, 79], 63) := by decide +kernel
theorem zd_514_68 : decode prog_3_method_6_code 68 = .ok (.iload_n 1, 1) := by decide +kernel
theorem zd_514_69 : decode prog_3_method_6_code 69 = .ok (.bipush 11, 2) := by decide +kernel
theorem zd_514_71 : decode prog_3_method_6_code 71 = .ok (.iushr, 1) := by decide +kernel
theorem zd_514_72 : decode prog_3_method_6_code 72 = .ok (.bipush 31, 2) := by decide +kernel
theorem zd_514_74 : decode prog_3_method_6_code 74 = .ok (.iand, 1) := by decide +kernel
theorem zd_514_76 : decode prog_3_method_6_code 76 = .ok (.iload_n 1, 1) := by decide +kernel
theorem zd_514_77 : decode prog_3_method_6_code 77 = .ok (.bipush 16, 2) := by decide +kernel
theorem zd_514_79 : decode prog_3_method_6_code 79 = .ok (.iushr, 1) := by decide +kernel
theorem zd_514_80 : decode prog_3_method_6_code 80 = .ok (.bipush 31, 2) := by decide +kernel
theorem zd_514_82 : decode prog_3_method_6_code 82 = .ok (.iand, 1) := by decide +kernel
theorem zd_514_84 : decode prog_3_method_6_code 84 = .ok (.iload_n 0, 1) := by decide +kernel
theorem zd_514_85 : decode prog_3_method_6_code 85 = .ok (.bipush 48, 2) := by decide +kernel
theorem zd_514_87 : decode prog_3_method_6_code 87 = .ok (.if_icmp .ge 13, 3) := by decide +kernel
theorem zd_514_90 : decode prog_3_method_6_code 90 = .ok (.iload_n 1, 1) := by decide +kernel
theorem zd_514_91 : decode prog_3_method_6_code 91 = .ok (.bipush 16, 2) := by decide +kernel
theorem zd_514_93 : decode prog_3_method_6_code 93 = .ok (.iushr, 1) := by decide +kernel
theorem zd_514_94 : decode prog_3_method_6_code 94 = .ok (.bipush 31, 2) := by decide +kernel
theorem zd_514_96 : decode prog_3_method_6_code 96 = .ok (.iand, 1) := by decide +kernel
theorem zd_514_97 : decode prog_3_method_6_code 97 = .ok (.goto 4, 3) := by decide +kernel
theorem zd_514_100 : decode prog_3_method_6_code 100 = .ok (.iconst 0, 1) := by decide +kernel
theorem zd_514_102 : decode prog_3_method_6_code 102 = .ok (.iconst 0, 1) := by decide +kernel
theorem zd_515_0 : decode prog_3_method_7_code 0 = .ok (.iload_n 1, 1) := by decide +kernel
theorem zd_515_1 : decode prog_3_method_7_code 1 = .ok (.bipush 21, 2) := by decide +kernel
theorem zd_515_3 : decode prog_3_method_7_code 3 = .ok (.iushr, 1) := by decide +kernel
theorem zd_515_4 : decode prog_3_method_7_code 4 = .ok (.bipush 31, 2) := by decide +kernel
theorem zd_515_6 : decode prog_3_method_7_code 6 = .ok (.iand, 1) := by decide +kernel
theorem zd_515_7 : decode prog_3_method_7_code 7 = .ok (.iload_n 2, 1) := by decide +kernel
theorem zd_515_8 : decode prog_3_method_7_code 8 = .ok (.if_icmp .ne 7, 3) := by decide +kernel
theorem zd_515_11 : decode prog_3_method_7_code 11 = .ok (.iconst 1, 1) := by decide +kernel
theorem zd_515_12 : decode prog_3_method_7_code 12 = .ok (.goto 4, 3) := by decide +kernel
theorem zd_515_15 : decode prog_3_method_7_code 15 = .ok (.iconst 0, 1) := by decide +kernel
theorem zd_515_16 : decode prog_3_method_7_code 16 = .ok (.istore_n 3, 1) := by decide +kernel
theorem zd_515_17 : decode prog_3_method_7_code 17 = .ok (.iload_n 1, 1) := by decide +kernel
theorem zd_515_18 : decode prog_3_method_7_code 18 = .ok (.bipush 16, 2) := by decide +kernel
theorem zd_515_20 : decode prog_3_method_7_code 20 = .ok (.iushr, 1) := by decide +kernel
theorem zd_515_21 : decode prog_3_method_7_code 21 = .ok (.bipush 31, 2) := by decide +kernel
theorem zd_515_23 : decode prog_3_method_7_code 23 = .ok (.iand, 1) := by decide +kernel
theorem zd_515_24 : decode prog_3_method_7_code 24 = .ok (.iload_n 2, 1) := by decide +kernel
theorem zd_515_25 : decode prog_3_method_7_code 25 = .ok (.if_icmp .ne 7, 3) := by decide +kernel
theorem zd_515_28 : decode prog_3_method_7_code 28 = .ok (.iconst 1, 1) := by decide +kernel
theorem zd_515_29 : decode prog_3_method_7_code 29 = .ok (.goto 4, 3) := by decide +kernel
theorem zd_515_32 : decode prog_3_method_7_code 32 = .ok (.iconst 0, 1) := by decide +kernel
theorem zd_515_33 : decode prog_3_method_7_code 33 = .ok (.istore 4, 2) := by decide +kernel
theorem zd_515_35 : decode prog_3_method_7_code 35 = .ok (.getstatic 44, 3) := by decide +kernel
theorem zd_515_38 : decode prog_3_method_7_code 38 = .ok (.iload_n 0, 1) := by decide +kernel
theorem zd_515_39 : decode prog_3_method_7_code 39 = .ok (.iaload, 1) := by decide +kernel
theorem zd_515_40 : decode prog_3_method_7_code 40 = .ok (.tableswitch 113 0 13 #[72, 87, 72, 72, 113, 90, 113, 113, 90, 90, 113, 92, 72, 90], 72) := by decide +kernel
theorem zd_515_112 : decode prog_3_method_7_code 112 = .ok (.iload_n 3, 1) := by decide +kernel
theorem zd_515_113 : decode prog_3_method_7_code 113 = .ok (.ifCond .ne 8, 3) := by decide +kernel
theorem zd_515_116 : decode prog_3_method_7_code 116 = .ok (.iload 4, 2) := by decide +kernel
theorem zd_515_118 : decode prog_3_method_7_code 118 = .ok (.ifCond .eq 7, 3) := by decide +kernel
theorem zd_515_121 : decode prog_3_method_7_code 121 = .ok (.iconst 1, 1) := by decide +kernel
theorem zd_515_122 : decode prog_3_method_7_code 122 = .ok (.goto 4, 3) := by decide +kernel
theorem zd_515_125 : decode prog_3_method_7_code 125 = .ok (.iconst 0, 1) := by decide +kernel
theorem zd_515_127 : decode prog_3_method_7_code 127 = .ok (.iload 4, 2) := by decide +kernel
theorem zd_515_130 : decode prog_3_method_7_code 130 = .ok (.iload_n 3, 1) := by decide +kernel
theorem zd_515_132 : decode prog_3_method_7_code 132 = .ok (.iload_n 3, 1) := by decide +kernel
theorem zd_515_133 : decode prog_3_method_7_code 133 = .ok (.ifCond .ne 14, 3) := by decide +kernel
theorem zd_515_136 : decode prog_3_method_7_code 136 = .ok (.iload_n 0, 1) := by decide +kernel
theorem zd_515_137 : decode prog_3_method_7_code 137 = .ok (.bipush 48, 2) := by decide +kernel
theorem zd_515_139 : decode prog_3_method_7_code 139 = .ok (.if_icmp .lt 12, 3) := by decide +kernel
theorem zd_515_142 : decode prog_3_method_7_code 142 = .ok (.iload 4, 2) := by decide +kernel
theorem zd_515_144 : decode prog_3_method_7_code 144 = .ok (.ifCond .eq 7, 3) := by decide +kernel
theorem zd_515_147 : decode prog_3_method_7_code 147 = .ok (.iconst 1, 1) := by decide +kernel
theorem zd_515_148 : decode prog_3_method_7_code 148 = .ok (.goto 4, 3) := by decide +kernel
theorem zd_515_151 : decode prog_3_method_7_code 151 = .ok (.iconst 0, 1) := by decide +kernel
theorem zd_515_153 : decode prog_3_method_7_code 153 = .ok (.iconst 0, 1) := by decide +kernel
theorem zd_516_0 : decode prog_3_method_4_code 0 = .ok (.iload_n 0, 1) := by decide +kernel
theorem zd_516_1 : decode prog_3_method_4_code 1 = .ok (.bipush 31, 2) := by decide +kernel
theorem zd_516_3 : decode prog_3_method_4_code 3 = .ok (.if_icmp .eq 21, 3) := by decide +kernel
theorem zd_516_6 : decode prog_3_method_4_code 6 = .ok (.iload_n 0, 1) := by decide +kernel
theorem zd_516_7 : decode prog_3_method_4_code 7 = .ok (.bipush 7, 2) := by decide +kernel
theorem zd_516_9 : decode prog_3_method_4_code 9 = .ok (.if_icmp .eq 15, 3) := by decide +kernel
theorem zd_516_12 : decode prog_3_method_4_code 12 = .ok (.iload_n 0, 1) := by decide +kernel
theorem zd_516_13 : decode prog_3_method_4_code 13 = .ok (.bipush 28, 2) := by decide +kernel
theorem zd_516_15 : decode prog_3_method_4_code 15 = .ok (.if_icmp .eq 9, 3) := by decide +kernel
theorem zd_516_18 : decode prog_3_method_4_code 18 = .ok (.iload_n 0, 1) := by decide +kernel
theorem zd_516_19 : decode prog_3_method_4_code 19 = .ok (.bipush 29, 2) := by decide +kernel
theorem zd_516_21 : decode prog_3_method_4_code 21 = .ok (.if_icmp .ne 7, 3) := by decide +kernel
theorem zd_516_24 : decode prog_3_method_4_code 24 = .ok (.iconst 1, 1) := by decide +kernel
theorem zd_516_25 : decode prog_3_method_4_code 25 = .ok (.goto 4, 3) := by decide +kernel
theorem zd_516_28 : decode prog_3_method_4_code 28 = .ok (.iconst 0, 1) := by decide +kernel
theorem zd_517_0 : decode prog_11_method_28_code 0 = .ok (.aload_n 0, 1) := by decide +kernel
theorem zd_517_1 : decode prog_11_method_28_code 1 = .ok (.getfield 112, 3) := by decide +kernel
theorem zd_517_4 : decode prog_11_method_28_code 4 = .ok (.iconst (-1), 1) := by decide +kernel
theorem zd_517_5 : decode prog_11_method_28_code 5 = .ok (.if_icmp .ne 7, 3) := by decide +kernel
theorem zd_517_8 : decode prog_11_method_28_code 8 = .ok (.iconst 0, 1) := by decide +kernel
theorem zd_517_9 : decode prog_11_method_28_code 9 = .ok (.goto 12, 3) := by decide +kernel
theorem zd_517_12 : decode prog_11_method_28_code 12 = .ok (.aload_n 0, 1) := by decide +kernel
theorem zd_517_13 : decode prog_11_method_28_code 13 = .ok (.getfield 15, 3) := by decide +kernel
theorem zd_517_16 : decode prog_11_method_28_code 16 = .ok (.aload_n 0, 1) := by decide +kernel
theorem zd_517_17 : decode prog_11_method_28_code 17 = .ok (.getfield 112, 3) := by decide +kernel
theorem zd_517_20 : decode prog_11_method_28_code 20 = .ok (.iaload, 1) := by decide +kernel
theorem zd_518_0 : decode prog_11_method_25_code 0 = .ok (.aload_n 0, 1) := by decide +kernel
theorem zd_518_1 : decode prog_11_method_25_code 1 = .ok (.getfield 112, 3) := by decide +kernel
theorem zd_518_4 : decode prog_11_method_25_code 4 = .ok (.iconst (-1), 1) := by decide +kernel
theorem zd_518_5 : decode prog_11_method_25_code 5 = .ok (.if_icmp .ne 7, 3) := by decide +kernel
theorem zd_518_8 : decode prog_11_method_25_code 8 = .ok (.iconst 0, 1) := by decide +kernel
theorem zd_518_9 : decode prog_11_method_25_code 9 = .ok (.goto 12, 3) := by decide +kernel
theorem zd_518_12 : decode prog_11_method_25_code 12 = .ok (.aload_n 0, 1) := by decide +kernel
theorem zd_518_13 : decode prog_11_method_25_code 13 = .ok (.getfield 9, 3) := by decide +kernel
theorem zd_518_16 : decode prog_11_method_25_code 16 = .ok (.aload_n 0, 1) := by decide +kernel
theorem zd_518_17 : decode prog_11_method_25_code 17 = .ok (.getfield 112, 3) := by decide +kernel
theorem zd_518_20 : decode prog_11_method_25_code 20 = .ok (.iaload, 1) := by decide +kernel
theorem zd_519_0 : decode prog_12_method_7_code 0 = .ok (.aload_n 0, 1) := by decide +kernel
theorem zd_519_1 : decode prog_12_method_7_code 1 = .ok (.getfield 58, 3) := by decide +kernel
theorem zd_519_4 : decode prog_12_method_7_code 4 = .ok (.bipush 6, 2) := by decide +kernel
theorem zd_519_6 : decode prog_12_method_7_code 6 = .ok (.imul, 1) := by decide +kernel
theorem zd_519_7 : decode prog_12_method_7_code 7 = .ok (.istore 6, 2) := by decide +kernel
theorem zd_519_9 : decode prog_12_method_7_code 9 = .ok (.iload 6, 2) := by decide +kernel
theorem zd_519_11 : decode prog_12_method_7_code 11 = .ok (.bipush 6, 2) := by decide +kernel
theorem zd_519_13 : decode prog_12_method_7_code 13 = .ok (.iadd, 1) := by decide +kernel
theorem zd_519_14 : decode prog_12_method_7_code 14 = .ok (.aload_n 0, 1) := by decide +kernel
theorem zd_519_15 : decode prog_12_method_7_code 15 = .ok (.getfield 38, 3) := by decide +kernel
theorem zd_519_18 : decode prog_12_method_7_code 18 = .ok (.arraylength, 1) := by decide +kernel
theorem zd_519_19 : decode prog_12_method_7_code 19 = .ok (.if_icmp .le 5, 3) := by decide +kernel
theorem zd_519_22 : decode prog_12_method_7_code 22 = .ok (.iconst (-1), 1) := by decide +kernel
theorem zd_519_24 : decode prog_12_method_7_code 24 = .ok (.aload_n 0, 1) := by decide +kernel
theorem zd_519_25 : decode prog_12_method_7_code 25 = .ok (.getfield 35, 3) := by decide +kernel
theorem zd_519_28 : decode prog_12_method_7_code 28 = .ok (.iconst 2, 1) := by decide +kernel
theorem zd_519_29 : decode prog_12_method_7_code 29 = .ok (.aload_n 0, 1) := by decide +kernel
theorem zd_519_30 : decode prog_12_method_7_code 30 = .ok (.getfield 58, 3) := by decide +kernel
theorem zd_519_33 : decode prog_12_method_7_code 33 = .ok (.imul, 1) := by decide +kernel
theorem zd_519_34 : decode prog_12_method_7_code 34 = .ok (.lconst 0, 1) := by decide +kernel
theorem zd_519_35 : decode prog_12_method_7_code 35 = .ok (.lastore, 1) := by decide +kernel
theorem zd_519_36 : decode prog_12_method_7_code 36 = .ok (.aload_n 0, 1) := by decide +kernel
theorem zd_519_37 : decode prog_12_method_7_code 37 = .ok (.getfield 35, 3) := by decide +kernel
theorem zd_519_40 : decode prog_12_method_7_code 40 = .ok (.iconst 2, 1) := by decide +kernel
theorem zd_519_41 : decode prog_12_method_7_code 41 = .ok (.aload_n 0, 1) := by decide +kernel
theorem zd_519_42 : decode prog_12_method_7_code 42 = .ok (.getfield 58, 3) := by decide +kernel
theorem zd_519_45 : decode prog_12_method_7_code 45 = .ok (.imul, 1) := by decide +kernel
theorem zd_519_46 : decode prog_12_method_7_code 46 = .ok (.iconst 1, 1) := by decide +kernel
theorem zd_519_47 : decode prog_12_method_7_code 47 = .ok (.iadd, 1) := by decide +kernel
theorem zd_519_48 : decode prog_12_method_7_code 48 = .ok (.lconst 0, 1) := by decide +kernel
theorem zd_519_49 : decode prog_12_method_7_code 49 = .ok (.lastore, 1) := by decide +kernel
theorem zd_519_50 : decode prog_12_method_7_code 50 = .ok (.aload_n 0, 1) := by decide +kernel
theorem zd_519_51 : decode prog_12_method_7_code 51 = .ok (.getfield 38, 3) := by decide +kernel
theorem zd_519_54 : decode prog_12_method_7_code 54 = .ok (.iload 6, 2) := by decide +kernel
theorem zd_519_56 : decode prog_12_method_7_code 56 = .ok (.iconst 0, 1) := by decide +kernel
theorem zd_519_57 : decode prog_12_method_7_code 57 = .ok (.iadd, 1) := by decide +kernel
theorem zd_519_58 : decode prog_12_method_7_code 58 = .ok (.iload_n 1, 1) := by decide +kernel
theorem zd_519_59 : decode prog_12_method_7_code 59 = .ok (.iastore, 1) := by decide +kernel
theorem zd_519_60 : decode prog_12_method_7_code 60 = .ok (.aload_n 0, 1) := by decide +kernel
theorem zd_519_61 : decode prog_12_method_7_code 61 = .ok (.getfield 38, 3) := by decide +kernel
theorem zd_519_64 : decode prog_12_method_7_code 64 = .ok (.iload 6, 2) := by decide +kernel
theorem zd_519_66 : decode prog_12_method_7_code 66 = .ok (.iconst 1, 1) := by decide +kernel
theorem zd_519_67 : decode prog_12_method_7_code 67 = .ok (.iadd, 1) := by decide +kernel
theorem zd_519_68 : decode prog_12_method_7_code 68 = .ok (.iload_n 2, 1) := by decide +kernel
theorem zd_519_69 : decode prog_12_method_7_code 69 = .ok (.iastore, 1) := by decide +kernel
theorem zd_519_70 : decode prog_12_method_7_code 70 = .ok (.aload_n 0, 1) := by decide +kernel
theorem zd_519_71 : decode prog_12_method_7_code 71 = .ok (.getfield 38, 3) := by decide +kernel
theorem zd_519_74 : decode prog_12_method_7_code 74 = .ok (.iload 6, 2) := by decide +kernel
theorem zd_519_76 : decode prog_12_method_7_code 76 = .ok (.iconst 2, 1) := by decide +kernel
theorem zd_519_77 : decode prog_12_method_7_code 77 = .ok (.iadd, 1) := by decide +kernel
theorem zd_519_78 : decode prog_12_method_7_code 78 = .ok (.iload_n 3, 1) := by decide +kernel
theorem zd_519_79 : decode prog_12_method_7_code 79 = .ok (.iastore, 1) := by decide +kernel
theorem zd_519_80 : decode prog_12_method_7_code 80 = .ok (.aload_n 0, 1) := by decide +kernel
theorem zd_519_81 : decode prog_12_method_7_code 81 = .ok (.getfield 38, 3) := by decide +kernel
theorem zd_519_84 : decode prog_12_method_7_code 84 = .ok (.iload 6, 2) := by decide +kernel
theorem zd_519_86 : decode prog_12_method_7_code 86 = .ok (.iconst 3, 1) := by decide +kernel
theorem zd_519_87 : decode prog_12_method_7_code 87 = .ok (.iadd, 1) := by decide +kernel
theorem zd_519_88 : decode prog_12_method_7_code 88 = .ok (.iconst (-1), 1) := by decide +kernel
theorem zd_519_89 : decode prog_12_method_7_code 89 = .ok (.iastore, 1) := by decide +kernel
theorem zd_519_90 : decode prog_12_method_7_code 90 = .ok (.aload_n 0, 1) := by decide +kernel
theorem zd_519_91 : decode prog_12_method_7_code 91 = .ok (.getfield 38, 3) := by decide +kernel
theorem zd_519_94 : decode prog_12_method_7_code 94 = .ok (.iload 6, 2) := by decide +kernel
theorem zd_519_96 : decode prog_12_method_7_code 96 = .ok (.iconst 4, 1) := by decide +kernel
theorem zd_519_97 : decode prog_12_method_7_code 97 = .ok (.iadd, 1) := by decide +kernel
theorem zd_519_98 : decode prog_12_method_7_code 98 = .ok (.iload 4, 2) := by decide +kernel
theorem zd_519_100 : decode prog_12_method_7_code 100 = .ok (.iastore, 1) := by decide +kernel
theorem zd_519_101 : decode prog_12_method_7_code 101 = .ok (.aload_n 0, 1) := by decide +kernel
theorem zd_519_102 : decode prog_12_method_7_code 102 = .ok (.getfield 38, 3) := by decide +kernel
theorem zd_519_105 : decode prog_12_method_7_code 105 = .ok (.iload 6, 2) := by decide +kernel
theorem zd_519_107 : decode prog_12_method_7_code 107 = .ok (.iconst 5, 1) := by decide +kernel
theorem zd_519_108 : decode prog_12_method_7_code 108 = .ok (.iadd, 1) := by decide +kernel
theorem zd_519_109 : decode prog_12_method_7_code 109 = .ok (.iload 5, 2) := by decide +kernel
theorem zd_519_111 : decode prog_12_method_7_code 111 = .ok (.iastore, 1) := by decide +kernel
theorem zd_519_112 : decode prog_12_method_7_code 112 = .ok (.aload_n 0, 1) := by decide +kernel
theorem zd_519_113 : decode prog_12_method_7_code 113 = .ok (.dup, 1) := by decide +kernel
theorem zd_519_114 : decode prog_12_method_7_code 114 = .ok (.getfield 58, 3) := by decide +kernel
theorem zd_519_117 : decode prog_12_method_7_code 117 = .ok (.iconst 1, 1) := by decide +kernel
theorem zd_519_118 : decode prog_12_method_7_code 118 = .ok (.iadd, 1) := by decide +kernel
theorem zd_519_119 : decode prog_12_method_7_code 119 = .ok (.putfield 58, 3) := by decide +kernel
theorem zd_519_122 : decode prog_12_method_7_code 122 = .ok (.aload_n 0, 1) := by decide +kernel
theorem zd_519_123 : decode prog_12_method_7_code 123 = .ok (.getfield 58, 3) := by decide +kernel
theorem zd_519_126 : decode prog_12_method_7_code 126 = .ok (.iconst 1, 1) := by decide +kernel
theorem zd_519_127 : decode prog_12_method_7_code 127 = .ok (.isub, 1) := by decide +kernel
theorem zd_520_0 : decode prog_11_method_26_code 0 = .ok (.aload_n 0, 1) := by decide +kernel
theorem zd_520_1 : decode prog_11_method_26_code 1 = .ok (.getfield 112, 3) := by decide +kernel
theorem zd_520_4 : decode prog_11_method_26_code 4 = .ok (.iconst (-1), 1) := by decide +kernel
theorem zd_520_5 : decode prog_11_method_26_code 5 = .ok (.if_icmp .ne 7, 3) := by decide +kernel
theorem zd_520_8 : decode prog_11_method_26_code 8 = .ok (.lconst 0, 1) := by decide +kernel
theorem zd_520_9 : decode prog_11_method_26_code 9 = .ok (.goto 12, 3) := by decide +kernel
theorem zd_520_12 : decode prog_11_method_26_code 12 = .ok (.aload_n 0, 1) := by decide +kernel
theorem zd_520_13 : decode prog_11_method_26_code 13 = .ok (.getfield 21, 3) := by decide +kernel
theorem zd_520_16 : decode prog_11_method_26_code 16 = .ok (.aload_n 0, 1) := by decide +kernel
theorem zd_520_17 : decode prog_11_method_26_code 17 = .ok (.getfield 112, 3) := by decide +kernel
theorem zd_520_20 : decode prog_11_method_26_code 20 = .ok (.laload, 1) := by decide +kernel
theorem zd_521_0 : decode prog_11_method_27_code 0 = .ok (.aload_n 0, 1) := by decide +kernel
theorem zd_521_1 : decode prog_11_method_27_code 1 = .ok (.getfield 112, 3) := by decide +kernel
theorem zd_521_4 : decode prog_11_method_27_code 4 = .ok (.iconst (-1), 1) := by decide +kernel
theorem zd_521_5 : decode prog_11_method_27_code 5 = .ok (.if_icmp .ne 7, 3) := by decide +kernel
theorem zd_521_8 : decode prog_11_method_27_code 8 = .ok (.lconst 0, 1) := by decide +kernel
theorem zd_521_9 : decode prog_11_method_27_code 9 = .ok (.goto 12, 3) := by decide +kernel
theorem zd_521_12 : decode prog_11_method_27_code 12 = .ok (.aload_n 0, 1) := by decide +kernel
theorem zd_521_13 : decode prog_11_method_27_code 13 = .ok (.getfield 25, 3) := by decide +kernel
theorem zd_521_16 : decode prog_11_method_27_code 16 = .ok (.aload_n 0, 1) := by decide +kernel
theorem zd_521_17 : decode prog_11_method_27_code 17 = .ok (.getfield 112, 3) := by decide +kernel
theorem zd_521_20 : decode prog_11_method_27_code 20 = .ok (.laload, 1) := by decide +kernel
theorem zd_522_0 : decode prog_29_method_22_code 0 = .ok (.iload_n 1, 1) := by decide +kernel
theorem zd_522_1 : decode prog_29_method_22_code 1 = .ok (.invokestatic 88, 3) := by decide +kernel
theorem zd_522_4 : decode prog_29_method_22_code 4 = .ok (.ifCond .ne 5, 3) := by decide +kernel
theorem zd_522_7 : decode prog_29_method_22_code 7 = .ok (.iconst (-1), 1) := by decide +kernel
theorem zd_522_9 : decode prog_29_method_22_code 9 = .ok (.iload_n 2, 1) := by decide +kernel
theorem zd_522_10 : decode prog_29_method_22_code 10 = .ok (.iconst 0, 1) := by decide +kernel
theorem zd_522_11 : decode prog_29_method_22_code 11 = .ok (.invokestatic 92, 3) := by decide +kernel
theorem zd_522_14 : decode prog_29_method_22_code 14 = .ok (.istore_n 2, 1) := by decide +kernel
theorem zd_522_15 : decode prog_29_method_22_code 15 = .ok (.iload_n 3, 1) := by decide +kernel
theorem zd_522_16 : decode prog_29_method_22_code 16 = .ok (.aload_n 0, 1) := by decide +kernel
theorem zd_522_17 : decode prog_29_method_22_code 17 = .ok (.arraylength, 1) := by decide +kernel
theorem zd_522_18 : decode prog_29_method_22_code 18 = .ok (.invokestatic 38, 3) := by decide +kernel
theorem zd_522_21 : decode prog_29_method_22_code 21 = .ok (.istore_n 3, 1) := by decide +kernel
theorem zd_522_22 : decode prog_29_method_22_code 22 = .ok (.iload_n 2, 1) := by decide +kernel
theorem zd_522_23 : decode prog_29_method_22_code 23 = .ok (.iload_n 3, 1) := by decide +kernel
theorem zd_522_24 : decode prog_29_method_22_code 24 = .ok (.if_icmp .lt 5, 3) := by decide +kernel
theorem zd_522_27 : decode prog_29_method_22_code 27 = .ok (.iconst (-1), 1) := by decide +kernel
theorem zd_522_29 : decode prog_29_method_22_code 29 = .ok (.aload_n 0, 1) := by decide +kernel
theorem zd_522_30 : decode prog_29_method_22_code 30 = .ok (.iload_n 1, 1) := by decide +kernel
theorem zd_522_31 : decode prog_29_method_22_code 31 = .ok (.iload_n 2, 1) := by decide +kernel
theorem zd_522_32 : decode prog_29_method_22_code 32 = .ok (.iload_n 3, 1) := by decide +kernel
theorem zd_522_33 : decode prog_29_method_22_code 33 = .ok (.invokestatic 95, 3) := by decide +kernel
theorem zd_523_0 : decode prog_30_method_40_code 0 = .ok (.iload_n 2, 1) := by decide +kernel
theorem zd_523_1 : decode prog_30_method_40_code 1 = .ok (.iconst 0, 1) := by decide +kernel
theorem zd_523_2 : decode prog_30_method_40_code 2 = .ok (.invokestatic 224, 3) := by decide +kernel
theorem zd_523_5 : decode prog_30_method_40_code 5 = .ok (.istore_n 2, 1) := by decide +kernel
theorem zd_523_6 : decode prog_30_method_40_code 6 = .ok (.iload_n 3, 1) := by decide +kernel
theorem zd_523_7 : decode prog_30_method_40_code 7 = .ok (.aload_n 0, 1) := by decide +kernel
theorem zd_523_8 : decode prog_30_method_40_code 8 = .ok (.arraylength, 1) := by decide +kernel
theorem zd_523_9 : decode prog_30_method_40_code 9 = .ok (.iconst 1, 1) := by decide +kernel
theorem zd_523_10 : decode prog_30_method_40_code 10 = .ok (.ishr, 1) := by decide +kernel
theorem zd_523_11 : decode prog_30_method_40_code 11 = .ok (.invokestatic 183, 3) := by decide +kernel
theorem zd_523_14 : decode prog_30_method_40_code 14 = .ok (.istore_n 3, 1) := by decide +kernel
theorem zd_523_15 : decode prog_30_method_40_code 15 = .ok (.iload_n 2, 1) := by decide +kernel
theorem zd_523_16 : decode prog_30_method_40_code 16 = .ok (.iload_n 3, 1) := by decide +kernel
theorem zd_523_17 : decode prog_30_method_40_code 17 = .ok (.if_icmp .lt 5, 3) := by decide +kernel
theorem zd_523_20 : decode prog_30_method_40_code 20 = .ok (.iconst (-1), 1) := by decide +kernel
theorem zd_523_22 : decode prog_30_method_40_code 22 = .ok (.iload_n 1, 1) := by decide +kernel
theorem zd_523_23 : decode prog_30_method_40_code 23 = .ok (.ldc 227, 2) := by decide +kernel
theorem zd_523_25 : decode prog_30_method_40_code 25 = .ok (.if_icmp .ge 11, 3) := by decide +kernel
theorem zd_523_28 : decode prog_30_method_40_code 28 = .ok (.aload_n 0, 1) := by decide +kernel
theorem zd_523_29 : decode prog_30_method_40_code 29 = .ok (.iload_n 1, 1) := by decide +kernel
theorem zd_523_30 : decode prog_30_method_40_code 30 = .ok (.iload_n 2, 1) := by decide +kernel
theorem zd_523_31 : decode prog_30_method_40_code 31 = .ok (.iload_n 3, 1) := by decide +kernel
theorem zd_523_32 : decode prog_30_method_40_code 32 = .ok (.invokestatic 228, 3) := by decide +kernel
theorem zd_523_36 : decode prog_30_method_40_code 36 = .ok (.aload_n 0, 1) := by decide +kernel
theorem zd_523_37 : decode prog_30_method_40_code 37 = .ok (.iload_n 1, 1) := by decide +kernel
theorem zd_523_38 : decode prog_30_method_40_code 38 = .ok (.iload_n 2, 1) := by decide +kernel
theorem zd_523_39 : decode prog_30_method_40_code 39 = .ok (.iload_n 3, 1) := by decide +kernel
theorem zd_523_40 : decode prog_30_method_40_code 40 = .ok (.invokestatic 232, 3) := by decide +kernel
theorem zd_524_0 : decode prog_10_method_43_code 0 = .ok (.aload_n 0, 1) := by decide +kernel
theorem zd_524_1 : decode prog_10_method_43_code 1 = .ok (.getfield 56, 3) := by decide +kernel
theorem zd_524_4 : decode prog_10_method_43_code 4 = .ok (.iconst 1, 1) := by decide +kernel
theorem zd_524_5 : decode prog_10_method_43_code 5 = .ok (.iadd, 1) := by decide +kernel
theorem zd_524_6 : decode prog_10_method_43_code 6 = .ok (.bipush 6, 2) := by decide +kernel
theorem zd_524_8 : decode prog_10_method_43_code 8 = .ok (.imul, 1) := by decide +kernel
theorem zd_524_9 : decode prog_10_method_43_code 9 = .ok (.aload_n 0, 1) := by decide +kernel
theorem zd_524_10 : decode prog_10_method_43_code 10 = .ok (.getfield 15, 3) := by decide +kernel
theorem zd_524_13 : decode prog_10_method_43_code 13 = .ok (.arraylength, 1) := by decide +kernel
theorem zd_524_14 : decode prog_10_method_43_code 14 = .ok (.if_icmp .le 9, 3) := by decide +kernel
theorem zd_524_17 : decode prog_10_method_43_code 17 = .ok (.aload_n 0, 1) := by decide +kernel
theorem zd_524_18 : decode prog_10_method_43_code 18 = .ok (.invokevirtual 83, 3) := by decide +kernel
theorem zd_524_21 : decode prog_10_method_43_code 21 = .ok (.iconst 0, 1) := by decide +kernel
theorem zd_524_23 : decode prog_10_method_43_code 23 = .ok (.aload_n 0, 1) := by decide +kernel
theorem zd_524_24 : decode prog_10_method_43_code 24 = .ok (.getfield 56, 3) := by decide +kernel
theorem zd_524_27 : decode prog_10_method_43_code 27 = .ok (.bipush 6, 2) := by decide +kernel
theorem zd_524_29 : decode prog_10_method_43_code 29 = .ok (.imul, 1) := by decide +kernel
theorem zd_524_30 : decode prog_10_method_43_code 30 = .ok (.istore_n 1, 1) := by decide +kernel
theorem zd_524_31 : decode prog_10_method_43_code 31 = .ok (.aload_n 0, 1) := by decide +kernel
theorem zd_524_32 : decode prog_10_method_43_code 32 = .ok (.invokevirtual 148, 3) := by decide +kernel
theorem zd_524_35 : decode prog_10_method_43_code 35 = .ok (.istore_n 2, 1) := by decide +kernel
theorem zd_524_36 : decode prog_10_method_43_code 36 = .ok (.aload_n 0, 1) := by decide +kernel
theorem zd_524_37 : decode prog_10_method_43_code 37 = .ok (.getfield 24, 3) := by decide +kernel
theorem zd_524_40 : decode prog_10_method_43_code 40 = .ok (.getfield 214, 3) := by decide +kernel
theorem zd_524_43 : decode prog_10_method_43_code 43 = .ok (.iload_n 2, 1) := by decide +kernel
theorem zd_524_44 : decode prog_10_method_43_code 44 = .ok (.iaload, 1) := by decide +kernel
theorem zd_524_45 : decode prog_10_method_43_code 45 = .ok (.iconst 1, 1) := by decide +kernel
theorem zd_524_46 : decode prog_10_method_43_code 46 = .ok (.isub, 1) := by decide +kernel
theorem zd_524_47 : decode prog_10_method_43_code 47 = .ok (.istore_n 3, 1) := by decide +kernel
theorem zd_524_48 : decode prog_10_method_43_code 48 = .ok (.aload_n 0, 1) := by decide +kernel
theorem zd_524_49 : decode prog_10_method_43_code 49 = .ok (.getfield 15, 3) := by decide +kernel
theorem zd_524_52 : decode prog_10_method_43_code 52 = .ok (.iload_n 1, 1) := by decide +kernel
theorem zd_524_53 : decode prog_10_method_43_code 53 = .ok (.iload_n 2, 1) := by decide +kernel
theorem zd_524_54 : decode prog_10_method_43_code 54 = .ok (.iastore, 1) := by decide +kernel
theorem zd_524_55 : decode prog_10_method_43_code 55 = .ok (.aload_n 0, 1) := by decide +kernel
theorem zd_524_56 : decode prog_10_method_43_code 56 = .ok (.getfield 15, 3) := by decide +kernel
theorem zd_524_59 : decode prog_10_method_43_code 59 = .ok (.iload_n 1, 1) := by decide +kernel
theorem zd_524_60 : decode prog_10_method_43_code 60 = .ok (.iconst 1, 1) := by decide +kernel
theorem zd_524_61 : decode prog_10_method_43_code 61 = .ok (.iadd, 1) := by decide +kernel
theorem zd_524_62 : decode prog_10_method_43_code 62 = .ok (.aload_n 0, 1) := by decide +kernel
theorem zd_524_63 : decode prog_10_method_43_code 63 = .ok (.invokevirtual 151, 3) := by decide +kernel
theorem zd_524_66 : decode prog_10_method_43_code 66 = .ok (.iastore, 1) := by decide +kernel
theorem zd_524_67 : decode prog_10_method_43_code 67 = .ok (.aload_n 0, 1) := by decide +kernel
theorem zd_524_68 : decode prog_10_method_43_code 68 = .ok (.getfield 15, 3) := by decide +kernel
theorem zd_524_71 : decode prog_10_method_43_code 71 = .ok (.iload_n 1, 1) := by decide +kernel
theorem zd_524_72 : decode prog_10_method_43_code 72 = .ok (.iconst 2, 1) := by decide +kernel
theorem zd_524_73 : decode prog_10_method_43_code 73 = .ok (.iadd, 1) := by decide +kernel
theorem zd_524_74 : decode prog_10_method_43_code 74 = .ok (.iconst 1, 1) := by decide +kernel
theorem zd_524_75 : decode prog_10_method_43_code 75 = .ok (.iastore, 1) := by decide +kernel
theorem zd_524_76 : decode prog_10_method_43_code 76 = .ok (.aload_n 0, 1) := by decide +kernel
theorem zd_524_77 : decode prog_10_method_43_code 77 = .ok (.getfield 15, 3) := by decide +kernel
theorem zd_524_80 : decode prog_10_method_43_code 80 = .ok (.iload_n 1, 1) := by decide +kernel
theorem zd_524_81 : decode prog_10_method_43_code 81 = .ok (.iconst 3, 1) := by decide +kernel
theorem zd_524_82 : decode prog_10_method_43_code 82 = .ok (.iadd, 1) := by decide +kernel
theorem zd_524_83 : decode prog_10_method_43_code 83 = .ok (.iload_n 3, 1) := by decide +kernel
theorem zd_524_84 : decode prog_10_method_43_code 84 = .ok (.ifCond .ge 7, 3) := by decide +kernel
theorem zd_524_87 : decode prog_10_method_43_code 87 = .ok (.iconst (-1), 1) := by decide +kernel
theorem zd_524_88 : decode prog_10_method_43_code 88 = .ok (.goto 13, 3) := by decide +kernel
theorem zd_524_91 : decode prog_10_method_43_code 91 = .ok (.aload_n 0, 1) := by decide +kernel
theorem zd_524_92 : decode prog_10_method_43_code 92 = .ok (.getfield 18, 3) := by decide +kernel
theorem zd_524_95 : decode prog_10_method_43_code 95 = .ok (.iload_n 3, 1) := by decide +kernel
theorem zd_524_96 : decode prog_10_method_43_code 96 = .ok (.iconst 3, 1) := by decide +kernel
theorem zd_524_97 : decode prog_10_method_43_code 97 = .ok (.imul, 1) := by decide +kernel
theorem zd_524_98 : decode prog_10_method_43_code 98 = .ok (.iconst 1, 1) := by decide +kernel
theorem zd_524_99 : decode prog_10_method_43_code 99 = .ok (.iadd, 1) := by decide +kernel
theorem zd_524_100 : decode prog_10_method_43_code 100 = .ok (.iaload, 1) := by decide +kernel
theorem zd_524_101 : decode prog_10_method_43_code 101 = .ok (.iastore, 1) := by decide +kernel
theorem zd_524_102 : decode prog_10_method_43_code 102 = .ok (.aload_n 0, 1) := by decide +kernel
theorem zd_524_103 : decode prog_10_method_43_code 103 = .ok (.getfield 15, 3) := by decide +kernel
theorem zd_524_106 : decode prog_10_method_43_code 106 = .ok (.iload_n 1, 1) := by decide +kernel
theorem zd_524_107 : decode prog_10_method_43_code 107 = .ok (.iconst 4, 1) := by decide +kernel
theorem zd_524_108 : decode prog_10_method_43_code 108 = .ok (.iadd, 1) := by decide +kernel
theorem zd_524_109 : decode prog_10_method_43_code 109 = .ok (.iload_n 3, 1) := by decide +kernel
theorem zd_524_110 : decode prog_10_method_43_code 110 = .ok (.ifCond .ge 7, 3) := by decide +kernel
theorem zd_524_113 : decode prog_10_method_43_code 113 = .ok (.iconst 0, 1) := by decide +kernel
theorem zd_524_114 : decode prog_10_method_43_code 114 = .ok (.goto 13, 3) := by decide +kernel
theorem zd_524_117 : decode prog_10_method_43_code 117 = .ok (.aload_n 0, 1) := by decide +kernel
theorem zd_524_118 : decode prog_10_method_43_code 118 = .ok (.getfield 18, 3) := by decide +kernel
theorem zd_524_121 : decode prog_10_method_43_code 121 = .ok (.iload_n 3, 1) := by decide +kernel
theorem zd_524_122 : decode prog_10_method_43_code 122 = .ok (.iconst 3, 1) := by decide +kernel
theorem zd_524_123 : decode prog_10_method_43_code 123 = .ok (.imul, 1) := by decide +kernel
theorem zd_524_124 : decode prog_10_method_43_code 124 = .ok (.iconst 2, 1) := by decide +kernel
theorem zd_524_125 : decode prog_10_method_43_code 125 = .ok (.iadd, 1) := by decide +kernel
theorem zd_524_126 : decode prog_10_method_43_code 126 = .ok (.iaload, 1) := by decide +kernel
theorem zd_524_127 : decode prog_10_method_43_code 127 = .ok (.iastore, 1) := by decide +kernel
theorem zd_524_128 : decode prog_10_method_43_code 128 = .ok (.aload_n 0, 1) := by decide +kernel
theorem zd_524_129 : decode prog_10_method_43_code 129 = .ok (.getfield 15, 3) := by decide +kernel
theorem zd_524_132 : decode prog_10_method_43_code 132 = .ok (.iload_n 1, 1) := by decide +kernel
theorem zd_524_133 : decode prog_10_method_43_code 133 = .ok (.iconst 5, 1) := by decide +kernel
theorem zd_524_134 : decode prog_10_method_43_code 134 = .ok (.iadd, 1) := by decide +kernel
theorem zd_524_135 : decode prog_10_method_43_code 135 = .ok (.iconst (-1), 1) := by decide +kernel
theorem zd_524_136 : decode prog_10_method_43_code 136 = .ok (.iastore, 1) := by decide +kernel
theorem zd_524_137 : decode prog_10_method_43_code 137 = .ok (.aload_n 0, 1) := by decide +kernel
theorem zd_524_138 : decode prog_10_method_43_code 138 = .ok (.dup, 1) := by decide +kernel
theorem zd_524_139 : decode prog_10_method_43_code 139 = .ok (.getfield 56, 3) := by decide +kernel
theorem zd_524_142 : decode prog_10_method_43_code 142 = .ok (.iconst 1, 1) := by decide +kernel
theorem zd_524_143 : decode prog_10_method_43_code 143 = .ok (.iadd, 1) := by decide +kernel
theorem zd_524_144 : decode prog_10_method_43_code 144 = .ok (.putfield 56, 3) := by decide +kernel
theorem zd_524_147 : decode prog_10_method_43_code 147 = .ok (.aload_n 0, 1) := by decide +kernel
theorem zd_524_148 : decode prog_10_method_43_code 148 = .ok (.getfield 56, 3) := by decide +kernel
theorem zd_524_151 : decode prog_10_method_43_code 151 = .ok (.iconst 1, 1) := by decide +kernel
theorem zd_524_152 : decode prog_10_method_43_code 152 = .ok (.isub, 1) := by decide +kernel
theorem zd_525_0 : decode prog_10_method_42_code 0 = .ok (.aload_n 0, 1) := by decide +kernel
theorem zd_525_1 : decode prog_10_method_42_code 1 = .ok (.bipush 40, 2) := by decide +kernel
theorem zd_525_3 : decode prog_10_method_42_code 3 = .ok (.invokevirtual 172, 3) := by decide +kernel
theorem zd_525_6 : decode prog_10_method_42_code 6 = .ok (.ifCond .ne 4, 3) := by decide +kernel
theorem zd_525_10 : decode prog_10_method_42_code 10 = .ok (.aload_n 0, 1) := by decide +kernel
theorem zd_525_11 : decode prog_10_method_42_code 11 = .ok (.getfield 203, 3) := by decide +kernel
theorem zd_525_14 : decode prog_10_method_42_code 14 = .ok (.bipush 6, 2) := by decide +kernel
theorem zd_525_16 : decode prog_10_method_42_code 16 = .ok (.imul, 1) := by decide +kernel
theorem zd_525_17 : decode prog_10_method_42_code 17 = .ok (.iconst 3, 1) := by decide +kernel
theorem zd_525_18 : decode prog_10_method_42_code 18 = .ok (.iadd, 1) := by decide +kernel
theorem zd_525_19 : decode prog_10_method_42_code 19 = .ok (.istore_n 3, 1) := by decide +kernel
theorem zd_525_20 : decode prog_10_method_42_code 20 = .ok (.aload_n 0, 1) := by decide +kernel
theorem zd_525_21 : decode prog_10_method_42_code 21 = .ok (.getfield 36, 3) := by decide +kernel
theorem zd_525_24 : decode prog_10_method_42_code 24 = .ok (.getfield 197, 3) := by decide +kernel
theorem zd_525_27 : decode prog_10_method_42_code 27 = .ok (.iload_n 3, 1) := by decide +kernel
theorem zd_525_28 : decode prog_10_method_42_code 28 = .ok (.aload_n 0, 1) := by decide +kernel
theorem zd_525_29 : decode prog_10_method_42_code 29 = .ok (.getfield 36, 3) := by decide +kernel
theorem zd_525_32 : decode prog_10_method_42_code 32 = .ok (.getfield 197, 3) := by decide +kernel
theorem zd_525_35 : decode prog_10_method_42_code 35 = .ok (.iload_n 3, 1) := by decide +kernel
theorem zd_525_36 : decode prog_10_method_42_code 36 = .ok (.iaload, 1) := by decide +kernel
theorem zd_525_37 : decode prog_10_method_42_code 37 = .ok (.iload_n 2, 1) := by decide +kernel
theorem zd_525_38 : decode prog_10_method_42_code 38 = .ok (.invokestatic 205, 3) := by decide +kernel
theorem zd_525_41 : decode prog_10_method_42_code 41 = .ok (.iastore, 1) := by decide +kernel
theorem zd_525_42 : decode prog_10_method_42_code 42 = .ok (.iconst 0, 1) := by decide +kernel
theorem zd_525_43 : decode prog_10_method_42_code 43 = .ok (.istore 4, 2) := by decide +kernel
theorem zd_525_45 : decode prog_10_method_42_code 45 = .ok (.iconst 0, 1) := by decide +kernel
theorem zd_525_46 : decode prog_10_method_42_code 46 = .ok (.istore 5, 2) := by decide +kernel
theorem zd_525_48 : decode prog_10_method_42_code 48 = .ok (.iload 5, 2) := by decide +kernel
theorem zd_525_50 : decode prog_10_method_42_code 50 = .ok (.iconst 4, 1) := by decide +kernel
theorem zd_525_51 : decode prog_10_method_42_code 51 = .ok (.if_icmp .ge 66, 3) := by decide +kernel
theorem zd_525_54 : decode prog_10_method_42_code 54 = .ok (.aload_n 0, 1) := by decide +kernel
theorem zd_525_55 : decode prog_10_method_42_code 55 = .ok (.invokevirtual 69, 3) := by decide +kernel
theorem zd_525_58 : decode prog_10_method_42_code 58 = .ok (.bipush 41, 2) := by decide +kernel
theorem zd_525_60 : decode prog_10_method_42_code 60 = .ok (.if_icmp .eq 57, 3) := by decide +kernel
theorem zd_525_63 : decode prog_10_method_42_code 63 = .ok (.aload_n 0, 1) := by decide +kernel
theorem zd_525_64 : decode prog_10_method_42_code 64 = .ok (.iload_n 2, 1) := by decide +kernel
theorem zd_525_65 : decode prog_10_method_42_code 65 = .ok (.iload 5, 2) := by decide +kernel
theorem zd_525_67 : decode prog_10_method_42_code 67 = .ok (.iadd, 1) := by decide +kernel
theorem zd_525_68 : decode prog_10_method_42_code 68 = .ok (.invokevirtual 238, 3) := by decide +kernel
theorem zd_525_71 : decode prog_10_method_42_code 71 = .ok (.iinc 4 1, 3) := by decide +kernel
theorem zd_525_74 : decode prog_10_method_42_code 74 = .ok (.aload_n 0, 1) := by decide +kernel
theorem zd_525_75 : decode prog_10_method_42_code 75 = .ok (.invokevirtual 69, 3) := by decide +kernel
theorem zd_525_78 : decode prog_10_method_42_code 78 = .ok (.bipush 44, 2) := by decide +kernel
theorem zd_525_80 : decode prog_10_method_42_code 80 = .ok (.if_icmp .ne 37, 3) := by decide +kernel
theorem zd_525_83 : decode prog_10_method_42_code 83 = .ok (.iload 5, 2) := by decide +kernel
theorem zd_525_85 : decode prog_10_method_42_code 85 = .ok (.iconst 1, 1) := by decide +kernel
theorem zd_525_86 : decode prog_10_method_42_code 86 = .ok (.iadd, 1) := by decide +kernel
theorem zd_525_87 : decode prog_10_method_42_code 87 = .ok (.iconst 4, 1) := by decide +kernel
theorem zd_525_88 : decode prog_10_method_42_code 88 = .ok (.if_icmp .ne 6, 3) := by decide +kernel
theorem zd_525_91 : decode prog_10_method_42_code 91 = .ok (.goto 26, 3) := by decide +kernel
theorem zd_525_94 : decode prog_10_method_42_code 94 = .ok (.aload_n 0, 1) := by decide +kernel
theorem zd_525_95 : decode prog_10_method_42_code 95 = .ok (.invokevirtual 73, 3) := by decide +kernel
theorem zd_525_98 : decode prog_10_method_42_code 98 = .ok (.aload_n 0, 1) := by decide +kernel
theorem zd_525_99 : decode prog_10_method_42_code 99 = .ok (.invokevirtual 69, 3) := by decide +kernel
theorem zd_525_102 : decode prog_10_method_42_code 102 = .ok (.bipush 41, 2) := by decide +kernel
theorem zd_525_104 : decode prog_10_method_42_code 104 = .ok (.if_icmp .ne 7, 3) := by decide +kernel
theorem zd_525_107 : decode prog_10_method_42_code 107 = .ok (.aload_n 0, 1) := by decide +kernel
theorem zd_525_108 : decode prog_10_method_42_code 108 = .ok (.invokevirtual 83, 3) := by decide +kernel
theorem zd_525_111 : decode prog_10_method_42_code 111 = .ok (.iinc 5 1, 3) := by decide +kernel
theorem zd_525_114 : decode prog_10_method_42_code 114 = .ok (.goto (-66), 3) := by decide +kernel
theorem zd_525_117 : decode prog_10_method_42_code 117 = .ok (.aload_n 0, 1) := by decide +kernel
theorem zd_525_118 : decode prog_10_method_42_code 118 = .ok (.getfield 15, 3) := by decide +kernel
theorem zd_525_121 : decode prog_10_method_42_code 121 = .ok (.iload_n 1, 1) := by decide +kernel
theorem zd_525_122 : decode prog_10_method_42_code 122 = .ok (.bipush 6, 2) := by decide +kernel
theorem zd_525_124 : decode prog_10_method_42_code 124 = .ok (.imul, 1) := by decide +kernel
theorem zd_525_125 : decode prog_10_method_42_code 125 = .ok (.iconst 2, 1) := by decide +kernel
theorem zd_525_126 : decode prog_10_method_42_code 126 = .ok (.iadd, 1) := by decide +kernel
theorem zd_525_127 : decode prog_10_method_42_code 127 = .ok (.iconst 3, 1) := by decide +kernel
theorem zd_525_128 : decode prog_10_method_42_code 128 = .ok (.iload 4, 2) := by decide +kernel
theorem zd_525_130 : decode prog_10_method_42_code 130 = .ok (.iadd, 1) := by decide +kernel
theorem zd_525_131 : decode prog_10_method_42_code 131 = .ok (.iastore, 1) := by decide +kernel
theorem zd_525_132 : decode prog_10_method_42_code 132 = .ok (.aload_n 0, 1) := by decide +kernel
theorem zd_525_133 : decode prog_10_method_42_code 133 = .ok (.bipush 41, 2) := by decide +kernel
theorem zd_525_135 : decode prog_10_method_42_code 135 = .ok (.invokevirtual 175, 3) := by decide +kernel
theorem zd_526_0 : decode prog_10_method_41_code 0 = .ok (.aload_n 0, 1) := by decide +kernel
theorem zd_526_1 : decode prog_10_method_41_code 1 = .ok (.getfield 15, 3) := by decide +kernel
theorem zd_526_4 : decode prog_10_method_41_code 4 = .ok (.iload_n 1, 1) := by decide +kernel
theorem zd_526_5 : decode prog_10_method_41_code 5 = .ok (.bipush 6, 2) := by decide +kernel
theorem zd_526_7 : decode prog_10_method_41_code 7 = .ok (.imul, 1) := by decide +kernel
theorem zd_526_8 : decode prog_10_method_41_code 8 = .ok (.iconst 2, 1) := by decide +kernel
theorem zd_526_9 : decode prog_10_method_41_code 9 = .ok (.iadd, 1) := by decide +kernel
theorem zd_526_10 : decode prog_10_method_41_code 10 = .ok (.iconst 2, 1) := by decide +kernel
theorem zd_526_11 : decode prog_10_method_41_code 11 = .ok (.iastore, 1) := by decide +kernel
theorem zd_526_12 : decode prog_10_method_41_code 12 = .ok (.aload_n 0, 1) := by decide +kernel
theorem zd_526_13 : decode prog_10_method_41_code 13 = .ok (.bipush 91, 2) := by decide +kernel
theorem zd_526_15 : decode prog_10_method_41_code 15 = .ok (.invokevirtual 172, 3) := by decide +kernel
theorem zd_526_18 : decode prog_10_method_41_code 18 = .ok (.ifCond .eq 25, 3) := by decide +kernel
theorem zd_526_21 : decode prog_10_method_41_code 21 = .ok (.aload_n 0, 1) := by decide +kernel
theorem zd_526_22 : decode prog_10_method_41_code 22 = .ok (.iload_n 2, 1) := by decide +kernel
theorem zd_526_23 : decode prog_10_method_41_code 23 = .ok (.invokevirtual 238, 3) := by decide +kernel
theorem zd_526_26 : decode prog_10_method_41_code 26 = .ok (.aload_n 0, 1) := by decide +kernel
theorem zd_526_27 : decode prog_10_method_41_code 27 = .ok (.bipush 93, 2) := by decide +kernel
theorem zd_526_29 : decode prog_10_method_41_code 29 = .ok (.invokevirtual 175, 3) := by decide +kernel
theorem zd_526_32 : decode prog_10_method_41_code 32 = .ok (.aload_n 0, 1) := by decide +kernel
theorem zd_526_33 : decode prog_10_method_41_code 33 = .ok (.getfield 36, 3) := by decide +kernel
theorem zd_526_36 : decode prog_10_method_41_code 36 = .ok (.bipush 8, 2) := by decide +kernel
theorem zd_526_38 : decode prog_10_method_41_code 38 = .ok (.iload_n 2, 1) := by decide +kernel
theorem zd_526_39 : decode prog_10_method_41_code 39 = .ok (.iload_n 1, 1) := by decide +kernel
theorem zd_526_40 : decode prog_10_method_41_code 40 = .ok (.invokevirtual 169, 3) := by decide +kernel
theorem zd_527_0 : decode prog_10_method_33_code 0 = .ok (.aload_n 0, 1) := by decide +kernel
theorem zd_527_1 : decode prog_10_method_33_code 1 = .ok (.getfield 62, 3) := by decide +kernel
theorem zd_527_4 : decode prog_10_method_33_code 4 = .ok (.iconst 1, 1) := by decide +kernel
theorem zd_527_5 : decode prog_10_method_33_code 5 = .ok (.iadd, 1) := by decide +kernel
theorem zd_527_6 : decode prog_10_method_33_code 6 = .ok (.aload_n 0, 1) := by decide +kernel
theorem zd_527_7 : decode prog_10_method_33_code 7 = .ok (.getfield 21, 3) := by decide +kernel
theorem zd_527_10 : decode prog_10_method_33_code 10 = .ok (.arraylength, 1) := by decide +kernel
theorem zd_527_11 : decode prog_10_method_33_code 11 = .ok (.if_icmp .ge 13, 3) := by decide +kernel
theorem zd_527_14 : decode prog_10_method_33_code 14 = .ok (.aload_n 0, 1) := by decide +kernel
theorem zd_527_15 : decode prog_10_method_33_code 15 = .ok (.dup, 1) := by decide +kernel
theorem zd_527_16 : decode prog_10_method_33_code 16 = .ok (.getfield 62, 3) := by decide +kernel
theorem zd_527_19 : decode prog_10_method_33_code 19 = .ok (.iconst 1, 1) := by decide +kernel
theorem zd_527_20 : decode prog_10_method_33_code 20 = .ok (.iadd, 1) := by decide +kernel
theorem zd_527_21 : decode prog_10_method_33_code 21 = .ok (.putfield 62, 3) := by decide +kernel
theorem zd_527_24 : decode prog_10_method_33_code 24 = .ok (.aload_n 0, 1) := by decide +kernel
theorem zd_527_25 : decode prog_10_method_33_code 25 = .ok (.getfield 62, 3) := by decide +kernel
theorem zd_527_28 : decode prog_10_method_33_code 28 = .ok (.iconst 1, 1) := by decide +kernel
theorem zd_527_29 : decode prog_10_method_33_code 29 = .ok (.isub, 1) := by decide +kernel
theorem zd_528_0 : decode prog_10_method_34_code 0 = .ok (.aload_n 0, 1) := by decide +kernel
theorem zd_528_1 : decode prog_10_method_34_code 1 = .ok (.getfield 21, 3) := by decide +kernel
theorem zd_528_4 : decode prog_10_method_34_code 4 = .ok (.iload_n 1, 1) := by decide +kernel
theorem zd_528_5 : decode prog_10_method_34_code 5 = .ok (.aload_n 0, 1) := by decide +kernel
theorem zd_528_6 : decode prog_10_method_34_code 6 = .ok (.getfield 36, 3) := by decide +kernel
theorem zd_528_9 : decode prog_10_method_34_code 9 = .ok (.getfield 200, 3) := by decide +kernel
theorem zd_528_12 : decode prog_10_method_34_code 12 = .ok (.iastore, 1) := by decide +kernel
theorem zd_528_13 : decode prog_10_method_34_code 13 = .ok (.aload_n 0, 1) := by decide +kernel
theorem zd_528_14 : decode prog_10_method_34_code 14 = .ok (.getfield 36, 3) := by decide +kernel
theorem zd_528_17 : decode prog_10_method_34_code 17 = .ok (.bipush 33, 2) := by decide +kernel
theorem zd_528_19 : decode prog_10_method_34_code 19 = .ok (.iconst 0, 1) := by decide +kernel
theorem zd_528_20 : decode prog_10_method_34_code 20 = .ok (.iload_n 1, 1) := by decide +kernel
theorem zd_528_21 : decode prog_10_method_34_code 21 = .ok (.invokevirtual 169, 3) := by decide +kernel
theorem zd_529_0 : decode prog_10_method_36_code 0 = .ok (.aload_n 0, 1) := by decide +kernel
theorem zd_529_1 : decode prog_10_method_36_code 1 = .ok (.iload_n 1, 1) := by decide +kernel
theorem zd_529_2 : decode prog_10_method_36_code 2 = .ok (.invokevirtual 267, 3) := by decide +kernel
theorem zd_529_5 : decode prog_10_method_36_code 5 = .ok (.iconst 0, 1) := by decide +kernel
theorem zd_529_6 : decode prog_10_method_36_code 6 = .ok (.istore_n 2, 1) := by decide +kernel
theorem zd_529_7 : decode prog_10_method_36_code 7 = .ok (.iload_n 2, 1) := by decide +kernel
theorem zd_529_8 : decode prog_10_method_36_code 8 = .ok (.sipush 3000, 3) := by decide +kernel
theorem zd_529_11 : decode prog_10_method_36_code 11 = .ok (.if_icmp .gt 51, 3) := by decide +kernel
theorem zd_529_14 : decode prog_10_method_36_code 14 = .ok (.aload_n 0, 1) := by decide +kernel
theorem zd_529_15 : decode prog_10_method_36_code 15 = .ok (.invokevirtual 69, 3) := by decide +kernel
theorem zd_529_18 : decode prog_10_method_36_code 18 = .ok (.invokestatic 264, 3) := by decide +kernel
theorem zd_529_21 : decode prog_10_method_36_code 21 = .ok (.istore_n 3, 1) := by decide +kernel
theorem zd_529_22 : decode prog_10_method_36_code 22 = .ok (.iload_n 3, 1) := by decide +kernel
theorem zd_529_23 : decode prog_10_method_36_code 23 = .ok (.bipush 15, 2) := by decide +kernel
theorem zd_529_25 : decode prog_10_method_36_code 25 = .ok (.if_icmp .lt 9, 3) := by decide +kernel
theorem zd_529_28 : decode prog_10_method_36_code 28 = .ok (.iload_n 3, 1) := by decide +kernel
theorem zd_529_29 : decode prog_10_method_36_code 29 = .ok (.bipush 18, 2) := by decide +kernel
theorem zd_529_31 : decode prog_10_method_36_code 31 = .ok (.if_icmp .le 4, 3) := by decide +kernel
theorem zd_529_35 : decode prog_10_method_36_code 35 = .ok (.aload_n 0, 1) := by decide +kernel
theorem zd_529_36 : decode prog_10_method_36_code 36 = .ok (.invokevirtual 73, 3) := by decide +kernel
theorem zd_529_39 : decode prog_10_method_36_code 39 = .ok (.aload_n 0, 1) := by decide +kernel
theorem zd_529_40 : decode prog_10_method_36_code 40 = .ok (.iload_n 1, 1) := by decide +kernel
theorem zd_529_41 : decode prog_10_method_36_code 41 = .ok (.iconst 1, 1) := by decide +kernel
theorem zd_529_42 : decode prog_10_method_36_code 42 = .ok (.iadd, 1) := by decide +kernel
theorem zd_529_43 : decode prog_10_method_36_code 43 = .ok (.invokevirtual 267, 3) := by decide +kernel
theorem zd_529_46 : decode prog_10_method_36_code 46 = .ok (.aload_n 0, 1) := by decide +kernel
theorem zd_529_47 : decode prog_10_method_36_code 47 = .ok (.getfield 36, 3) := by decide +kernel
theorem zd_529_50 : decode prog_10_method_36_code 50 = .ok (.iload_n 3, 1) := by decide +kernel
theorem zd_529_51 : decode prog_10_method_36_code 51 = .ok (.iload_n 1, 1) := by decide +kernel
theorem zd_529_52 : decode prog_10_method_36_code 52 = .ok (.iconst 0, 1) := by decide +kernel
theorem zd_529_53 : decode prog_10_method_36_code 53 = .ok (.invokevirtual 169, 3) := by decide +kernel
theorem zd_529_56 : decode prog_10_method_36_code 56 = .ok (.iinc 2 1, 3) := by decide +kernel
theorem zd_529_59 : decode prog_10_method_36_code 59 = .ok (.goto (-52), 3) := by decide +kernel
theorem zd_530_0 : decode prog_10_method_38_code 0 = .ok (.iload_n 0, 1) := by decide +kernel
theorem zd_530_1 : decode prog_10_method_38_code 1 = .ok (.lookupswitch 165 #[(37, 141), (38, 144), (42, 135), (43, 123), (45, 126), (47, 138), (60, 159), (94, 132), (124, 129), (128, 153), (129, 156), (130, 162), (131, 147), (132, 150)], 123) := by decide +kernel
theorem zd_530_124 : decode prog_10_method_38_code 124 = .ok (.bipush 15, 2) := by decide +kernel
theorem zd_530_127 : decode prog_10_method_38_code 127 = .ok (.bipush 16, 2) := by decide +kernel
theorem zd_530_130 : decode prog_10_method_38_code 130 = .ok (.bipush 17, 2) := by decide +kernel
theorem zd_530_133 : decode prog_10_method_38_code 133 = .ok (.bipush 18, 2) := by decide +kernel
theorem zd_530_136 : decode prog_10_method_38_code 136 = .ok (.bipush 19, 2) := by decide +kernel
theorem zd_530_139 : decode prog_10_method_38_code 139 = .ok (.bipush 20, 2) := by decide +kernel
theorem zd_530_142 : decode prog_10_method_38_code 142 = .ok (.bipush 21, 2) := by decide +kernel
theorem zd_530_145 : decode prog_10_method_38_code 145 = .ok (.bipush 22, 2) := by decide +kernel
theorem zd_530_148 : decode prog_10_method_38_code 148 = .ok (.bipush 23, 2) := by decide +kernel
theorem zd_530_151 : decode prog_10_method_38_code 151 = .ok (.bipush 24, 2) := by decide +kernel
theorem zd_530_154 : decode prog_10_method_38_code 154 = .ok (.bipush 25, 2) := by decide +kernel
theorem zd_530_157 : decode prog_10_method_38_code 157 = .ok (.bipush 26, 2) := by decide +kernel
theorem zd_530_160 : decode prog_10_method_38_code 160 = .ok (.bipush 27, 2) := by decide +kernel
theorem zd_530_163 : decode prog_10_method_38_code 163 = .ok (.bipush 28, 2) := by decide +kernel
theorem zd_530_166 : decode prog_10_method_38_code 166 = .ok (.iconst (-1), 1) := by decide +kernel
theorem zd_531_0 : decode prog_36_method_27_code 0 = .ok (.iload_n 0, 1) := by decide +kernel
theorem zd_531_1 : decode prog_36_method_27_code 1 = .ok (.iload_n 1, 1) := by decide +kernel
theorem zd_531_2 : decode prog_36_method_27_code 2 = .ok (.iload_n 2, 1) := by decide +kernel
theorem zd_531_3 : decode prog_36_method_27_code 3 = .ok (.invokestatic 194, 3) := by decide +kernel
theorem zd_531_6 : decode prog_36_method_27_code 6 = .ok (.iadd, 1) := by decide +kernel
theorem zd_531_7 : decode prog_36_method_27_code 7 = .ok (.istore_n 3, 1) := by decide +kernel
theorem zd_531_8 : decode prog_36_method_27_code 8 = .ok (.iconst 0, 1) := by decide +kernel
theorem zd_531_9 : decode prog_36_method_27_code 9 = .ok (.iload_n 3, 1) := by decide +kernel
theorem zd_531_10 : decode prog_36_method_27_code 10 = .ok (.if_icmp .ge 11, 3) := by decide +kernel
theorem zd_531_13 : decode prog_36_method_27_code 13 = .ok (.iload_n 3, 1) := by decide +kernel
theorem zd_531_14 : decode prog_36_method_27_code 14 = .ok (.ldc 200, 2) := by decide +kernel
theorem zd_531_16 : decode prog_36_method_27_code 16 = .ok (.if_icmp .gt 5, 3) := by decide +kernel
theorem zd_531_19 : decode prog_36_method_27_code 19 = .ok (.iload_n 3, 1) := by decide +kernel
theorem zd_531_21 : decode prog_36_method_27_code 21 = .ok (.iload_n 0, 1) := by decide +kernel
theorem zd_531_22 : decode prog_36_method_27_code 22 = .ok (.iload_n 1, 1) := by decide +kernel
theorem zd_531_23 : decode prog_36_method_27_code 23 = .ok (.invokestatic 201, 3) := by decide +kernel
theorem zd_532_0 : decode prog_26_method_158_code 0 = .ok (.iload_n 0, 1) := by decide +kernel
theorem zd_532_1 : decode prog_26_method_158_code 1 = .ok (.iload_n 1, 1) := by decide +kernel
theorem zd_532_2 : decode prog_26_method_158_code 2 = .ok (.iload_n 2, 1) := by decide +kernel
theorem zd_532_3 : decode prog_26_method_158_code 3 = .ok (.getstatic 1053, 3) := by decide +kernel
theorem zd_532_6 : decode prog_26_method_158_code 6 = .ok (.invokestatic 1062, 3) := by decide +kernel
theorem zd_532_9 : decode prog_26_method_158_code 9 = .ok (.pop, 1) := by decide +kernel
theorem zd_533_0 : decode prog_30_method_86_code 0 = .ok (.iload_n 3, 1) := by decide +kernel
theorem zd_533_1 : decode prog_30_method_86_code 1 = .ok (.iload 4, 2) := by decide +kernel
theorem zd_533_3 : decode prog_30_method_86_code 3 = .ok (.aload_n 2, 1) := by decide +kernel
theorem zd_533_4 : decode prog_30_method_86_code 4 = .ok (.invokestatic 173, 3) := by decide +kernel
theorem zd_533_7 : decode prog_30_method_86_code 7 = .ok (.iconst 0, 1) := by decide +kernel
theorem zd_533_8 : decode prog_30_method_86_code 8 = .ok (.istore 5, 2) := by decide +kernel
theorem zd_533_10 : decode prog_30_method_86_code 10 = .ok (.iload 5, 2) := by decide +kernel
theorem zd_533_12 : decode prog_30_method_86_code 12 = .ok (.iload 4, 2) := by decide +kernel
theorem zd_533_14 : decode prog_30_method_86_code 14 = .ok (.if_icmp .ge 27, 3) := by decide +kernel
theorem zd_533_17 : decode prog_30_method_86_code 17 = .ok (.aload_n 2, 1) := by decide +kernel
theorem zd_533_18 : decode prog_30_method_86_code 18 = .ok (.iload_n 3, 1) := by decide +kernel
theorem zd_533_19 : decode prog_30_method_86_code 19 = .ok (.iinc 3 1, 3) := by decide +kernel
theorem zd_533_22 : decode prog_30_method_86_code 22 = .ok (.aload_n 0, 1) := by decide +kernel
theorem zd_533_23 : decode prog_30_method_86_code 23 = .ok (.iload_n 1, 1) := by decide +kernel
theorem zd_533_24 : decode prog_30_method_86_code 24 = .ok (.iinc 1 1, 3) := by decide +kernel
theorem zd_534_0 : decode prog_14_method_33_code 0 = .ok (.aload_n 0, 1) := by decide +kernel
theorem zd_534_1 : decode prog_14_method_33_code 1 = .ok (.iload_n 1, 1) := by decide +kernel
theorem zd_534_2 : decode prog_14_method_33_code 2 = .ok (.iconst 3, 1) := by decide +kernel
theorem zd_534_3 : decode prog_14_method_33_code 3 = .ok (.iload_n 3, 1) := by decide +kernel
theorem zd_534_4 : decode prog_14_method_33_code 4 = .ok (.iadd, 1) := by decide +kernel
theorem zd_534_5 : decode prog_14_method_33_code 5 = .ok (.iload_n 2, 1) := by decide +kernel
theorem zd_534_6 : decode prog_14_method_33_code 6 = .ok (.invokevirtual 613, 3) := by decide +kernel
theorem zd_534_9 : decode prog_14_method_33_code 9 = .ok (.istore 6, 2) := by decide +kernel
theorem zd_534_11 : decode prog_14_method_33_code 11 = .ok (.aload_n 0, 1) := by decide +kernel
theorem zd_534_12 : decode prog_14_method_33_code 12 = .ok (.iload 4, 2) := by decide +kernel
theorem zd_534_14 : decode prog_14_method_33_code 14 = .ok (.aload_n 0, 1) := by decide +kernel
theorem zd_534_15 : decode prog_14_method_33_code 15 = .ok (.getfield 617, 3) := by decide +kernel
theorem zd_534_18 : decode prog_14_method_33_code 18 = .ok (.if_icmp .le 8, 3) := by decide +kernel
theorem zd_534_21 : decode prog_14_method_33_code 21 = .ok (.iload 4, 2) := by decide +kernel
theorem zd_534_23 : decode prog_14_method_33_code 23 = .ok (.goto 7, 3) := by decide +kernel
theorem zd_534_26 : decode prog_14_method_33_code 26 = .ok (.aload_n 0, 1) := by decide +kernel
theorem zd_534_27 : decode prog_14_method_33_code 27 = .ok (.getfield 617, 3) := by decide +kernel
theorem zd_534_30 : decode prog_14_method_33_code 30 = .ok (.putfield 617, 3) := by decide +kernel
theorem zd_534_33 : decode prog_14_method_33_code 33 = .ok (.aload_n 0, 1) := by decide +kernel
theorem zd_534_34 : decode prog_14_method_33_code 34 = .ok (.bipush 8, 2) := by decide +kernel
theorem zd_534_36 : decode prog_14_method_33_code 36 = .ok (.iload_n 1, 1) := by decide +kernel
theorem zd_534_37 : decode prog_14_method_33_code 37 = .ok (.iload_n 3, 1) := by decide +kernel
theorem zd_534_38 : decode prog_14_method_33_code 38 = .ok (.iload 4, 2) := by decide +kernel
theorem zd_534_40 : decode prog_14_method_33_code 40 = .ok (.iload 5, 2) := by decide +kernel
theorem zd_534_42 : decode prog_14_method_33_code 42 = .ok (.ifCond .ne 8, 3) := by decide +kernel
theorem zd_534_45 : decode prog_14_method_33_code 45 = .ok (.iload 6, 2) := by decide +kernel
theorem zd_534_47 : decode prog_14_method_33_code 47 = .ok (.ifCond .lt 7, 3) := by decide +kernel
theorem zd_534_50 : decode prog_14_method_33_code 50 = .ok (.iconst 1, 1) := by decide +kernel
theorem zd_534_51 : decode prog_14_method_33_code 51 = .ok (.goto 4, 3) := by decide +kernel
theorem zd_534_54 : decode prog_14_method_33_code 54 = .ok (.iconst 0, 1) := by decide +kernel
theorem zd_534_55 : decode prog_14_method_33_code 55 = .ok (.invokevirtual 620, 3) := by decide +kernel
theorem zd_535_0 : decode prog_14_method_34_code 0 = .ok (.aload_n 0, 1) := by decide +kernel
theorem zd_535_1 : decode prog_14_method_34_code 1 = .ok (.invokevirtual 624, 3) := by decide +kernel
theorem zd_535_4 : decode prog_14_method_34_code 4 = .ok (.istore_n 1, 1) := by decide +kernel
theorem zd_535_5 : decode prog_14_method_34_code 5 = .ok (.iload_n 1, 1) := by decide +kernel
theorem zd_535_6 : decode prog_14_method_34_code 6 = .ok (.bipush 8, 2) := by decide +kernel
theorem zd_535_8 : decode prog_14_method_34_code 8 = .ok (.if_icmp .lt 17, 3) := by decide +kernel
theorem zd_535_11 : decode prog_14_method_34_code 11 = .ok (.aload_n 0, 1) := by decide +kernel
theorem zd_535_12 : decode prog_14_method_34_code 12 = .ok (.iconst 4, 1) := by decide +kernel
theorem zd_535_13 : decode prog_14_method_34_code 13 = .ok (.aload_n 0, 1) := by decide +kernel
theorem zd_535_14 : decode prog_14_method_34_code 14 = .ok (.getfield 175, 3) := by decide +kernel
theorem zd_535_17 : decode prog_14_method_34_code 17 = .ok (.aload_n 0, 1) := by decide +kernel
theorem zd_535_18 : decode prog_14_method_34_code 18 = .ok (.getfield 576, 3) := by decide +kernel
theorem zd_535_21 : decode prog_14_method_34_code 21 = .ok (.iaload, 1) := by decide +kernel
theorem zd_535_22 : decode prog_14_method_34_code 22 = .ok (.invokevirtual 579, 3) := by decide +kernel
theorem zd_535_25 : decode prog_14_method_34_code 25 = .ok (.aload_n 0, 1) := by decide +kernel
theorem zd_535_26 : decode prog_14_method_34_code 26 = .ok (.bipush 45, 2) := by decide +kernel
theorem zd_535_28 : decode prog_14_method_34_code 28 = .ok (.invokevirtual 583, 3) := by decide +kernel
theorem zd_535_31 : decode prog_14_method_34_code 31 = .ok (.ifCond .ne 21, 3) := by decide +kernel
theorem zd_535_34 : decode prog_14_method_34_code 34 = .ok (.aload_n 0, 1) := by decide +kernel
theorem zd_535_35 : decode prog_14_method_34_code 35 = .ok (.bipush 33, 2) := by decide +kernel
theorem zd_535_37 : decode prog_14_method_34_code 37 = .ok (.invokevirtual 583, 3) := by decide +kernel
theorem zd_535_40 : decode prog_14_method_34_code 40 = .ok (.ifCond .ne 12, 3) := by decide +kernel
theorem zd_535_43 : decode prog_14_method_34_code 43 = .ok (.aload_n 0, 1) := by decide +kernel
theorem zd_535_44 : decode prog_14_method_34_code 44 = .ok (.bipush 126, 2) := by decide +kernel
theorem zd_535_46 : decode prog_14_method_34_code 46 = .ok (.invokevirtual 583, 3) := by decide +kernel
theorem zd_535_49 : decode prog_14_method_34_code 49 = .ok (.ifCond .eq 57, 3) := by decide +kernel
theorem zd_535_52 : decode prog_14_method_34_code 52 = .ok (.aload_n 0, 1) := by decide +kernel
theorem zd_535_53 : decode prog_14_method_34_code 53 = .ok (.invokevirtual 628, 3) := by decide +kernel
theorem zd_535_56 : decode prog_14_method_34_code 56 = .ok (.aload_n 0, 1) := by decide +kernel
