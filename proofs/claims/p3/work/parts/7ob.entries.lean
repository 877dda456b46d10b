/-! ENTRIES OF TABLES as numbers, one by one, by program -/
noncomputable section
theorem zz_c2 {α β : Type} {f : β → α} {a : α} {b : β} {l : List α} {m : List β} (h : a = f b) (h2 : l = m.map f) : a :: l = (b :: m).map f := by
  rw [h, h2]
  rfl
theorem zz_cn {α β : Type} {f : β → α} : ([] : List α) = ([] : List β).map f := rfl
theorem zie_n : zz_en0 = zi_e zi_n := rfl
theorem zie_r1 : ((1, fun _ _ => none) : Nat × zz_A) = zi_e (201, [], []) := rfl
theorem zie_r2 : ((2, fun _ _ => none) : Nat × zz_A) = zi_e (202, [], []) := rfl
theorem zie_r3 : ((3, fun _ _ => none) : Nat × zz_A) = zi_e (203, [], []) := rfl
theorem zie_r4 : ((4, fun _ _ => none) : Nat × zz_A) = zi_e (204, [], []) := rfl
theorem zie_r5 : ((5, fun _ _ => none) : Nat × zz_A) = zi_e (205, [], []) := rfl
theorem zie_r6 : ((6, fun _ _ => none) : Nat × zz_A) = zi_e (206, [], []) := rfl
theorem zie_r7 : ((7, fun _ _ => none) : Nat × zz_A) = zi_e (207, [], []) := rfl
theorem zie_0 {p0 p1 : Nat} : ((0, za_const (.int (Int32.ofNat p1)) p0) : Nat × zz_A) = zi_e (0, [p0, p1], []) := rfl
theorem zie_1 {p0 p1 : Nat} : ((0, za_const (.long (Int64.ofNat p1)) p0) : Nat × zz_A) = zi_e (1, [p0, p1], []) := rfl
theorem zie_2 {p0 p1 : Nat} : ((0, za_const (.ref p1) p0) : Nat × zz_A) = zi_e (2, [p0, p1], []) := rfl
theorem zie_3 {p0 : Nat} : ((0, za_const .null p0) : Nat × zz_A) = zi_e (3, [p0], []) := rfl
theorem zie_4 {p0 p1 : Nat} : ((0, za_iload p1 p0) : Nat × zz_A) = zi_e (4, [p0, p1], []) := rfl
theorem zie_5 {p0 p1 : Nat} : ((0, za_lload p1 p0) : Nat × zz_A) = zi_e (5, [p0, p1], []) := rfl
theorem zie_6 {p0 p1 : Nat} : ((0, za_aload p1 p0) : Nat × zz_A) = zi_e (6, [p0, p1], []) := rfl
theorem zie_7 {p0 p1 : Nat} : ((0, za_istore p1 p0) : Nat × zz_A) = zi_e (7, [p0, p1], []) := rfl
theorem zie_8 {p0 p1 : Nat} : ((0, za_lstore p1 p0) : Nat × zz_A) = zi_e (8, [p0, p1], []) := rfl
theorem zie_9 {p0 p1 : Nat} : ((0, za_astore p1 p0) : Nat × zz_A) = zi_e (9, [p0, p1], []) := rfl
theorem zie_10 {p0 p1 p2 : Nat} : ((0, za_iinc p1 (Int32.ofNat p2) p0) : Nat × zz_A) = zi_e (10, [p0, p1, p2], []) := rfl
theorem zie_11 {p0 : Nat} : ((0, za_iadd p0) : Nat × zz_A) = zi_e (11, [p0], []) := rfl
theorem zie_12 {p0 : Nat} : ((0, za_isub p0) : Nat × zz_A) = zi_e (12, [p0], []) := rfl
theorem zie_13 {p0 : Nat} : ((0, za_imul p0) : Nat × zz_A) = zi_e (13, [p0], []) := rfl
theorem zie_14 {p0 : Nat} : ((0, za_iand p0) : Nat × zz_A) = zi_e (14, [p0], []) := rfl
theorem zie_15 {p0 : Nat} : ((0, za_ior p0) : Nat × zz_A) = zi_e (15, [p0], []) := rfl
theorem zie_16 {p0 : Nat} : ((0, za_ixor p0) : Nat × zz_A) = zi_e (16, [p0], []) := rfl
theorem zie_17 {p0 : Nat} : ((0, za_ishl p0) : Nat × zz_A) = zi_e (17, [p0], []) := rfl
theorem zie_18 {p0 : Nat} : ((0, za_ishr p0) : Nat × zz_A) = zi_e (18, [p0], []) := rfl
theorem zie_19 {p0 : Nat} : ((0, za_iushr p0) : Nat × zz_A) = zi_e (19, [p0], []) := rfl
theorem zie_20 {p0 : Nat} : ((0, za_irem p0) : Nat × zz_A) = zi_e (20, [p0], []) := rfl
theorem zie_21 {p0 : Nat} : ((0, za_ineg p0) : Nat × zz_A) = zi_e (21, [p0], []) := rfl
theorem zie_22 {p0 : Nat} : ((0, za_i2b p0) : Nat × zz_A) = zi_e (22, [p0], []) := rfl
theorem zie_23 {p0 : Nat} : ((0, za_i2s p0) : Nat × zz_A) = zi_e (23, [p0], []) := rfl
theorem zie_24 {p0 : Nat} : ((0, za_i2l p0) : Nat × zz_A) = zi_e (24, [p0], []) := rfl
theorem zie_25 {p0 : Nat} : ((0, za_l2i p0) : Nat × zz_A) = zi_e (25, [p0], []) := rfl
theorem zie_26 {p0 : Nat} : ((0, za_lcmp p0) : Nat × zz_A) = zi_e (26, [p0], []) := rfl
theorem zie_27 {p0 : Nat} : ((0, za_ladd p0) : Nat × zz_A) = zi_e (27, [p0], []) := rfl
theorem zie_28 {p0 : Nat} : ((0, za_lsub p0) : Nat × zz_A) = zi_e (28, [p0], []) := rfl
theorem zie_29 {p0 : Nat} : ((0, za_lmul p0) : Nat × zz_A) = zi_e (29, [p0], []) := rfl
theorem zie_30 {p0 : Nat} : ((0, za_land p0) : Nat × zz_A) = zi_e (30, [p0], []) := rfl
theorem zie_31 {p0 : Nat} : ((0, za_lor p0) : Nat × zz_A) = zi_e (31, [p0], []) := rfl
theorem zie_32 {p0 : Nat} : ((0, za_lxor p0) : Nat × zz_A) = zi_e (32, [p0], []) := rfl
theorem zie_33 {p0 : Nat} : ((0, za_lshl p0) : Nat × zz_A) = zi_e (33, [p0], []) := rfl
theorem zie_34 {p0 : Nat} : ((0, za_lshr p0) : Nat × zz_A) = zi_e (34, [p0], []) := rfl
theorem zie_35 {p0 : Nat} : ((0, za_lushr p0) : Nat × zz_A) = zi_e (35, [p0], []) := rfl
theorem zie_36 {p0 : Nat} : ((0, za_dup p0) : Nat × zz_A) = zi_e (36, [p0], []) := rfl
theorem zie_37 {p0 : Nat} : ((0, za_pop p0) : Nat × zz_A) = zi_e (37, [p0], []) := rfl
theorem zie_38 {p0 : Nat} : ((0, za_dup_x1 p0) : Nat × zz_A) = zi_e (38, [p0], []) := rfl
theorem zie_39 {p0 : Nat} : ((0, za_dup2_11 p0) : Nat × zz_A) = zi_e (39, [p0], []) := rfl
theorem zie_40 {p0 p1 : Nat} : ((0, za_if_eq p1 p0) : Nat × zz_A) = zi_e (40, [p0, p1], []) := rfl
theorem zie_41 {p0 p1 : Nat} : ((0, za_if_ne p1 p0) : Nat × zz_A) = zi_e (41, [p0, p1], []) := rfl
theorem zie_42 {p0 p1 : Nat} : ((0, za_if_lt p1 p0) : Nat × zz_A) = zi_e (42, [p0, p1], []) := rfl
theorem zie_43 {p0 p1 : Nat} : ((0, za_if_ge p1 p0) : Nat × zz_A) = zi_e (43, [p0, p1], []) := rfl
theorem zie_44 {p0 p1 : Nat} : ((0, za_if_gt p1 p0) : Nat × zz_A) = zi_e (44, [p0, p1], []) := rfl
theorem zie_45 {p0 p1 : Nat} : ((0, za_if_le p1 p0) : Nat × zz_A) = zi_e (45, [p0, p1], []) := rfl
theorem zie_46 {p0 p1 : Nat} : ((0, za_icmp_eq p1 p0) : Nat × zz_A) = zi_e (46, [p0, p1], []) := rfl
theorem zie_47 {p0 p1 : Nat} : ((0, za_icmp_ne p1 p0) : Nat × zz_A) = zi_e (47, [p0, p1], []) := rfl
theorem zie_48 {p0 p1 : Nat} : ((0, za_icmp_lt p1 p0) : Nat × zz_A) = zi_e (48, [p0, p1], []) := rfl
theorem zie_49 {p0 p1 : Nat} : ((0, za_icmp_ge p1 p0) : Nat × zz_A) = zi_e (49, [p0, p1], []) := rfl
theorem zie_50 {p0 p1 : Nat} : ((0, za_icmp_gt p1 p0) : Nat × zz_A) = zi_e (50, [p0, p1], []) := rfl
theorem zie_51 {p0 p1 : Nat} : ((0, za_icmp_le p1 p0) : Nat × zz_A) = zi_e (51, [p0, p1], []) := rfl
theorem zie_52 {p0 p1 : Nat} : ((0, za_ifnull p1 p0) : Nat × zz_A) = zi_e (52, [p0, p1], []) := rfl
theorem zie_53 {p0 p1 : Nat} : ((0, za_ifnonnull p1 p0) : Nat × zz_A) = zi_e (53, [p0, p1], []) := rfl
theorem zie_54 {p0 : Nat} : ((0, za_goto p0) : Nat × zz_A) = zi_e (54, [p0], []) := rfl
theorem zie_55 {lo hi : Int} {dt : Nat} {ts : List Nat} : ((0, za_tsw lo hi dt ts) : Nat × zz_A) = zi_e (55, dt :: ts, [(lo, 0), (hi, 0)]) := rfl
theorem zie_56 {dt : Nat} {qs : List (Int × Nat)} : ((0, za_lsw (zz_lo dt qs)) : Nat × zz_A) = zi_e (56, [dt], qs) := rfl
theorem zie_57 {p0 p1 p2 : Nat} : ((0, za_getI p1 p2 p0) : Nat × zz_A) = zi_e (57, [p0, p1, p2], []) := rfl
theorem zie_58 {p0 p1 p2 : Nat} : ((0, za_getA p1 p2 p0) : Nat × zz_A) = zi_e (58, [p0, p1, p2], []) := rfl
theorem zie_59 {p0 p1 : Nat} : ((0, za_alen p1 p0) : Nat × zz_A) = zi_e (59, [p0, p1], []) := rfl
theorem zie_60 {p0 : Nat} : ((0, za_idiv p0) : Nat × zz_A) = zi_e (60, [p0], []) := rfl
theorem zie_61 {p0 p1 p2 : Nat} : ((0, za_getL p1 p2 p0) : Nat × zz_A) = zi_e (61, [p0, p1, p2], []) := rfl
theorem zie_62 {p0 p1 : Nat} : ((0, za_aldL p1 p0) : Nat × zz_A) = zi_e (62, [p0, p1], []) := rfl
theorem zie_63 {p0 p1 : Nat} : ((0, za_aldA p1 p0) : Nat × zz_A) = zi_e (63, [p0, p1], []) := rfl
theorem zie_64 {p0 p1 : Nat} : ((0, za_aldI p1 p0) : Nat × zz_A) = zi_e (64, [p0, p1], []) := rfl
theorem zie_65 {p0 p1 p2 : Nat} : ((0, za_putI p1 p2 p0) : Nat × zz_A) = zi_e (65, [p0, p1, p2], []) := rfl
theorem zie_66 {p0 p1 p2 : Nat} : ((0, za_putZ p1 p2 p0) : Nat × zz_A) = zi_e (66, [p0, p1, p2], []) := rfl
theorem zie_67 {p0 p1 p2 : Nat} : ((0, za_putA p1 p2 p0) : Nat × zz_A) = zi_e (67, [p0, p1, p2], []) := rfl
theorem zie_68 {p0 p1 : Nat} : ((0, za_astI p1 p0) : Nat × zz_A) = zi_e (68, [p0, p1], []) := rfl
theorem zie_69 {p0 p1 : Nat} : ((0, za_astZ p1 p0) : Nat × zz_A) = zi_e (69, [p0, p1], []) := rfl
theorem zie_70 {p0 p1 : Nat} : ((0, za_astB p1 p0) : Nat × zz_A) = zi_e (70, [p0, p1], []) := rfl
theorem zie_71 {p0 p1 p2 p3 : Nat} : ((0, za_callV p1 p2 p3 p0) : Nat × zz_A) = zi_e (71, [p0, p1, p2, p3], []) := rfl
theorem zie_72 {p0 p1 p2 : Nat} : ((0, za_callS p1 p2 p0) : Nat × zz_A) = zi_e (72, [p0, p1, p2], []) := rfl
theorem zie_73 {p0 p1 : Nat} : ((0, za_astL p1 p0) : Nat × zz_A) = zi_e (73, [p0, p1], []) := rfl
theorem zie_74 {p0 : Nat} : ((0, za_ldiv p0) : Nat × zz_A) = zi_e (74, [p0], []) := rfl
theorem zie_75 {p0 : Nat} : ((0, za_lrem p0) : Nat × zz_A) = zi_e (75, [p0], []) := rfl
theorem zie_76 {p0 : Nat} : ((0, za_lneg p0) : Nat × zz_A) = zi_e (76, [p0], []) := rfl
theorem zie_77 {p0 : Nat} : ((0, za_kl (zz_ki zS2) p0) : Nat × zz_A) = zi_e (77, [p0], []) := rfl
theorem zie_78 {p0 : Nat} : ((0, za_i2c p0) : Nat × zz_A) = zi_e (78, [p0], []) := rfl
theorem zie_79 {p0 p1 p2 : Nat} : ((0, za_callK (zz_kg zS) p1 p2 p0) : Nat × zz_A) = zi_e (79, [p0, p1, p2], []) := rfl
theorem zie_80 {p0 : Nat} : ((0, za_kf (zz_kv zS) p0) : Nat × zz_A) = zi_e (80, [p0], []) := rfl
theorem zie_81 {p0 : Nat} : ((0, za_kf (zz_kc zS) p0) : Nat × zz_A) = zi_e (81, [p0], []) := rfl
theorem zie_82 {p0 : Nat} : ((0, za_kn (zz_kn zS zS2) p0) : Nat × zz_A) = zi_e (82, [p0], []) := rfl
theorem zie_83 {p0 : Nat} : ((0, za_kl (zz_kb zS) p0) : Nat × zz_A) = zi_e (83, [p0], []) := rfl
theorem zie_84 {p0 p1 p2 : Nat} : ((0, za_putL p1 p2 p0) : Nat × zz_A) = zi_e (84, [p0, p1, p2], []) := rfl
theorem zie_85 {p0 p1 : Nat} : ((0, za_copyB p1 p0) : Nat × zz_A) = zi_e (85, [p0, p1], []) := rfl
theorem zie_86 {p0 p1 : Nat} : ((0, za_copyI p1 p0) : Nat × zz_A) = zi_e (86, [p0, p1], []) := rfl
end
