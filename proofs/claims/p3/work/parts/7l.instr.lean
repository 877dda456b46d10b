/-! INSTRUCTIONS AS NUMBERS, and what each does to abstract frames, by program -/
noncomputable section
/-- number, numbers, pairs (of switches) -/
abbrev zi : Type := Nat × List Nat × List (Int × Nat)
def zi_p (ps : List Nat) (k : Nat) : Nat := ps.getD k 0
def zi_1 (n : Nat) (o : Option zk_A) : Option (List (Nat × zk_A)) := match o with
  | some A => some [(n, A)]
  | none => none
theorem zi_1_ok {I : zz_W → Prop} {act : zz_A} {n : Nat} {o : Option zk_A} {A : zk_A} {R : List (Nat × zk_A)} (h : zi_1 n o = some R) (hk : ∀ A', o = some A' → zk_S I act n A A') : zk_R I act A R := by
  unfold zi_1 at h
  split at h
  · rename_i A'
    cases h
    exact zk_S_R (hk A' rfl)
  · cases h
def zi_actF (ps : List Nat) (qs : List (Int × Nat)) : Nat → zz_A
  | 0 => za_const (.int (Int32.ofNat (zi_p ps 1))) (zi_p ps 0)
  | 1 => za_const (.long (Int64.ofNat (zi_p ps 1))) (zi_p ps 0)
  | 2 => za_const (.ref (zi_p ps 1)) (zi_p ps 0)
  | 3 => za_const .null (zi_p ps 0)
  | 4 => za_iload (zi_p ps 1) (zi_p ps 0)
  | 5 => za_lload (zi_p ps 1) (zi_p ps 0)
  | 6 => za_aload (zi_p ps 1) (zi_p ps 0)
  | 7 => za_istore (zi_p ps 1) (zi_p ps 0)
  | 8 => za_lstore (zi_p ps 1) (zi_p ps 0)
  | 9 => za_astore (zi_p ps 1) (zi_p ps 0)
  | 10 => za_iinc (zi_p ps 1) (Int32.ofNat (zi_p ps 2)) (zi_p ps 0)
  | 11 => za_iadd (zi_p ps 0)
  | 12 => za_isub (zi_p ps 0)
  | 13 => za_imul (zi_p ps 0)
  | 14 => za_iand (zi_p ps 0)
  | 15 => za_ior (zi_p ps 0)
  | 16 => za_ixor (zi_p ps 0)
  | 17 => za_ishl (zi_p ps 0)
  | 18 => za_ishr (zi_p ps 0)
  | 19 => za_iushr (zi_p ps 0)
  | 20 => za_irem (zi_p ps 0)
  | 21 => za_ineg (zi_p ps 0)
  | 22 => za_i2b (zi_p ps 0)
  | 23 => za_i2s (zi_p ps 0)
  | 24 => za_i2l (zi_p ps 0)
  | 25 => za_l2i (zi_p ps 0)
  | 26 => za_lcmp (zi_p ps 0)
  | 27 => za_ladd (zi_p ps 0)
  | 28 => za_lsub (zi_p ps 0)
  | 29 => za_lmul (zi_p ps 0)
  | 30 => za_land (zi_p ps 0)
  | 31 => za_lor (zi_p ps 0)
  | 32 => za_lxor (zi_p ps 0)
  | 33 => za_lshl (zi_p ps 0)
  | 34 => za_lshr (zi_p ps 0)
  | 35 => za_lushr (zi_p ps 0)
  | 36 => za_dup (zi_p ps 0)
  | 37 => za_pop (zi_p ps 0)
  | 38 => za_dup_x1 (zi_p ps 0)
  | 39 => za_dup2_11 (zi_p ps 0)
  | 40 => za_if_eq (zi_p ps 1) (zi_p ps 0)
  | 41 => za_if_ne (zi_p ps 1) (zi_p ps 0)
  | 42 => za_if_lt (zi_p ps 1) (zi_p ps 0)
  | 43 => za_if_ge (zi_p ps 1) (zi_p ps 0)
  | 44 => za_if_gt (zi_p ps 1) (zi_p ps 0)
  | 45 => za_if_le (zi_p ps 1) (zi_p ps 0)
  | 46 => za_icmp_eq (zi_p ps 1) (zi_p ps 0)
  | 47 => za_icmp_ne (zi_p ps 1) (zi_p ps 0)
  | 48 => za_icmp_lt (zi_p ps 1) (zi_p ps 0)
  | 49 => za_icmp_ge (zi_p ps 1) (zi_p ps 0)
  | 50 => za_icmp_gt (zi_p ps 1) (zi_p ps 0)
  | 51 => za_icmp_le (zi_p ps 1) (zi_p ps 0)
  | 52 => za_ifnull (zi_p ps 1) (zi_p ps 0)
  | 53 => za_ifnonnull (zi_p ps 1) (zi_p ps 0)
  | 54 => za_goto (zi_p ps 0)
  | 55 => za_tsw (qs.getD 0 (0, 0)).1 (qs.getD 1 (0, 0)).1 (zi_p ps 0) (ps.drop 1)
  | 56 => za_lsw (zz_lo (zi_p ps 0) qs)
  | 57 => za_getI (zi_p ps 1) (zi_p ps 2) (zi_p ps 0)
  | 58 => za_getA (zi_p ps 1) (zi_p ps 2) (zi_p ps 0)
  | 59 => za_alen (zi_p ps 1) (zi_p ps 0)
  | 60 => za_idiv (zi_p ps 0)
  | 61 => za_getL (zi_p ps 1) (zi_p ps 2) (zi_p ps 0)
  | 62 => za_aldL (zi_p ps 1) (zi_p ps 0)
  | 63 => za_aldA (zi_p ps 1) (zi_p ps 0)
  | 64 => za_aldI (zi_p ps 1) (zi_p ps 0)
  | 65 => za_putI (zi_p ps 1) (zi_p ps 2) (zi_p ps 0)
  | 66 => za_putZ (zi_p ps 1) (zi_p ps 2) (zi_p ps 0)
  | 67 => za_putA (zi_p ps 1) (zi_p ps 2) (zi_p ps 0)
  | 68 => za_astI (zi_p ps 1) (zi_p ps 0)
  | 69 => za_astZ (zi_p ps 1) (zi_p ps 0)
  | 70 => za_astB (zi_p ps 1) (zi_p ps 0)
  | 71 => za_callV (zi_p ps 1) (zi_p ps 2) (zi_p ps 3) (zi_p ps 0)
  | 72 => za_callS (zi_p ps 1) (zi_p ps 2) (zi_p ps 0)
  | 73 => za_astL (zi_p ps 1) (zi_p ps 0)
  | 74 => za_ldiv (zi_p ps 0)
  | 75 => za_lrem (zi_p ps 0)
  | 76 => za_lneg (zi_p ps 0)
  | 77 => za_kl (zz_ki zS2) (zi_p ps 0)
  | 78 => za_i2c (zi_p ps 0)
  | 79 => za_callK (zz_kg zS) (zi_p ps 1) (zi_p ps 2) (zi_p ps 0)
  | 80 => za_kf (zz_kv zS) (zi_p ps 0)
  | 81 => za_kf (zz_kc zS) (zi_p ps 0)
  | 82 => za_kn (zz_kn zS zS2) (zi_p ps 0)
  | 83 => za_kl (zz_kb zS) (zi_p ps 0)
  | 84 => za_putL (zi_p ps 1) (zi_p ps 2) (zi_p ps 0)
  | 85 => za_copyB (zi_p ps 1) (zi_p ps 0)
  | 86 => za_copyI (zi_p ps 1) (zi_p ps 0)
  | _ => fun _ _ => none
def zi_act (i : zi) : zz_A := zi_actF i.2.1 i.2.2 i.1
def zi_trF (HT : List (List zk_H)) (hs : List (List Nat)) (A : zk_A) (ps : List Nat) (qs : List (Int × Nat)) : Nat → Option (List (Nat × zk_A))
  | 0 => zi_1 (zi_p ps 0) (some (zk_push A (0, 0, zl_con (Int32.ofNat (zi_p ps 1)).toInt)))
  | 1 => zi_1 (zi_p ps 0) (some (zk_push A (1, 1, zl_con (Int64.ofNat (zi_p ps 1)).toInt)))
  | 2 => zi_1 (zi_p ps 0) (some (zk_push A (2, (zi_p ps 1), zl_con 0)))
  | 3 => zi_1 (zi_p ps 0) (some (zk_push A (3, 0, zl_con 0)))
  | 4 => zi_1 (zi_p ps 0) (zt_iload (zi_p ps 1) A)
  | 5 => zi_1 (zi_p ps 0) (zt_lload (zi_p ps 1) A)
  | 6 => zi_1 (zi_p ps 0) (zt_aload (zi_p ps 1) A)
  | 7 => zi_1 (zi_p ps 0) (zt_istore (zi_p ps 1) A)
  | 8 => zi_1 (zi_p ps 0) (zt_lstore (zi_p ps 1) A)
  | 9 => zi_1 (zi_p ps 0) (zt_astore (zi_p ps 1) A)
  | 10 => zi_1 (zi_p ps 0) (zt_iinc (zi_p ps 1) (Int32.ofNat (zi_p ps 2)).toInt A)
  | 11 => zi_1 (zi_p ps 0) (zt_2l zl_add A)
  | 12 => zi_1 (zi_p ps 0) (zt_2l zl_sub A)
  | 13 => zi_1 (zi_p ps 0) (zt_imul A)
  | 14 => zi_1 (zi_p ps 0) (zt_iand5 hs A)
  | 15 => zi_1 (zi_p ps 0) (zt_ior4 hs A)
  | 16 => zi_1 (zi_p ps 0) (zt_2b zk_top A)
  | 17 => zi_1 (zi_p ps 0) (zt_ishl2 hs A)
  | 18 => zi_1 (zi_p ps 0) (zt_ishr3 hs A)
  | 19 => zi_1 (zi_p ps 0) (zt_iushr3 hs A)
  | 20 => zi_1 (zi_p ps 0) (zt_irem4 hs A)
  | 21 => zi_1 (zi_p ps 0) (zt_1b zk_top1 A)
  | 22 => zi_1 (zi_p ps 0) (zt_i2b2 hs A)
  | 23 => zi_1 (zi_p ps 0) (zt_1b (fun _ _ => ((-32768), 32767)) A)
  | 24 => zi_1 (zi_p ps 0) (zt_i2l A)
  | 25 => zi_1 (zi_p ps 0) (zt_l2i A)
  | 26 => zt_lcmp3 (zi_p ps 0) hs A
  | 27 => zi_1 (zi_p ps 0) (zt_LLl (fun _ _ => true) zl_add A)
  | 28 => zi_1 (zi_p ps 0) (zt_LLl (fun _ _ => true) zl_sub A)
  | 29 => zi_1 (zi_p ps 0) (zt_LLl zl_pmk zl_pm A)
  | 30 => zi_1 (zi_p ps 0) (zt_land4 hs A)
  | 31 => zi_1 (zi_p ps 0) (zt_lor3 hs A)
  | 32 => zi_1 (zi_p ps 0) (zt_LL A)
  | 33 => zi_1 (zi_p ps 0) (zt_lshl3 hs A)
  | 34 => zi_1 (zi_p ps 0) (zt_lshr3 hs A)
  | 35 => zi_1 (zi_p ps 0) (zt_LI A)
  | 36 => zi_1 (zi_p ps 0) (zt_dup A)
  | 37 => zi_1 (zi_p ps 0) (zt_pop A)
  | 38 => zi_1 (zi_p ps 0) (zt_dup_x1 A)
  | 39 => zi_1 (zi_p ps 0) (zt_dup2 A)
  | 40 => zt_if (hs.getD 0 []) 0 (zi_p ps 1) (zi_p ps 0) A
  | 41 => zt_if (hs.getD 0 []) 1 (zi_p ps 1) (zi_p ps 0) A
  | 42 => zt_if (hs.getD 0 []) 2 (zi_p ps 1) (zi_p ps 0) A
  | 43 => zt_if (hs.getD 0 []) 3 (zi_p ps 1) (zi_p ps 0) A
  | 44 => zt_if (hs.getD 0 []) 4 (zi_p ps 1) (zi_p ps 0) A
  | 45 => zt_if (hs.getD 0 []) 5 (zi_p ps 1) (zi_p ps 0) A
  | 46 => zt_icmp (hs.getD 0 []) 0 (zi_p ps 1) (zi_p ps 0) A
  | 47 => zt_icmp (hs.getD 0 []) 1 (zi_p ps 1) (zi_p ps 0) A
  | 48 => zt_icmp (hs.getD 0 []) 2 (zi_p ps 1) (zi_p ps 0) A
  | 49 => zt_icmp (hs.getD 0 []) 3 (zi_p ps 1) (zi_p ps 0) A
  | 50 => zt_icmp (hs.getD 0 []) 4 (zi_p ps 1) (zi_p ps 0) A
  | 51 => zt_icmp (hs.getD 0 []) 5 (zi_p ps 1) (zi_p ps 0) A
  | 52 => zt_ifnull (zi_p ps 1) (zi_p ps 0) A
  | 53 => zt_ifnull (zi_p ps 0) (zi_p ps 1) A
  | 54 => zi_1 (zi_p ps 0) (some A)
  | 55 => zt_tsw (hs.getD 0 []) (qs.getD 0 (0, 0)).1 (qs.getD 1 (0, 0)).1 (zi_p ps 0) (ps.drop 1) A
  | 56 => zt_lsw (hs.getD 0 []) (zi_p ps 0) qs A
  | 57 => zi_1 (zi_p ps 0) (zt_getI HT (zi_p ps 1) (zi_p ps 2) A)
  | 58 => zi_1 (zi_p ps 0) (zt_getA HT (zi_p ps 1) (zi_p ps 2) A)
  | 59 => zi_1 (zi_p ps 0) (zt_alen HT (zi_p ps 1) A)
  | 60 => zi_1 (zi_p ps 0) (zt_idiv3 hs A)
  | 61 => zi_1 (zi_p ps 0) (zt_getL HT (zi_p ps 1) (zi_p ps 2) A)
  | 62 => zi_1 (zi_p ps 0) (zt_aldL HT (hs.getD 0 []) (hs.getD 1 []) (zi_p ps 1) A)
  | 63 => zt_aldA HT (hs.getD 2 []) (hs.getD 0 []) (hs.getD 1 []) (zi_p ps 1) (zi_p ps 0) A
  | _ => none
theorem zi_trF_ok {c : Nat} {HT : List (List zk_H)} {I : zz_W → Prop} (hI : ∀ w, I w → zk_I c HT w) {hs : List (List Nat)} {A : zk_A} {ps : List Nat} {qs : List (Int × Nat)} {R : List (Nat × zk_A)} : ∀ {op : Nat}, zi_trF HT hs A ps qs op = some R → zk_R I (zi_actF ps qs op) A R
  | 0, h => by
    have h : zi_1 (zi_p ps 0) (some (zk_push A (0, 0, zl_con (Int32.ofNat (zi_p ps 1)).toInt))) = some R := h
    exact zi_1_ok h (fun A' h => by cases h; exact zt_cI_ok)
  | 1, h => by
    have h : zi_1 (zi_p ps 0) (some (zk_push A (1, 1, zl_con (Int64.ofNat (zi_p ps 1)).toInt))) = some R := h
    exact zi_1_ok h (fun A' h => by cases h; exact zt_cL_ok)
  | 2, h => by
    have h : zi_1 (zi_p ps 0) (some (zk_push A (2, (zi_p ps 1), zl_con 0))) = some R := h
    exact zi_1_ok h (fun A' h => by cases h; exact zt_cR_ok)
  | 3, h => by
    have h : zi_1 (zi_p ps 0) (some (zk_push A (3, 0, zl_con 0))) = some R := h
    exact zi_1_ok h (fun A' h => by cases h; exact zt_cN_ok)
  | 4, h => by
    have h : zi_1 (zi_p ps 0) (zt_iload (zi_p ps 1) A) = some R := h
    exact zi_1_ok h (fun A' h => zt_iload_ok h)
  | 5, h => by
    have h : zi_1 (zi_p ps 0) (zt_lload (zi_p ps 1) A) = some R := h
    exact zi_1_ok h (fun A' h => zt_lload_ok h)
  | 6, h => by
    have h : zi_1 (zi_p ps 0) (zt_aload (zi_p ps 1) A) = some R := h
    exact zi_1_ok h (fun A' h => zt_aload_ok h)
  | 7, h => by
    have h : zi_1 (zi_p ps 0) (zt_istore (zi_p ps 1) A) = some R := h
    exact zi_1_ok h (fun A' h => zt_istore_ok h)
  | 8, h => by
    have h : zi_1 (zi_p ps 0) (zt_lstore (zi_p ps 1) A) = some R := h
    exact zi_1_ok h (fun A' h => zt_lstore_ok h)
  | 9, h => by
    have h : zi_1 (zi_p ps 0) (zt_astore (zi_p ps 1) A) = some R := h
    exact zi_1_ok h (fun A' h => zt_astore_ok h)
  | 10, h => by
    have h : zi_1 (zi_p ps 0) (zt_iinc (zi_p ps 1) (Int32.ofNat (zi_p ps 2)).toInt A) = some R := h
    exact zi_1_ok h (fun A' h => zt_iinc_ok h)
  | 11, h => by
    have h : zi_1 (zi_p ps 0) (zt_2l zl_add A) = some R := h
    exact zi_1_ok h (fun A' h => zt_iadd_ok h)
  | 12, h => by
    have h : zi_1 (zi_p ps 0) (zt_2l zl_sub A) = some R := h
    exact zi_1_ok h (fun A' h => zt_isub_ok h)
  | 13, h => by
    have h : zi_1 (zi_p ps 0) (zt_imul A) = some R := h
    exact zi_1_ok h (fun A' h => zt_imulC_ok h)
  | 14, h => by
    have h : zi_1 (zi_p ps 0) (zt_iand5 hs A) = some R := h
    exact zi_1_ok h (fun A' h => zt_iand5_ok h)
  | 15, h => by
    have h : zi_1 (zi_p ps 0) (zt_ior4 hs A) = some R := h
    exact zi_1_ok h (fun A' h => zt_ior4_ok h)
  | 16, h => by
    have h : zi_1 (zi_p ps 0) (zt_2b zk_top A) = some R := h
    exact zi_1_ok h (fun A' h => zt_ixor_ok h)
  | 17, h => by
    have h : zi_1 (zi_p ps 0) (zt_ishl2 hs A) = some R := h
    exact zi_1_ok h (fun A' h => zt_ishl2_ok h)
  | 18, h => by
    have h : zi_1 (zi_p ps 0) (zt_ishr3 hs A) = some R := h
    exact zi_1_ok h (fun A' h => zt_ishr3_ok h)
  | 19, h => by
    have h : zi_1 (zi_p ps 0) (zt_iushr3 hs A) = some R := h
    exact zi_1_ok h (fun A' h => zt_iushr3_ok h)
  | 20, h => by
    have h : zi_1 (zi_p ps 0) (zt_irem4 hs A) = some R := h
    exact zi_1_ok h (fun A' h => zt_irem4_ok h)
  | 21, h => by
    have h : zi_1 (zi_p ps 0) (zt_1b zk_top1 A) = some R := h
    exact zi_1_ok h (fun A' h => zt_ineg_ok h)
  | 22, h => by
    have h : zi_1 (zi_p ps 0) (zt_i2b2 hs A) = some R := h
    exact zi_1_ok h (fun A' h => zt_i2b2_ok h)
  | 23, h => by
    have h : zi_1 (zi_p ps 0) (zt_1b (fun _ _ => ((-32768), 32767)) A) = some R := h
    exact zi_1_ok h (fun A' h => zt_i2s_ok h)
  | 24, h => by
    have h : zi_1 (zi_p ps 0) (zt_i2l A) = some R := h
    exact zi_1_ok h (fun A' h => zt_i2l_ok h)
  | 25, h => by
    have h : zi_1 (zi_p ps 0) (zt_l2i A) = some R := h
    exact zi_1_ok h (fun A' h => zt_l2iV_ok h)
  | 26, h => by
    have h : zt_lcmp3 (zi_p ps 0) hs A = some R := h
    exact zt_lcmp3_ok h
  | 27, h => by
    have h : zi_1 (zi_p ps 0) (zt_LLl (fun _ _ => true) zl_add A) = some R := h
    exact zi_1_ok h (fun A' h => zt_ladd_ok h)
  | 28, h => by
    have h : zi_1 (zi_p ps 0) (zt_LLl (fun _ _ => true) zl_sub A) = some R := h
    exact zi_1_ok h (fun A' h => zt_lsub_ok h)
  | 29, h => by
    have h : zi_1 (zi_p ps 0) (zt_LLl zl_pmk zl_pm A) = some R := h
    exact zi_1_ok h (fun A' h => zt_lmul_ok h)
  | 30, h => by
    have h : zi_1 (zi_p ps 0) (zt_land4 hs A) = some R := h
    exact zi_1_ok h (fun A' h => zt_land4_ok h)
  | 31, h => by
    have h : zi_1 (zi_p ps 0) (zt_lor3 hs A) = some R := h
    exact zi_1_ok h (fun A' h => zt_lor3_ok h)
  | 32, h => by
    have h : zi_1 (zi_p ps 0) (zt_LL A) = some R := h
    exact zi_1_ok h (fun A' h => zt_lxor_ok h)
  | 33, h => by
    have h : zi_1 (zi_p ps 0) (zt_lshl3 hs A) = some R := h
    exact zi_1_ok h (fun A' h => zt_lshl3_ok h)
  | 34, h => by
    have h : zi_1 (zi_p ps 0) (zt_lshr3 hs A) = some R := h
    exact zi_1_ok h (fun A' h => zt_lshr3_ok h)
  | 35, h => by
    have h : zi_1 (zi_p ps 0) (zt_LI A) = some R := h
    exact zi_1_ok h (fun A' h => zt_lushr_ok h)
  | 36, h => by
    have h : zi_1 (zi_p ps 0) (zt_dup A) = some R := h
    exact zi_1_ok h (fun A' h => zt_dup_ok h)
  | 37, h => by
    have h : zi_1 (zi_p ps 0) (zt_pop A) = some R := h
    exact zi_1_ok h (fun A' h => zt_pop_ok h)
  | 38, h => by
    have h : zi_1 (zi_p ps 0) (zt_dup_x1 A) = some R := h
    exact zi_1_ok h (fun A' h => zt_dup_x1_ok h)
  | 39, h => by
    have h : zi_1 (zi_p ps 0) (zt_dup2 A) = some R := h
    exact zi_1_ok h (fun A' h => zt_dup2_ok h)
  | 40, h => by
    have h : zt_if (hs.getD 0 []) 0 (zi_p ps 1) (zi_p ps 0) A = some R := h
    exact zt_if_eq_ok h
  | 41, h => by
    have h : zt_if (hs.getD 0 []) 1 (zi_p ps 1) (zi_p ps 0) A = some R := h
    exact zt_if_ne_ok h
  | 42, h => by
    have h : zt_if (hs.getD 0 []) 2 (zi_p ps 1) (zi_p ps 0) A = some R := h
    exact zt_if_lt_ok h
  | 43, h => by
    have h : zt_if (hs.getD 0 []) 3 (zi_p ps 1) (zi_p ps 0) A = some R := h
    exact zt_if_ge_ok h
  | 44, h => by
    have h : zt_if (hs.getD 0 []) 4 (zi_p ps 1) (zi_p ps 0) A = some R := h
    exact zt_if_gt_ok h
  | 45, h => by
    have h : zt_if (hs.getD 0 []) 5 (zi_p ps 1) (zi_p ps 0) A = some R := h
    exact zt_if_le_ok h
  | 46, h => by
    have h : zt_icmp (hs.getD 0 []) 0 (zi_p ps 1) (zi_p ps 0) A = some R := h
    exact zt_icmp_eq_ok h
  | 47, h => by
    have h : zt_icmp (hs.getD 0 []) 1 (zi_p ps 1) (zi_p ps 0) A = some R := h
    exact zt_icmp_ne_ok h
  | 48, h => by
    have h : zt_icmp (hs.getD 0 []) 2 (zi_p ps 1) (zi_p ps 0) A = some R := h
    exact zt_icmp_lt_ok h
  | 49, h => by
    have h : zt_icmp (hs.getD 0 []) 3 (zi_p ps 1) (zi_p ps 0) A = some R := h
    exact zt_icmp_ge_ok h
  | 50, h => by
    have h : zt_icmp (hs.getD 0 []) 4 (zi_p ps 1) (zi_p ps 0) A = some R := h
    exact zt_icmp_gt_ok h
  | 51, h => by
    have h : zt_icmp (hs.getD 0 []) 5 (zi_p ps 1) (zi_p ps 0) A = some R := h
    exact zt_icmp_le_ok h
  | 52, h => by
    have h : zt_ifnull (zi_p ps 1) (zi_p ps 0) A = some R := h
    exact zt_ifnull_ok h
  | 53, h => by
    have h : zt_ifnull (zi_p ps 0) (zi_p ps 1) A = some R := h
    exact zt_ifnonnull_ok h
  | 54, h => by
    have h : zi_1 (zi_p ps 0) (some A) = some R := h
    exact zi_1_ok h (fun A' h => by cases h; exact zt_goto_ok)
  | 55, h => by
    have h : zt_tsw (hs.getD 0 []) (qs.getD 0 (0, 0)).1 (qs.getD 1 (0, 0)).1 (zi_p ps 0) (ps.drop 1) A = some R := h
    exact zt_tsw_ok h
  | 56, h => by
    have h : zt_lsw (hs.getD 0 []) (zi_p ps 0) qs A = some R := h
    exact zt_lsw_ok h
  | 57, h => by
    have h : zi_1 (zi_p ps 0) (zt_getI HT (zi_p ps 1) (zi_p ps 2) A) = some R := h
    exact zi_1_ok h (fun A' h => zt_getI_ok hI h)
  | 58, h => by
    have h : zi_1 (zi_p ps 0) (zt_getA HT (zi_p ps 1) (zi_p ps 2) A) = some R := h
    exact zi_1_ok h (fun A' h => zt_getA_ok hI h)
  | 59, h => by
    have h : zi_1 (zi_p ps 0) (zt_alen HT (zi_p ps 1) A) = some R := h
    exact zi_1_ok h (fun A' h => zt_alen_ok hI h)
  | 60, h => by
    have h : zi_1 (zi_p ps 0) (zt_idiv3 hs A) = some R := h
    exact zi_1_ok h (fun A' h => zt_idiv3_ok h)
  | 61, h => by
    have h : zi_1 (zi_p ps 0) (zt_getL HT (zi_p ps 1) (zi_p ps 2) A) = some R := h
    exact zi_1_ok h (fun A' h => zt_getL_ok hI h)
  | 62, h => by
    have h : zi_1 (zi_p ps 0) (zt_aldL HT (hs.getD 0 []) (hs.getD 1 []) (zi_p ps 1) A) = some R := h
    exact zi_1_ok h (fun A' h => zt_aldL_ok hI h)
  | 63, h => by
    have h : zt_aldA HT (hs.getD 2 []) (hs.getD 0 []) (hs.getD 1 []) (zi_p ps 1) (zi_p ps 0) A = some R := h
    exact zt_aldA_ok hI h
  | n + 64, h => by
    unfold zi_trF at h
    cases h
def zi_spF (HT : List (List zk_H)) (M : zk_M) (SU : Nat → List (Nat × Nat)) (TS : zk_TY) (hs : List (List Nat)) (cv : List zk_Cv) (X : zk_St) (ps : List Nat) : Nat → Option (List (Nat × zk_St))
  | 64 => zt_ald2 HT (hs.getD 0 []) (hs.getD 1 []) (zi_p ps 1) (zi_p ps 0) X
  | 65 => zk_w1 HT SU TS X (zi_p ps 2) (zi_p ps 0) cv (zt_putI HT M (hs.getD 0 []) (hs.getD 1 []) (zi_p ps 1) (zi_p ps 2) X.1)
  | 66 => zk_w1 HT SU TS X (zi_p ps 2) (zi_p ps 0) cv (zt_putZ HT M (hs.getD 0 []) (hs.getD 1 []) (zi_p ps 1) (zi_p ps 2) X.1)
  | 67 => zk_w1 HT SU TS X (zi_p ps 2) (zi_p ps 0) cv (zt_putA HT M (zi_p ps 1) (zi_p ps 2) X.1)
  | 68 => zk_w2 HT SU TS true X (zi_p ps 0) cv (hs.drop 4) (zt_astI HT M (hs.getD 0 []) (hs.getD 1 []) (hs.getD 2 []) (hs.getD 3 []) (zi_p ps 1) X.1)
  | 69 => zk_w2 HT SU TS true X (zi_p ps 0) cv (hs.drop 4) (zt_astZ HT M (hs.getD 0 []) (hs.getD 1 []) (hs.getD 2 []) (hs.getD 3 []) (zi_p ps 1) X.1)
  | 70 => cond (Nat.beq ((hs.getD 0 []).getD 0 0) 999999) (zk_w2 HT SU TS true X (zi_p ps 0) cv (hs.drop 7) (zt_astB2 HT M (hs.getD 1 []) (hs.getD 2 []) (hs.getD 3 []) (hs.getD 4 []) (hs.getD 5 []) (hs.getD 6 []) (zi_p ps 1) X.1)) (zk_w2 HT SU TS false X (zi_p ps 0) cv (hs.drop 2) (zt_astB HT M (hs.getD 0 []) (hs.getD 1 []) (zi_p ps 1) X.1))
  | 62 => cond (Nat.beq ((hs.getD 2 []).getD 0 0) 1) (zt_ald3 HT (hs.getD 0 []) (hs.getD 1 []) (zi_p ps 1) (zi_p ps 0) X) (zk_pu HT X (zi_1 (zi_p ps 0) (zt_aldL HT (hs.getD 0 []) (hs.getD 1 []) (zi_p ps 1) X.1)))
  | 73 => zk_w4 HT SU X (zi_p ps 0) (hs.drop 2) (zt_astL HT M (hs.getD 0 []) (hs.getD 1 []) (zi_p ps 1) X.1)
  | 74 => zk_pu HT X (zi_1 (zi_p ps 0) (zt_ldiv hs X.1))
  | 75 => zk_pu HT X (zi_1 (zi_p ps 0) (zt_lrem2 hs X.1))
  | 76 => zk_pu HT X (zi_1 (zi_p ps 0) (zt_lneg X.1))
  | 77 => zk_pu HT X (zi_1 (zi_p ps 0) (zt_kl zS2 hs X.1))
  | 78 => zk_pu HT X (zi_1 (zi_p ps 0) (zt_i2c2 hs X.1))
  | 80 => zk_pu HT X (zi_1 (zi_p ps 0) (zt_kv zS X.1))
  | 81 => zk_pu HT X (zi_1 (zi_p ps 0) (zt_kc zS X.1))
  | 82 => zk_pu HT X (zi_1 (zi_p ps 0) (zt_kn zS zS2 X.1))
  | 83 => zk_pu HT X (zi_1 (zi_p ps 0) (zt_kb zS hs X.1))
  | 84 => zk_w1 HT SU TS X (zi_p ps 2) (zi_p ps 0) cv (zt_putL HT M (zi_p ps 1) (zi_p ps 2) X.1)
  | 85 => zk_w5 HT SU X (zi_p ps 0) (cond (zk_bt HT) (zt_cpyB HT M hs (zi_p ps 1) X.1) none)
  | 86 => zk_w5 HT SU X (zi_p ps 0) (zt_cpy HT M hs (zi_p ps 1) X.1)
  | _ => none
theorem zi_spF_ok {c : Nat} {HT : List (List zk_H)} {M : zk_M} {w0 : zk_W0} {PT : Nat → zz_W → Prop} {SU : Nat → List (Nat × Nat)} {TS : zk_TY} (hTT : zk_TT c HT PT SU TS) {hs : List (List Nat)} {cv : List zk_Cv} {X : zk_St} {ps : List Nat} {qs : List (Int × Nat)} {R : List (Nat × zk_St)} {op : Nat} (h : zi_spF HT M SU TS hs cv X ps op = some R) : zk_R2 PT c HT M w0 (zi_actF ps qs op) X R := by
  unfold zi_spF at h
  split at h
  · show zk_R2 PT c HT M w0 (za_aldI (zi_p ps 1) (zi_p ps 0)) X R
    exact zt_ald2_ok h
  · show zk_R2 PT c HT M w0 (za_putI (zi_p ps 1) (zi_p ps 2) (zi_p ps 0)) X R
    exact zk_w1_ok hTT h (fun A h => zt_putI_ok h)
  · show zk_R2 PT c HT M w0 (za_putZ (zi_p ps 1) (zi_p ps 2) (zi_p ps 0)) X R
    exact zk_w1_ok hTT h (fun A h => zt_putZ_ok h)
  · show zk_R2 PT c HT M w0 (za_putA (zi_p ps 1) (zi_p ps 2) (zi_p ps 0)) X R
    exact zk_w1_ok hTT h (fun A h => zt_putA_ok h)
  · show zk_R2 PT c HT M w0 (za_astI (zi_p ps 1) (zi_p ps 0)) X R
    exact zk_w2_ok hTT h (fun A h => zt_astI_ok h)
  · show zk_R2 PT c HT M w0 (za_astZ (zi_p ps 1) (zi_p ps 0)) X R
    exact zk_w2_ok hTT h (fun A h => zt_astZ_ok h)
  · show zk_R2 PT c HT M w0 (za_astB (zi_p ps 1) (zi_p ps 0)) X R
    cases hb : Nat.beq ((hs.getD 0 []).getD 0 0) 999999 with
    | true =>
      rw [hb] at h
      exact zk_w2_ok hTT (show zk_w2 HT SU TS true X (zi_p ps 0) cv (hs.drop 7) (zt_astB2 HT M (hs.getD 1 []) (hs.getD 2 []) (hs.getD 3 []) (hs.getD 4 []) (hs.getD 5 []) (hs.getD 6 []) (zi_p ps 1) X.1) = some R from h) (fun A h => zt_astB2_ok h)
    | false =>
      rw [hb] at h
      exact zk_w2_ok hTT (show zk_w2 HT SU TS false X (zi_p ps 0) cv (hs.drop 2) (zt_astB HT M (hs.getD 0 []) (hs.getD 1 []) (zi_p ps 1) X.1) = some R from h) (fun A h => zt_astB_ok h)
  · show zk_R2 PT c HT M w0 (za_aldL (zi_p ps 1) (zi_p ps 0)) X R
    cases hb : Nat.beq ((hs.getD 2 []).getD 0 0) 1 with
    | true =>
      rw [hb] at h
      exact zt_ald3_ok (show zt_ald3 HT (hs.getD 0 []) (hs.getD 1 []) (zi_p ps 1) (zi_p ps 0) X = some R from h)
    | false =>
      rw [hb] at h
      exact zk_pu_ok (show zk_pu HT X (zi_1 (zi_p ps 0) (zt_aldL HT (hs.getD 0 []) (hs.getD 1 []) (zi_p ps 1) X.1)) = some R from h) (fun I hI R' hR => zi_1_ok hR (fun A' h => zt_aldL_ok hI h))
  · show zk_R2 PT c HT M w0 (za_astL (zi_p ps 1) (zi_p ps 0)) X R
    exact zk_w4_ok hTT h (fun A h => zt_astL_ok h)
  · show zk_R2 PT c HT M w0 (za_ldiv (zi_p ps 0)) X R
    exact zk_pu_ok h (fun I hI R' hR => zi_1_ok hR (fun A' h => zt_ldiv_ok h))
  · show zk_R2 PT c HT M w0 (za_lrem (zi_p ps 0)) X R
    exact zk_pu_ok h (fun I hI R' hR => zi_1_ok hR (fun A' h => zt_lrem2_ok h))
  · show zk_R2 PT c HT M w0 (za_lneg (zi_p ps 0)) X R
    exact zk_pu_ok h (fun I hI R' hR => zi_1_ok hR (fun A' h => zt_lneg_ok h))
  · show zk_R2 PT c HT M w0 (za_kl (zz_ki zS2) (zi_p ps 0)) X R
    exact zk_pu_ok h (fun I hI R' hR => zi_1_ok hR (fun A' h => zt_kl_ok h))
  · show zk_R2 PT c HT M w0 (za_i2c (zi_p ps 0)) X R
    exact zk_pu_ok h (fun I hI R' hR => zi_1_ok hR (fun A' h => zt_i2c2_ok h))
  · show zk_R2 PT c HT M w0 (za_kf (zz_kv zS) (zi_p ps 0)) X R
    exact zk_pu_ok h (fun I hI R' hR => zi_1_ok hR (fun A' h => zt_kv_ok h))
  · show zk_R2 PT c HT M w0 (za_kf (zz_kc zS) (zi_p ps 0)) X R
    exact zk_pu_ok h (fun I hI R' hR => zi_1_ok hR (fun A' h => zt_kc_ok h))
  · show zk_R2 PT c HT M w0 (za_kn (zz_kn zS zS2) (zi_p ps 0)) X R
    exact zk_pu_ok h (fun I hI R' hR => zi_1_ok hR (fun A' h => zt_kn_ok h))
  · show zk_R2 PT c HT M w0 (za_kl (zz_kb zS) (zi_p ps 0)) X R
    exact zk_pu_ok h (fun I hI R' hR => zi_1_ok hR (fun A' h => zt_kb_ok h))
  · show zk_R2 PT c HT M w0 (za_putL (zi_p ps 1) (zi_p ps 2) (zi_p ps 0)) X R
    exact zk_w1_ok hTT h (fun A h => zt_putL_ok h)
  · show zk_R2 PT c HT M w0 (za_copyB (zi_p ps 1) (zi_p ps 0)) X R
    exact zk_w5_ok hTT h (fun A h => zt_copyB_ok h)
  · show zk_R2 PT c HT M w0 (za_copyI (zi_p ps 1) (zi_p ps 0)) X R
    exact zk_w5_ok hTT h (fun A h => zt_copyI_ok h)
  · cases h
/-- one instruction that is no call -/
theorem zn_F_ok {c : Nat} {HT : List (List zk_H)} {M : zk_M} {w0 : zk_W0} {PT : Nat → zz_W → Prop} {X : zk_St} {R : List (Nat × zk_St)} {ps : List Nat} {qs : List (Int × Nat)} {op : Nat} (h : zn_F HT X (zi_p ps 0) (zi_p ps 1) op = some R) : zk_R2 PT c HT M w0 (zi_actF ps qs op) X R := by
  unfold zn_F at h
  split at h
  · exact zn_L_ok (i := zi_p ps 1) h
  · rename_i e2 e1 T hT
    exact zn_X_ok h (by decide) (zn_LL (act := za_lmul (zi_p ps 0)) (g := fun x y => x * y) hT (fun K p lv x y r w => ze_lmul rfl) (zn_g2 (fun x y => rfl)))
  · rename_i e2 e1 T hT
    exact zn_X_ok h (by decide) (zn_LL (act := za_ladd (zi_p ps 0)) (g := fun x y => x + y) hT (fun K p lv x y r w => ze_ladd rfl) (zn_g2 (fun x y => rfl)))
  · rename_i e2 e1 T hT
    exact zn_X_ok h (by decide) (zn_LL (act := za_lxor (zi_p ps 0)) (g := fun x y => x ^^^ y) hT (fun K p lv x y r w => ze_lxor rfl) (zn_g2 (fun x y => rfl)))
  · rename_i e2 e1 T hT
    exact zn_X_ok h (by decide) (zn_LL (act := za_lor (zi_p ps 0)) (g := fun x y => x ||| y) hT (fun K p lv x y r w => ze_lor rfl) (zn_g2 (fun x y => rfl)))
  · rename_i e2 e1 T hT
    exact zn_X_ok h (by decide) (zn_LL (act := za_land (zi_p ps 0)) (g := fun x y => x &&& y) hT (fun K p lv x y r w => ze_land rfl) (zn_g2 (fun x y => rfl)))
  · rename_i k2 e2 e1 T hT
    exact zn_X_ok h (by decide) (zn_LI (act := za_lshl (zi_p ps 0)) (g := fun x y => x <<< (y.toInt64 &&& 63)) hT (fun K p lv x y r w => ze_lshl rfl) (zn_gi (fun x y => rfl)))
  · rename_i k2 e2 e1 T hT
    exact zn_X_ok h (by decide) (zn_LI (act := za_lshr (zi_p ps 0)) (g := fun x y => x >>> (y.toInt64 &&& 63)) hT (fun K p lv x y r w => ze_lshr rfl) (zn_gi (fun x y => rfl)))
  · rename_i e1 T hT
    exact zn_X_ok h (by decide) (zn_L2I (n := zi_p ps 0) hT)
  · rename_i k2 e2 k1 e1 T hT
    exact zn_X_ok h (by decide) (zn_IA (n := zi_p ps 0) hT)
  · cases h
def zi_st (HT : List (List zk_H)) (M : zk_M) (SU : Nat → List (Nat × Nat)) (TS : zk_TY) (hs : List (List Nat)) (cv : List zk_Cv) (i : zi) (X : zk_St) : Option (List (Nat × zk_St)) := cond (Nat.blt i.1 64 && !(Nat.beq i.1 62)) (cond (Nat.beq ((hs.getD 0 []).getD 0 0) 8181) (zn_F HT X (zi_p i.2.1 0) (zi_p i.2.1 1) i.1) (zk_pu HT X (zi_trF HT hs X.1 i.2.1 i.2.2 i.1))) (zi_spF HT M SU TS hs cv X i.2.1 i.1)
theorem zi_st_ok {c : Nat} {HT : List (List zk_H)} {M : zk_M} {w0 : zk_W0} {PT : Nat → zz_W → Prop} {SU : Nat → List (Nat × Nat)} {TS : zk_TY} (hTT : zk_TT c HT PT SU TS) {hs : List (List Nat)} {cv : List zk_Cv} {i : zi} {X : zk_St} {R : List (Nat × zk_St)} (h : zi_st HT M SU TS hs cv i X = some R) : zk_R2 PT c HT M w0 (zi_act i) X R := by
  unfold zi_st at h
  cases hb : (Nat.blt i.1 64 && !(Nat.beq i.1 62)) with
  | true =>
    rw [hb] at h
    have h : cond (Nat.beq ((hs.getD 0 []).getD 0 0) 8181) (zn_F HT X (zi_p i.2.1 0) (zi_p i.2.1 1) i.1) (zk_pu HT X (zi_trF HT hs X.1 i.2.1 i.2.2 i.1)) = some R := h
    cases hn : Nat.beq ((hs.getD 0 []).getD 0 0) 8181 with
    | true =>
      rw [hn] at h
      exact zn_F_ok h
    | false =>
      rw [hn] at h
      exact zk_pu_ok h (fun I hI R' hR => zi_trF_ok hI hR)
  | false =>
    rw [hb] at h
    exact zi_spF_ok hTT h
/-- a method's table as numbers: from 200 on returns; 999 nothing -/
def zi_e (i : zi) : Nat × zz_A := cond (Nat.blt i.1 87) (0, zi_act i) (cond (Nat.blt 200 i.1 && Nat.blt i.1 208) (i.1 - 200, fun _ _ => none) zz_en0)
def zi_T (code : List (List zi)) : zz_T := code.map (fun l => l.map zi_e)
def zi_n : zi := (999, [], [])
def zi_at (code : List (List zi)) (pc : Nat) : zi := (code.getD (pc / 16) []).getD (pc % 16) zi_n
theorem zi_ent (code : List (List zi)) (pc : Nat) : zz_ent (zi_T code) pc = zi_e (zi_at code pc) := by
  unfold zz_ent zi_T zi_at
  rw [List.getD_eq_getElem?_getD, List.getD_eq_getElem?_getD, List.getD_eq_getElem?_getD, List.getD_eq_getElem?_getD, List.getElem?_map]
  cases code[pc / 16]? with
  | none => rfl
  | some l =>
    show ((l.map zi_e)[pc % 16]?).getD zz_en0 = zi_e ((l[pc % 16]?).getD zi_n)
    rw [List.getElem?_map]
    cases l[pc % 16]? with
    | none => rfl
    | some i => rfl
end
