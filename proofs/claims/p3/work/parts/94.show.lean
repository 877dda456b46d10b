/-! showName: what was owed, by hand -/
theorem zCo2_103 {l : Launch} {D : va_G} {cy : Nat → ClassId} {z0 : Nat} {sp : Nat → Nat} {G : State → Prop} (hG : zz_GF z0 G) (hP : ∀ U, G U → zz_GD zS zS2 zLg z0 sp U) : zk_Con l zTs D zcl zFK cy z0 sp (zTys cy) G zYN zCN zMQ zRT 64 zHT zPT 103 zQ_103 :=
  zk_chk_ok zTT (CT := (zk_ctl [])) (code := zD_103) (cs := zUc_103) (fuel := 100000) (h0 := zH0_103) (H := zHs_103) zE_103 (fun d K hKS => zP_s hKS hG hP 103 (by decide) (Or.inl (by decide))) (zP_r 103 (by decide)) (zYN_pl 103) rfl (fun y' q' h => ((fun _ h => absurd h List.not_mem_nil) : ∀ p ∈ ([] : List (Nat × zk_Ct)), zk_Con l zTs D zcl zFK cy z0 sp (zTys cy) G zYN zCN zMQ zRT 64 zHT zPT (p.1 % 1000) p.2) (y', q') (zk_ctl_mem h)) (by decide +kernel)
theorem zSg_127 (i : Nat) : (127#64).getLsbD i = decide (i < 7) := by
  by_cases h : i < 7
  · rw [decide_eq_true h]
    revert i
    decide
  · rw [decide_eq_false h, BitVec.getLsbD_ofNat, Nat.testBit_lt_two_pow (Nat.lt_of_lt_of_le (by decide : 127 < 2 ^ 7) (Nat.pow_le_pow_right (by decide) (by omega))), Bool.and_false]
theorem zSg_bv {A s : Nat} (hs : s ≤ 56) : ((BitVec.ofNat 64 A).sshiftRight s &&& 127#64).toNat = (A >>> s) % 128 := by
  apply Nat.eq_of_testBit_eq
  intro i
  rw [show (128 : Nat) = 2 ^ 7 from rfl, Nat.testBit_mod_two_pow, Nat.testBit_shiftRight, BitVec.testBit_toNat, BitVec.getLsbD_and, zSg_127]
  by_cases hi : i < 7
  · rw [decide_eq_true hi, Bool.and_true, Bool.true_and, BitVec.getLsbD_sshiftRight, if_pos (by omega), BitVec.getLsbD_ofNat, decide_eq_true (show s + i < 64 by omega), Bool.true_and, decide_eq_false (show ¬ 64 ≤ i by omega), Bool.not_false, Bool.true_and]
  · rw [decide_eq_false hi, Bool.and_false, Bool.false_and]
theorem zSg_sh {A s : Nat} {y : Int64} (hs : s ≤ 56) (hb : y.toBitVec.smod 64 = BitVec.ofNat 64 s) : ((Int64.ofNat A >>> y) &&& Int64.ofNat 127).toInt32 = Int32.ofNat ((A >>> s) % 128) := by
  have h3 : (A >>> s) % 128 < 128 := Nat.mod_lt _ (by decide)
  apply zI_eq
  rw [zz_nI_ofNat (by omega)]
  unfold zz_nI
  rw [Int64.toBitVec_toInt32, BitVec.signExtend_eq_setWidth_of_le _ (by decide), BitVec.toNat_setWidth, Int64.toBitVec_and, Int64.toBitVec_shiftRight]
  show (((Int64.ofNat A).toBitVec.sshiftRight' (y.toBitVec.smod 64)) &&& 127#64).toNat % 2 ^ 32 = _
  rw [hb]
  show ((BitVec.ofNat 64 A).sshiftRight (BitVec.ofNat 64 s).toNat &&& 127#64).toNat % 2 ^ 32 = _
  rw [BitVec.toNat_ofNat, Nat.mod_eq_of_lt (show s < 2 ^ 64 by omega), zSg_bv hs, Nat.mod_eq_of_lt (by omega)]
theorem zSh_a : ∀ k, k < 16 → Int32.ofNat k - Int32.ofNat k / Int32.ofNat 8 * Int32.ofNat 8 = Int32.ofNat (k % 8) := by decide
theorem zSh_b : ∀ k, k < 16 → Int32.ofNat 8 * Int32.ofNat (k % 8) = Int32.ofNat (8 * (k % 8)) := by decide
theorem zSh_c : ∀ k, k < 8 → ((Int32.ofNat (8 * k)).toInt64 &&& 63).toBitVec.smod 64 = BitVec.ofNat 64 (8 * k) := by decide
theorem zSh_d : ∀ k, k < 16 → ¬ Int32.ofNat k < Int32.ofNat 0 := by decide
theorem zSh_e : ∀ k, k < 16 → ¬ Int32.ofNat 15 < Int32.ofNat k := by decide
theorem zSh_f : ∀ k, k < 8 → ¬ Int32.ofNat 8 ≤ Int32.ofNat k := by decide
theorem zSh_g : ∀ k, k < 16 → 8 ≤ k → Int32.ofNat 8 ≤ Int32.ofNat k := by decide
theorem zSh_h : ∀ x, x < 128 → x ≠ 0 → ¬ Int32.ofNat x ≤ 0 := by decide
theorem zSh_i : ∀ n, n < 125 → ¬ Int32.ofNat n < 0 := by decide
theorem zSh_j : ∀ x, x < 128 → x ≠ 0 → ¬ Int32.ofNat x = 0 := by decide
theorem zM78 {l : Launch} {D : va_G} {cy : Nat → ClassId} {z0 : Nat} {sp : Nat → Nat} {G : State → Prop} (hG : zz_GF z0 G) (hP : ∀ U, G U → zz_GD zS zS2 zLg z0 sp U) {d k : Nat} (hk : k < 16) {w : zz_W} : zz_M l zTs D zcl zFK cy z0 sp (zTys cy) G zYN zCN zMQ zRT (d + 1) 78 [.int (Int32.ofNat k), .int (Int32.ofNat 0), .int (Int32.ofNat 15)] w [.int (Int32.ofNat 1)] w := by
  have T := zt_78 (l := l) (D := D) (cy := cy) (z0 := z0) (sp := sp) (G := G) (d := d) zz_k0_KS hG hP
  have b := zz_B_rf (l := l) (Ts := zTs) (D := D) (cl := zcl) (fk := zFK) (cy := cy) (z0 := z0) (sp := sp) (tys := zTys cy) (G := G) (own := "ToolMillModel") (mn := "in") (nL := 3) (cc := prog_14_method_4_code) (d := d) ((0, [(0, .int (Int32.ofNat k)), (1, .int (Int32.ofNat 0)), (2, .int (Int32.ofNat 15))], [], w) : zz_F)
  replace b := zz_fw b T (rfl : zz_ent zP_78 0 = (0, za_iload 0 1)) (ze_iload rfl)
  replace b := zz_fw b T (rfl : zz_ent zP_78 1 = (0, za_iload 1 2)) (ze_iload rfl)
  replace b := zz_fw b T (rfl : zz_ent zP_78 2 = (0, za_icmp_lt 14 5)) (ze_icmp_lt_f (zSh_d k hk))
  replace b := zz_fw b T (rfl : zz_ent zP_78 5 = (0, za_iload 0 6)) (ze_iload rfl)
  replace b := zz_fw b T (rfl : zz_ent zP_78 6 = (0, za_iload 2 7)) (ze_iload rfl)
  replace b := zz_fw b T (rfl : zz_ent zP_78 7 = (0, za_icmp_gt 14 10)) (ze_icmp_gt_f (zSh_e k hk))
  replace b := zz_fw b T (rfl : zz_ent zP_78 10 = (0, za_const (.int (Int32.ofNat 1)) 11)) (ze_const)
  replace b := zz_fw b T (rfl : zz_ent zP_78 11 = (0, za_goto 15)) (ze_goto)
  exact zz_M_B (yn := zYN) (cn := zCN) (ml := zMQ) (rt := zRT) (y := 78) (as := [.int (Int32.ofNat k), .int (Int32.ofNat 0), .int (Int32.ofNat 15)]) rfl rfl rfl rfl rfl (by decide +kernel) (zz_lb rfl) (zz_lb rfl) (zz_end_z (zr_78.2.2.1 15 rfl).1 (by decide)) b
/-- what the names' rows are -/
theorem zSh_w {w : zz_W} (hI : zk_I 64 zHT w) : (∃ N, zz_has w 171 (3, 0, 243, N) ∧ zz_at 64 N 4 = 174 ∧ zz_at 64 N 5 = 175) ∧ (∃ N, zz_has w 173 (1, 3, 65536, N) ∧ N = (zz_g w 173).2.2.2) ∧ ∃ N, zz_has w 174 (1, 3, 65536, N) ∧ N = (zz_g w 174).2.2.2 := by
  obtain ⟨l0, k1, k2, k3, -, -, k4, -⟩ := hI.2.2.2 171 (by show (3 : Nat) ≠ 9; decide)
  have k1 : (zz_g w 171).1 = 3 := k1
  have k2 : (zz_g w 171).2.1 = 0 := k2
  have k3 : (zz_g w 171).2.2.1 = 243 := k3
  obtain ⟨l1, m1, m2, m3, -⟩ := hI.2.2.2 173 (by show (1 : Nat) ≠ 9; decide)
  have m1 : (zz_g w 173).1 = 1 := m1
  have m2 : (zz_g w 173).2.1 = 3 := m2
  have m3 : (zz_g w 173).2.2.1 = 65536 := m3
  obtain ⟨l2, n1, n2, n3, -⟩ := hI.2.2.2 174 (by show (1 : Nat) ≠ 9; decide)
  have n1 : (zz_g w 174).1 = 1 := n1
  have n2 : (zz_g w 174).2.1 = 3 := n2
  have n3 : (zz_g w 174).2.2.1 = 65536 := n3
  exact ⟨⟨_, ⟨l0, by decide, zvk_3 (a := 3) (b := 0) (n := 243) (M := 0) (by show ((zz_g w 171).1, (zz_g w 171).2.1, (zz_g w 171).2.2.1) = (3, 0, 243); rw [k1, k2, k3])⟩, (k4 rfl 4 _ rfl).2 rfl, (k4 rfl 5 _ rfl).2 rfl⟩, ⟨_, ⟨l1, by decide, zvk_3 (a := 1) (b := 3) (n := 65536) (M := 0) (by show ((zz_g w 173).1, (zz_g w 173).2.1, (zz_g w 173).2.2.1) = (1, 3, 65536); rw [m1, m2, m3])⟩, rfl⟩, ⟨_, ⟨l2, by decide, zvk_3 (a := 1) (b := 3) (n := 65536) (M := 0) (by show ((zz_g w 174).1, (zz_g w 174).2.1, (zz_g w 174).2.2.1) = (1, 3, 65536); rw [n1, n2, n3])⟩, rfl⟩⟩
def zSv2 (w : zz_W) (n k : Nat) : Int32 := if zn_sg w n k = 0 then Int32.ofNat 4294967295 else Int32.ofNat (zn_sg w n k)
theorem zM88 {l : Launch} {D : va_G} {cy : Nat → ClassId} {z0 : Nat} {sp : Nat → Nat} {G : State → Prop} (hG : zz_GF z0 G) (hP : ∀ U, G U → zz_GD zS zS2 zLg z0 sp U) {d n k : Nat} (hn : n < 125) (hk : k < 16) {w : zz_W} (hI : zk_I 64 zHT w) : zz_M l zTs D zcl zFK cy z0 sp (zTys cy) G zYN zCN zMQ zRT (d + 2) 88 [.ref 171, .int (Int32.ofNat n), .int (Int32.ofNat k)] w [.int (zSv2 w n k)] w := by
  obtain ⟨⟨N, h0, h4, h5⟩, ⟨A, hA, eA⟩, ⟨C, hC, eC⟩⟩ := zSh_w hI
  have en : zz_nI (Int32.ofNat n) = n := zz_nI_ofNat (by omega)
  have T := zt_88 (l := l) (D := D) (cy := cy) (z0 := z0) (sp := sp) (G := G) (d := d + 1) zz_k0_KS hG hP
  have TK := fun (K : zz_K) (h : zz_KS l D zcl zFK cy z0 sp (zTys cy) G zYN (fun y => Cond.code (zYN y) (zCN y) (zMQ y) (zRT y) :: zTs) (d + 1) K) => zt_88 h hG hP
  have b := zz_B_rf (l := l) (Ts := zTs) (D := D) (cl := zcl) (fk := zFK) (cy := cy) (z0 := z0) (sp := sp) (tys := zTys cy) (G := G) (own := "ToolMillModel") (mn := "nameSign") (nL := 4) (cc := prog_14_method_8_code) (d := d + 1) ((0, [(0, .ref 171), (1, .int (Int32.ofNat n)), (2, .int (Int32.ofNat k))], [], w) : zz_F)
  replace b := zz_fw b T (rfl : zz_ent zP_88 0 = (0, za_iload 1 1)) (ze_iload rfl)
  replace b := zz_fw b T (rfl : zz_ent zP_88 1 = (0, za_if_lt 14 4)) (ze_if_lt_f (zSh_i n hn))
  replace b := zz_fw b T (rfl : zz_ent zP_88 4 = (0, za_iload 2 5)) (ze_iload rfl)
  replace b := zz_fw b T (rfl : zz_ent zP_88 5 = (0, za_const (.int (Int32.ofNat 0)) 6)) (ze_const)
  replace b := zz_fw b T (rfl : zz_ent zP_88 6 = (0, za_const (.int (Int32.ofNat 15)) 8)) (ze_const)
  replace b := zz_fSi b TK (rfl : zz_ent zP_88 8 = (0, za_callS 78 3 11)) (zM78 (d := d) hG hP hk) rfl rfl (zz_lb rfl)
  replace b := zz_fw b T (rfl : zz_ent zP_88 11 = (0, za_if_ne 16 14)) (ze_if_ne_t (by decide))
  replace b := zz_fw b T (rfl : zz_ent zP_88 16 = (0, za_iload 2 17)) (ze_iload rfl)
  replace b := zz_fw b T (rfl : zz_ent zP_88 17 = (0, za_const (.int (Int32.ofNat 8)) 19)) (ze_const)
  have hs : ∃ A0 : Nat, zn_sg w n k = (A0 >>> (8 * (k % 8))) % 128 ∧ zz_B l zTs D zcl zFK cy z0 sp (zTys cy) G "ToolMillModel" "nameSign" 4 prog_14_method_8_code (d + 1) (0, [(0, .ref 171), (1, .int (Int32.ofNat n)), (2, .int (Int32.ofNat k))], [], w) (37, [(0, .ref 171), (1, .int (Int32.ofNat n)), (2, .int (Int32.ofNat k))], [.long (Int64.ofNat A0)], w) := by
    by_cases h8 : k < 8
    · refine ⟨zz_at 64 A n, by unfold zn_sg; rw [if_pos h8, eA], ?_⟩
      replace b := zz_fw b T (rfl : zz_ent zP_88 19 = (0, za_icmp_ge 31 22)) (ze_icmp_ge_f (zSh_f k h8))
      replace b := zz_fw b T (rfl : zz_ent zP_88 22 = (0, za_aload 0 23)) (ze_aload rfl)
      replace b := zz_fw b T (rfl : zz_ent zP_88 23 = (0, za_getA 0 4 26)) (ze_getA h0 (by decide) h4)
      replace b := zz_fw b T (rfl : zz_ent zP_88 26 = (0, za_iload 1 27)) (ze_iload rfl)
      replace b := zz_fw b T (rfl : zz_ent zP_88 27 = (0, za_aldL 3 28)) (ze_aldL hA (by rw [en]; omega) (by decide) (by rw [en]))
      exact zz_fw b T (rfl : zz_ent zP_88 28 = (0, za_goto 37)) (ze_goto)
    · refine ⟨zz_at 64 C n, by unfold zn_sg; rw [if_neg h8, eC], ?_⟩
      replace b := zz_fw b T (rfl : zz_ent zP_88 19 = (0, za_icmp_ge 31 22)) (ze_icmp_ge_t (zSh_g k hk (by omega)))
      replace b := zz_fw b T (rfl : zz_ent zP_88 31 = (0, za_aload 0 32)) (ze_aload rfl)
      replace b := zz_fw b T (rfl : zz_ent zP_88 32 = (0, za_getA 0 5 35)) (ze_getA h0 (by decide) h5)
      replace b := zz_fw b T (rfl : zz_ent zP_88 35 = (0, za_iload 1 36)) (ze_iload rfl)
      exact zz_fw b T (rfl : zz_ent zP_88 36 = (0, za_aldL 3 37)) (ze_aldL hC (by rw [en]; omega) (by decide) (by rw [en]))
  clear b
  obtain ⟨A0, hs, b⟩ := hs
  have h128 : (A0 >>> (8 * (k % 8))) % 128 < 128 := Nat.mod_lt _ (by decide)
  replace b := zz_fw b T (rfl : zz_ent zP_88 37 = (0, za_const (.int (Int32.ofNat 8)) 39)) (ze_const)
  replace b := zz_fw b T (rfl : zz_ent zP_88 39 = (0, za_iload 2 40)) (ze_iload rfl)
  replace b := zz_fw b T (rfl : zz_ent zP_88 40 = (0, za_const (.int (Int32.ofNat 8)) 42)) (ze_const)
  replace b := zz_fw b T (rfl : zz_ent zP_88 42 = (0, za_irem 43)) (ze_irem (by decide) (zSh_a k hk))
  replace b := zz_fw b T (rfl : zz_ent zP_88 43 = (0, za_imul 44)) (ze_imul (zSh_b k hk))
  replace b := zz_fw b T (rfl : zz_ent zP_88 44 = (0, za_lshr 45)) (ze_lshr rfl)
  replace b := zz_fw b T (rfl : zz_ent zP_88 45 = (0, za_const (.long (Int64.ofNat 127)) 48)) (ze_const)
  replace b := zz_fw b T (rfl : zz_ent zP_88 48 = (0, za_land 49)) (ze_land rfl)
  replace b := zz_fw b T (rfl : zz_ent zP_88 49 = (0, za_l2i 50)) (ze_l2i (zSg_sh (s := 8 * (k % 8)) (by omega) (zSh_c (k % 8) (Nat.mod_lt _ (by decide)))))
  replace b := zz_fw b T (rfl : zz_ent zP_88 50 = (0, za_istore 3 51)) (ze_istore (lv' := [(0, _), (1, _), (2, _)]) rfl)
  replace b := zz_fw b T (rfl : zz_ent zP_88 51 = (0, za_iload 3 52)) (ze_iload rfl)
  unfold zSv2
  rw [hs]
  by_cases hz : (A0 >>> (8 * (k % 8))) % 128 = 0
  · rw [if_pos hz]
    rw [hz] at b
    replace b := zz_fw b T (rfl : zz_ent zP_88 52 = (0, za_if_ne 59 55)) (ze_if_ne_f (by decide))
    replace b := zz_fw b T (rfl : zz_ent zP_88 55 = (0, za_const (.int (Int32.ofNat 4294967295)) 56)) (ze_const)
    replace b := zz_fw b T (rfl : zz_ent zP_88 56 = (0, za_goto 60)) (ze_goto)
    exact zz_M_B (yn := zYN) (cn := zCN) (ml := zMQ) (rt := zRT) (y := 88) (as := [.ref 171, .int (Int32.ofNat n), .int (Int32.ofNat k)]) rfl rfl rfl rfl rfl (by decide +kernel) (zz_lb rfl) (zz_lb rfl) (zz_end_i (zr_88.2.1 60 rfl).1) b
  · rw [if_neg hz]
    replace b := zz_fw b T (rfl : zz_ent zP_88 52 = (0, za_if_ne 59 55)) (ze_if_ne_t (zSh_j _ h128 hz))
    replace b := zz_fw b T (rfl : zz_ent zP_88 59 = (0, za_iload 3 60)) (ze_iload rfl)
    exact zz_M_B (yn := zYN) (cn := zCN) (ml := zMQ) (rt := zRT) (y := 88) (as := [.ref 171, .int (Int32.ofNat n), .int (Int32.ofNat k)]) rfl rfl rfl rfl rfl (by decide +kernel) (zz_lb rfl) (zz_lb rfl) (zz_end_i (zr_88.2.1 60 rfl).1) b
theorem zSh_J {w v : zz_W} (hI : zk_I 64 zHT w) (hJ : zk_J 64 zHT ([(171, 222), (319, 999)], []) (w, []) v) : zz_g v 173 = zz_g w 173 ∧ zz_g v 174 = zz_g w 174 ∧ zz_g v 175 = zz_g w 175 := by
  have e : ∀ i, (zk_h zHT i).1 < 3 → i ≠ 319 → i < 329 → zz_g v i = zz_g w i := fun i h3 hi _ => by
    obtain ⟨k1, k2, -⟩ := hI.2.2.2 i (by omega)
    have h9 : ∀ n, (i, n) ∉ ([(171, 222), (319, 999)] : List (Nat × Nat)) ∨ i = 171 := fun n => by
      by_cases h1 : i = 171
      · exact Or.inr h1
      · refine Or.inl (fun hm => ?_)
        rcases List.mem_cons.mp hm with e | hm
        · exact h1 (congrArg Prod.fst e)
        · exact hi (congrArg Prod.fst (List.mem_singleton.mp hm))
    have h171 : i ≠ 171 := fun q => by rw [q] at h3; exact absurd h3 (by decide +kernel)
    have h9 : ∀ n, (i, n) ∉ ([(171, 222), (319, 999)] : List (Nat × Nat)) := fun n => (h9 n).resolve_right h171
    exact (hJ.2.1.2 i (h9 999) k1 (by
      show (zz_g w i).1 ≠ 3
      omega)).1 (h9 998)
  exact ⟨e 173 (by decide +kernel) (by decide) (by decide), e 174 (by decide +kernel) (by decide) (by decide), e 175 (by decide +kernel) (by decide) (by decide)⟩
theorem zSh_sg {w v : zz_W} (h1 : zz_g v 173 = zz_g w 173) (h2 : zz_g v 174 = zz_g w 174) (n k : Nat) : zn_sg v n k = zn_sg w n k := by
  unfold zn_sg
  by_cases h : k < 8
  · rw [if_pos h, h1]
  · rw [if_neg h, h2]
def zShL (n k : Nat) : List (Nat × Value) := [(2, .int (Int32.ofNat k)), (0, .ref 171), (1, .int (Int32.ofNat n))]
theorem zSh_sub : zk_sub ([(171, 222), (319, 999)], []) ([(171, 222), (319, 999)], []) [] [] := ⟨fun q hq _ => hq, fun i hi => Or.inl (by
  rcases List.mem_cons.mp hi with e | hi
  · cases e
  · cases List.mem_singleton.mp hi)⟩
theorem zSh_k1 : ∀ k, k < 16 → Int32.ofNat k + Int32.ofNat 1 = Int32.ofNat (k + 1) := by decide
theorem zI_ic171T {w : zz_W} (h : zk_I 64 zHT w) : zz_ic w 171 0 = true := by
  obtain ⟨h1, k1, k2, -⟩ := h.2.2.2 171 (by show (3 : Nat) ≠ 9; decide)
  have k1 : (zz_g w 171).1 = 3 := k1
  have k2 : (zz_g w 171).2.1 = 0 := k2
  unfold zz_ic
  rw [k1, k2, Nat.blt_eq.mpr h1]
  rfl
theorem zSh_go {l : Launch} {D : va_G} {cy : Nat → ClassId} {z0 : Nat} {sp : Nat → Nat} {G : State → Prop} (hG : zz_GF z0 G) (hP : ∀ U, G U → zz_GD zS zS2 zLg z0 sp U) {d n K : Nat} {li : Int} (hn : n < 125) (hK : K ≤ 10) (l0 : 0 ≤ li) (l1 : li ≤ 54) {w : zz_W} (hI : zk_I 64 zHT w) (hz : zn_sg w n K = 0) (hnz : ∀ j, j < K → zn_sg w n j ≠ 0) : ∀ (g k : Nat) (v : zz_W), k + g = K → zk_J 64 zHT ([(171, 222), (319, 999)], []) (w, []) v → (Int32.ofNat (zk_fd v (171, 222))).toInt = li + (k : Int) → ∃ v', zz_B l zTs D zcl zFK cy z0 sp (zTys cy) G "ToolMillModel" "showName" 3 prog_14_method_231_code (d + 2) (2, zShL n k, [], v) (27, zShL n K, [], v') ∧ zk_J 64 zHT ([(171, 222), (319, 999)], []) (w, []) v' ∧ (Int32.ofNat (zk_fd v' (171, 222))).toInt = li + (K : Int) := by
  have T := zt_102 (l := l) (D := D) (cy := cy) (z0 := z0) (sp := sp) (G := G) (d := d + 2) zz_k0_KS hG hP
  have TK := fun (K : zz_K) (h : zz_KS l D zcl zFK cy z0 sp (zTys cy) G zYN (fun y => Cond.code (zYN y) (zCN y) (zMQ y) (zRT y) :: zTs) (d + 2) K) => zt_102 h hG hP
  intro g
  induction g with
  | zero =>
    intro k v hk hJ hf
    have e : k = K := by omega
    subst e
    refine ⟨v, ?_, hJ, hf⟩
    obtain ⟨g1, g2, -⟩ := zSh_J hI hJ
    have hM := zM88 (d := d) (l := l) (D := D) (cy := cy) (sp := sp) (n := n) (k := k) hG hP hn (by omega) hJ.1
    rw [show zSv2 v n k = Int32.ofNat 4294967295 from by unfold zSv2; rw [zSh_sg g1 g2, if_pos hz]] at hM
    have b := zz_B_rf (l := l) (Ts := zTs) (D := D) (cl := zcl) (fk := zFK) (cy := cy) (z0 := z0) (sp := sp) (tys := zTys cy) (G := G) (own := "ToolMillModel") (mn := "showName") (nL := 3) (cc := prog_14_method_231_code) (d := d + 2) ((2, zShL n k, [], v) : zz_F)
    replace b := zz_fw b T (rfl : zz_ent zP_102 2 = (0, za_aload 0 3)) (ze_aload rfl)
    replace b := zz_fw b T (rfl : zz_ent zP_102 3 = (0, za_iload 1 4)) (ze_iload rfl)
    replace b := zz_fw b T (rfl : zz_ent zP_102 4 = (0, za_iload 2 5)) (ze_iload rfl)
    replace b := zz_fVi b TK (rfl : zz_ent zP_102 5 = (0, za_callV 0 88 2 8)) hM rfl rfl (zI_ic171T hJ.1) (zz_lb rfl)
    exact zz_fw b T (rfl : zz_ent zP_102 8 = (0, za_if_le 27 11)) (ze_if_le_t (by decide))
  | succ g ih =>
    intro k v hk hJ hf
    obtain ⟨g1, g2, -⟩ := zSh_J hI hJ
    have hk0 := hnz k (by omega)
    have h128 : zn_sg w n k < 128 := Nat.mod_lt _ (by decide)
    have hM := zM88 (d := d) (l := l) (D := D) (cy := cy) (sp := sp) (n := n) (k := k) hG hP hn (by omega) hJ.1
    rw [show zSv2 v n k = Int32.ofNat (zn_sg w n k) from by unfold zSv2; rw [zSh_sg g1 g2, if_neg hk0]] at hM
    have hA : zk_G2 zPT (zk_I 64 zHT) (fun j => if j = 0 then (Int32.ofNat (zn_sg w n k)).toInt else li + (k : Int)) zQ_103.1 (0, [], [.ref 171, .int (Int32.ofNat (zn_sg w n k))], v) := by
      refine ⟨⟨fun _ h => absurd h List.not_mem_nil, ⟨⟨fun e => (by cases e), fun e => (by cases e), fun _ => rfl, fun e => (by cases e)⟩, ⟨fun _ => ⟨_, rfl, ?_⟩, fun e => (by cases e), fun e => (by cases e), fun e => (by cases e)⟩, trivial⟩, List.forall_mem_cons.mpr ⟨⟨fun _ => ?_, fun e => (by cases e), fun e => (by cases e)⟩, fun _ h => absurd h List.not_mem_nil⟩, fun j q hq => ?_, fun _ h => absurd h List.not_mem_nil, hJ.1⟩, fun _ h => absurd h List.not_mem_nil, fun _ h => absurd h List.not_mem_nil⟩
      · exact (zl_sym_ev (fun j => if j = 0 then (Int32.ofNat (zn_sg w n k)).toInt else li + (k : Int)) 0).symm
      · exact hf.trans (zl_sym_ev (fun j => if j = 0 then (Int32.ofNat (zn_sg w n k)).toInt else li + (k : Int)) 1).symm
      · match j, hq with
        | 0, hq =>
          cases hq
          have h1 := Int32.le_toInt (Int32.ofNat (zn_sg w n k))
          have h2 := Int32.toInt_lt (Int32.ofNat (zn_sg w n k))
          exact ⟨h1, by show (Int32.ofNat (zn_sg w n k)).toInt ≤ 2147483647; omega⟩
        | 1, hq =>
          cases hq
          exact ⟨by show (0 : Int) ≤ li + (k : Int); omega, by show li + (k : Int) ≤ 63; omega⟩
        | _ + 2, hq => cases hq
    obtain ⟨rv, v2, s2, Q, q1, q2, q3, q4⟩ := zCo2_103 (l := l) (D := D) (cy := cy) (sp := sp) hG hP (d + 2) _ v _ (by rw [zl_dep_ok (by decide +kernel)]; show (1 : Int) ≤ _; omega) hA
    have e := List.mem_singleton.mp q1
    subst e
    have e2 := zG2_t0 q3 rfl
    subst e2
    have hJ2 : zk_J 64 zHT ([(171, 222), (319, 999)], []) (w, []) v2 := zk_J_tr hJ q3.1.2.2.2.2.2 zSh_sub
    have hf2 : (Int32.ofNat (zk_fd v2 (171, 222))).toInt = li + ((k + 1 : Nat) : Int) := by
      have h1 := (q3.1.2.2.1 _ List.mem_cons_self).1 rfl
      have h2 : zl_ev s2 ((1, 0), [(1, 1, 0)]) = 1 + s2 1 := by
        show zl_ev s2 (zl_add (zl_con 1) (zl_sym 1)) = _
        rw [zl_add_ev, zl_con_ev, zl_sym_ev]
      have h3 : s2 1 = li + (k : Int) := q4 1 (by decide +kernel)
      have h4 : (Int32.ofNat (zk_fd v2 (171, 222))).toInt = zl_ev s2 ((1, 0), [(1, 1, 0)]) := h1
      rw [h4, h2, h3]
      omega
    have b := zz_B_rf (l := l) (Ts := zTs) (D := D) (cl := zcl) (fk := zFK) (cy := cy) (z0 := z0) (sp := sp) (tys := zTys cy) (G := G) (own := "ToolMillModel") (mn := "showName") (nL := 3) (cc := prog_14_method_231_code) (d := d + 2) ((2, zShL n k, [], v) : zz_F)
    replace b := zz_fw b T (rfl : zz_ent zP_102 2 = (0, za_aload 0 3)) (ze_aload rfl)
    replace b := zz_fw b T (rfl : zz_ent zP_102 3 = (0, za_iload 1 4)) (ze_iload rfl)
    replace b := zz_fw b T (rfl : zz_ent zP_102 4 = (0, za_iload 2 5)) (ze_iload rfl)
    replace b := zz_fVi b TK (rfl : zz_ent zP_102 5 = (0, za_callV 0 88 2 8)) hM rfl rfl (zI_ic171T hJ.1) (zz_lb rfl)
    replace b := zz_fw b T (rfl : zz_ent zP_102 8 = (0, za_if_le 27 11)) (ze_if_le_f (zSh_h _ h128 hk0))
    replace b := zz_fw b T (rfl : zz_ent zP_102 11 = (0, za_aload 0 12)) (ze_aload rfl)
    replace b := zz_fw b T (rfl : zz_ent zP_102 12 = (0, za_aload 0 13)) (ze_aload rfl)
    replace b := zz_fw b T (rfl : zz_ent zP_102 13 = (0, za_iload 1 14)) (ze_iload rfl)
    replace b := zz_fw b T (rfl : zz_ent zP_102 14 = (0, za_iload 2 15)) (ze_iload rfl)
    replace b := zz_fVi b TK (rfl : zz_ent zP_102 15 = (0, za_callV 0 88 2 18)) hM rfl rfl (zI_ic171T hJ.1) (zz_lb rfl)
    replace b := zz_fVv b TK (rfl : zz_ent zP_102 18 = (0, za_callV 0 103 1 21)) q2 rfl rfl (zI_ic171T hJ.1) (zz_lb rfl)
    replace b := zz_fw b T (rfl : zz_ent zP_102 21 = (0, za_iinc 2 (Int32.ofNat 1) 24)) (ze_iinc (lv' := [(0, _), (1, _)]) rfl (zSh_k1 k (by omega)) rfl)
    replace b := zz_fw b T (rfl : zz_ent zP_102 24 = (0, za_goto 2)) (ze_goto)
    obtain ⟨v3, b3, j3, f3⟩ := ih (k + 1) v2 (by omega) hJ2 hf2
    exact ⟨v3, zz_B_tr b b3, j3, f3⟩
/-- the least one -/
theorem zSh_min {P : Nat → Prop} : ∀ k, P k → ∃ j, j ≤ k ∧ P j ∧ ∀ i, i < j → ¬ P i := by
  intro k
  induction k using Nat.strongRecOn with
  | ind k ih =>
    intro h
    by_cases h2 : ∃ i, i < k ∧ P i
    · obtain ⟨i, h3, h4⟩ := h2
      obtain ⟨j, a, b, c⟩ := ih i h3 h4
      exact ⟨j, by omega, b, c⟩
    · exact ⟨k, Nat.le_refl k, h, fun i hi hp => h2 ⟨i, hi, hp⟩⟩
theorem zW_ok {l : Launch} {D : va_G} {cy : Nat → ClassId} {z0 : Nat} {sp : Nat → Nat} {G : State → Prop} (hG : zz_GF z0 G) (hP : ∀ U, G U → zz_GD zS zS2 zLg z0 sp U) : zW l D cy z0 sp G := by
  refine List.forall_mem_cons.mpr ⟨?_, fun _ h => absurd h List.not_mem_nil⟩
  intro d as w s hd hg
  rw [zl_dep_ok (by decide +kernel)] at hd
  have hd : (6 : Int) ≤ (d : Int) := hd
  obtain ⟨⟨-, g2, g3, g4, -, g6⟩, -, gk⟩ := hg
  have hI : zk_I 64 zHT w := g6
  have g2 : zk_st s [(2, 171, ((0, 0), [])), (0, 0, ((0, 0), [(0, 1, 0)]))] as := g2
  obtain ⟨x, hx, hxs⟩ : ∃ x : Int32, as = [.ref 171, .int x] ∧ x.toInt = s 0 := by
    match as, g2 with
    | [v0, v1], ⟨a1, a2, _⟩ =>
      obtain ⟨x, e1, e2⟩ := a2.1 rfl
      have e3 : v0 = .ref 171 := a1.2.2.1 rfl
      exact ⟨x, by rw [e1, e3], e2.trans (zl_sym_ev s 0)⟩
    | [], h => exact h.elim
    | [_], ⟨_, h⟩ => exact h.elim
    | _ :: _ :: _ :: _, ⟨_, _, h⟩ => exact h.elim
  subst hx
  have b0 : (8 : Int) ≤ s 0 ∧ s 0 ≤ 124 := g4 0 (8, 124) rfl
  have b1 : (0 : Int) ≤ s 1 ∧ s 1 ≤ 54 := g4 1 (0, 54) rfl
  obtain ⟨n, hn31, rfl⟩ := zl_i32 x (fun q => by
    have := Int32.lt_iff_toInt_lt.mp q
    have e0 : (0 : Int32).toInt = 0 := rfl
    omega)
  rw [Int32.toInt_ofNat_of_lt hn31] at hxs
  have hn : n < 125 := by omega
  have hf : (Int32.ofNat (zk_fd w (171, 222))).toInt = s 1 := ((g3 _ List.mem_cons_self).1 rfl).trans (zl_sym_ev s 1)
  have h202 : ∀ n, n < 125 → ∃ k, k ≤ 10 ∧ zn_sg w n k = 0 := gk 202 List.mem_cons_self
  obtain ⟨k0, hk0, hz0⟩ := h202 n hn
  obtain ⟨K, hK, hz, hnz⟩ := zSh_min (P := fun k => zn_sg w n k = 0) k0 hz0
  obtain ⟨d, rfl⟩ : ∃ e, d = e + 3 := ⟨d - 3, by omega⟩
  have hJ0 : zk_J 64 zHT ([(171, 222), (319, 999)], []) (w, []) w := ⟨hI, ⟨fun _ _ _ _ _ _ => rfl, fun _ _ _ _ => ⟨fun _ => rfl, fun _ _ _ => rfl⟩⟩, Nat.le_refl _, ⟨rfl, rfl⟩, fun _ _ => rfl⟩
  obtain ⟨v, b2, hJ, hfv⟩ := zSh_go (l := l) (D := D) (cy := cy) (sp := sp) (d := d) (n := n) (K := K) hG hP hn (by omega) b1.1 b1.2 hI hz hnz K 0 w (by omega) hJ0 (by rw [hf]; omega)
  have T := zt_102 (l := l) (D := D) (cy := cy) (z0 := z0) (sp := sp) (G := G) (d := d + 2) zz_k0_KS hG hP
  have b := zz_B_rf (l := l) (Ts := zTs) (D := D) (cl := zcl) (fk := zFK) (cy := cy) (z0 := z0) (sp := sp) (tys := zTys cy) (G := G) (own := "ToolMillModel") (mn := "showName") (nL := 3) (cc := prog_14_method_231_code) (d := d + 2) ((0, [(0, .ref 171), (1, .int (Int32.ofNat n))], [], w) : zz_F)
  replace b := zz_fw b T (rfl : zz_ent zP_102 0 = (0, za_const (.int (Int32.ofNat 0)) 1)) (ze_const)
  replace b := zz_fw b T (rfl : zz_ent zP_102 1 = (0, za_istore 2 2)) (ze_istore (lv' := [(0, _), (1, _)]) rfl)
  replace b := zz_B_tr b b2
  have hM := zz_M_B (yn := zYN) (cn := zCN) (ml := zMQ) (rt := zRT) (y := 102) (as := [.ref 171, .int (Int32.ofNat n)]) rfl rfl rfl rfl rfl (by decide +kernel) (zz_lb rfl) (zz_lb rfl) (zz_end_v (zr_102.1 27 rfl).1) b
  obtain ⟨e3, e4, e5⟩ := zSh_J hI hJ
  refine ⟨[], v, fun j => if j = 2 then s 1 + (K : Int) else s j, _, List.mem_cons_self, hM, ⟨⟨fun _ h => absurd h List.not_mem_nil, trivial, List.forall_mem_cons.mpr ⟨⟨fun _ => ?_, fun e => (by cases e), fun e => (by cases e)⟩, fun _ h => absurd h List.not_mem_nil⟩, fun j q hq => ?_, List.forall_mem_cons.mpr ⟨?_, List.forall_mem_cons.mpr ⟨?_, fun _ h => absurd h List.not_mem_nil⟩⟩, hJ⟩, fun _ h => absurd h List.not_mem_nil, List.forall_mem_cons.mpr ⟨?_, fun _ h => absurd h List.not_mem_nil⟩⟩, fun j hj => ?_⟩
  · exact hfv.trans (zl_sym_ev (fun j => if j = 2 then s 1 + (K : Int) else s j) 2).symm
  · match j, hq with
    | 0, hq => cases hq; exact b0
    | 1, hq => cases hq; exact b1
    | 2, hq => cases hq; exact ⟨by show (0 : Int) ≤ s 1 + (K : Int); omega, by show s 1 + (K : Int) ≤ 64; omega⟩
    | _ + 3, hq => cases hq
  · show 0 ≤ zl_ev (fun j => if j = 2 then s 1 + (K : Int) else s j) (zl_sub (zl_sym 2) (zl_sym 1))
    rw [zl_sub_ev, zl_sym_ev, zl_sym_ev]
    show (0 : Int) ≤ s 1 + (K : Int) - s 1
    omega
  · show 0 ≤ zl_ev (fun j => if j = 2 then s 1 + (K : Int) else s j) (zl_sub (zl_add (zl_con 10) (zl_sym 1)) (zl_sym 2))
    rw [zl_sub_ev, zl_add_ev, zl_con_ev, zl_sym_ev, zl_sym_ev]
    show (0 : Int) ≤ 10 + s 1 - (s 1 + (K : Int))
    omega
  · intro n' hn'
    obtain ⟨k', h1, h2⟩ := h202 n' hn'
    exact ⟨k', h1, (zSh_sg e3 e4 n' k').trans h2⟩
  · show (if j = 2 then s 1 + (K : Int) else s j) = s j
    have hj : j < 2 := hj
    rw [if_neg (by omega)]
