/-! ABSTRACT FRAMES, on: a number's low bits; quotients and rests that are known already -/
noncomputable section
theorem zk_divu {e q m : Int} (hm : 0 < m) (h0 : 0 ≤ e - m * q) (h1 : 0 ≤ m * q + (m - 1) - e) : e / m = q ∧ e % m = e - m * q :=
  (Int.ediv_emod_unique hm).mpr ⟨by omega, h0, by omega⟩
/-- moved right by a number: the quotient is symbol j -/
def zt_ishr3 (hs : List (List Nat)) (A : zk_A) : Option zk_A := match A.2.1, hs.getD 3 [] with
  | (0, _, e2) :: (0, _, e1) :: r, j :: _ => match zl_kn A.2.2.2.1 A.2.2.2.2 hs e2 with
    | some k => cond ((decide (0 ≤ k) && decide (k ≤ 31)) && (zl_en A.2.2.2.1 A.2.2.2.2 (hs.getD 4 []) (zl_sub e1 (zl_mul (2 ^ k.toNat : Nat) (zl_sym j))) && zl_en A.2.2.2.1 A.2.2.2.2 (hs.getD 5 []) (zl_sub (zl_add (zl_mul (2 ^ k.toNat : Nat) (zl_sym j)) (zl_con ((2 ^ k.toNat : Nat) - 1))) e1))) (some (A.1, (0, 0, zl_sym j) :: r, A.2.2.1, A.2.2.2.1, A.2.2.2.2)) none
    | none => none
  | _, _ => zt_ishr2 hs A
theorem zt_ishr3_ok {I : zz_W → Prop} {A A' : zk_A} {n : Nat} {hs : List (List Nat)} (h : zt_ishr3 hs A = some A') : zk_S I (za_ishr n) n A A' := by
  unfold zt_ishr3 at h
  split at h
  · rename_i k2 e2 k1 e1 r j _ hT _
    split at h
    · rename_i k hk
      obtain ⟨hb, h⟩ := zz_cond h
      obtain ⟨hb1, hb2⟩ := zz_and hb
      obtain ⟨b1, b2⟩ := zz_and hb1
      obtain ⟨b3, b4⟩ := zz_and hb2
      have b1 := of_decide_eq_true b1
      have b2 := of_decide_eq_true b2
      cases h
      refine zk_2g hT (Nat.le_refl _) (fun x y => x >>> (y &&& 31)) (fun K p lv x y st w => ze_ishr rfl) (fun s lv st w x y h1 h2 h3 h4 h5 h6 hx hy => ?_)
      have hy := zk_ofk (hy.trans (zl_kn_ok h4 h5 hk)) b1 b2
      subst hy
      have c1 := zl_en_ok h4 h5 b3
      have c2 := zl_en_ok h4 h5 b4
      rw [zl_sub_ev, zl_mul_ev, zl_sym_ev] at c1
      rw [zl_sub_ev, zl_add_ev, zl_mul_ev, zl_sym_ev, zl_con_ev] at c2
      have hm : (0 : Int) < ((2 ^ k.toNat : Nat) : Int) := by
        have := Nat.two_pow_pos k.toNat
        omega
      have hd := (zk_divu hm c1 c2).1
      refine ⟨s, ⟨h1, ⟨zk_v_int ?_, h2⟩, h3, h4, h5, h6⟩, fun _ _ => rfl⟩
      show (x >>> (Int32.ofNat k.toNat &&& 31)).toInt = zl_ev s (zl_sym j)
      rw [zk_ishr (by omega), hx, hd, zl_sym_ev]
    · cases h
  · exact zt_ishr2_ok h
theorem zk_nIm {x : Int32} (h : x.toInt < 0) : (zz_nI x : Int) = x.toInt + 4294967296 := by
  have h1 : x.toInt = x.toBitVec.toInt := rfl
  have h2 : zz_nI x = x.toBitVec.toNat := rfl
  have h3 : x.toBitVec.toInt = if 2 * x.toBitVec.toNat < 2 ^ 32 then (x.toBitVec.toNat : Int) else (x.toBitVec.toNat : Int) - ((2 ^ 32 : Nat) : Int) := by rw [BitVec.toInt_eq_toNat_cond]
  have h4 : ((2 ^ 32 : Nat) : Int) = 4294967296 := by decide
  rw [h4] at h3
  rw [h1] at h ⊢
  rw [h2]
  split at h3
  · omega
  · omega
/-- moved right by a number, as a number that is not below 0: the quotient of what is moved is symbol j; 1 it is below 0; 2 moved by nothing -/
def zt_iushr3 (hs : List (List Nat)) (A : zk_A) : Option zk_A := match A.2.1, hs.getD 3 [] with
  | (0, _, e2) :: (0, _, e1) :: r, j :: f => match zl_kn A.2.2.2.1 A.2.2.2.2 hs e2 with
    | some k => cond (Nat.beq (f.getD 0 0) 2)
        (cond (decide (k = 0)) (some (A.1, (0, 0, e1) :: r, A.2.2.1, A.2.2.2.1, A.2.2.2.2)) none)
        (cond ((decide (1 ≤ k) && decide (k ≤ 31)) && (zl_pos A.2.2.2.1 (cond (Nat.beq (f.getD 0 0) 1) (zl_sub (zl_con (-1)) e1) e1) && (zl_en A.2.2.2.1 A.2.2.2.2 (hs.getD 4 []) (zl_sub e1 (zl_mul (2 ^ k.toNat : Nat) (zl_sym j))) && zl_en A.2.2.2.1 A.2.2.2.2 (hs.getD 5 []) (zl_sub (zl_add (zl_mul (2 ^ k.toNat : Nat) (zl_sym j)) (zl_con ((2 ^ k.toNat : Nat) - 1))) e1))))
          (some (A.1, (0, 0, zl_add (zl_sym j) (zl_con (cond (Nat.beq (f.getD 0 0) 1) (2 ^ (32 - k.toNat) : Nat) 0))) :: r, A.2.2.1, A.2.2.2.1, A.2.2.2.2)) none)
    | none => none
  | _, _ => zt_iushr2 hs A
theorem zt_iushr3_ok {I : zz_W → Prop} {A A' : zk_A} {n : Nat} {hs : List (List Nat)} (h : zt_iushr3 hs A = some A') : zk_S I (za_iushr n) n A A' := by
  unfold zt_iushr3 at h
  split at h
  · rename_i k2 e2 k1 e1 r j f hT _
    split at h
    · rename_i k hk
      cases hf2 : Nat.beq (f.getD 0 0) 2 with
      | true =>
        rw [hf2] at h
        obtain ⟨hb, h⟩ := zz_cond h
        have hb := of_decide_eq_true hb
        cases h
        refine zk_2g hT (Nat.le_refl _) (fun x y => (x.toUInt32 >>> (y.toUInt32 &&& Int32.toUInt32 31)).toInt32) (fun K p lv x y st w => ze_iushr rfl) (fun s lv st w x y h1 h2 h3 h4 h5 h6 hx hy => ?_)
        have hy := zk_ofk (hy.trans (zl_kn_ok h4 h5 hk)) (by omega) (by omega)
        subst hy
        have hv := zk_iushr (x := x) (k := k.toNat) (by omega)
        have hk0 : k.toNat = 0 := by omega
        refine ⟨s, ⟨h1, ⟨zk_v_int ?_, h2⟩, h3, h4, h5, h6⟩, fun _ _ => rfl⟩
        show (x.toUInt32 >>> ((Int32.ofNat k.toNat).toUInt32 &&& Int32.toUInt32 31)).toInt32.toInt = zl_ev s e1
        have he : (x.toUInt32 >>> ((Int32.ofNat k.toNat).toUInt32 &&& Int32.toUInt32 31)).toInt32 = x := by
          rw [← zz_nI_of (x.toUInt32 >>> ((Int32.ofNat k.toNat).toUInt32 &&& Int32.toUInt32 31)).toInt32, hv, hk0, Nat.pow_zero, Nat.div_one, zz_nI_of]
        rw [he]
        exact hx
      | false =>
        rw [hf2] at h
        obtain ⟨hb, h⟩ := zz_cond h
        obtain ⟨hb1, hb2⟩ := zz_and hb
        obtain ⟨b1, b2⟩ := zz_and hb1
        obtain ⟨bp, hb2⟩ := zz_and hb2
        obtain ⟨b3, b4⟩ := zz_and hb2
        have b1 := of_decide_eq_true b1
        have b2 := of_decide_eq_true b2
        cases h
        refine zk_2g hT (Nat.le_refl _) (fun x y => (x.toUInt32 >>> (y.toUInt32 &&& Int32.toUInt32 31)).toInt32) (fun K p lv x y st w => ze_iushr rfl) (fun s lv st w x y h1 h2 h3 h4 h5 h6 hx hy => ?_)
        have hy := zk_ofk (hy.trans (zl_kn_ok h4 h5 hk)) (by omega) b2
        subst hy
        have hp := zl_pos_ok h4 bp
        have c1 := zl_en_ok h4 h5 b3
        have c2 := zl_en_ok h4 h5 b4
        rw [zl_sub_ev, zl_mul_ev, zl_sym_ev] at c1
        rw [zl_sub_ev, zl_add_ev, zl_mul_ev, zl_sym_ev, zl_con_ev] at c2
        have hm : (0 : Int) < ((2 ^ k.toNat : Nat) : Int) := by
          have := Nat.two_pow_pos k.toNat
          omega
        have hd := (zk_divu hm c1 c2).1
        rw [← hx] at hd
        have hv := zk_iushr (x := x) (k := k.toNat) (by omega)
        have hlt : zz_nI x / 2 ^ k.toNat < 2 ^ (32 - k.toNat) := by
          rw [Nat.div_lt_iff_lt_mul (Nat.two_pow_pos _), ← Nat.pow_add, show 32 - k.toNat + k.toNat = 32 by omega]
          exact zz_nI_lt x
        have hle : 2 ^ (32 - k.toNat) ≤ 2 ^ 31 := Nat.pow_le_pow_right (by decide) (by omega)
        have hq : ((zz_nI x / 2 ^ k.toNat : Nat) : Int) = s j + (cond (Nat.beq (f.getD 0 0) 1) ((2 ^ (32 - k.toNat) : Nat) : Int) 0) := by
          rw [Int.natCast_ediv]
          cases hf1 : Nat.beq (f.getD 0 0) 1 with
          | true =>
            rw [hf1] at hp
            have hp : 0 ≤ zl_ev s (zl_sub (zl_con (-1)) e1) := hp
            rw [zl_sub_ev, zl_con_ev] at hp
            have e1 : (4294967296 : Int) = ((2 ^ k.toNat : Nat) : Int) * ((2 ^ (32 - k.toNat) : Nat) : Int) := by
              rw [← Int.natCast_mul, ← Nat.pow_add, show k.toNat + (32 - k.toNat) = 32 by omega]
              rfl
            rw [zk_nIm (x := x) (by omega), e1, Int.add_mul_ediv_left _ _ (by omega), hd]
            rfl
          | false =>
            rw [hf1] at hp
            have hp : 0 ≤ zl_ev s e1 := hp
            rw [zk_nI (x := x) (by omega), hd]
            show s j = s j + 0
            rw [Int.add_zero]
        refine ⟨s, ⟨h1, ⟨zk_v_int ?_, h2⟩, h3, h4, h5, h6⟩, fun _ _ => rfl⟩
        show (x.toUInt32 >>> ((Int32.ofNat k.toNat).toUInt32 &&& Int32.toUInt32 31)).toInt32.toInt = zl_ev s (zl_add (zl_sym j) (zl_con (cond (Nat.beq (f.getD 0 0) 1) (2 ^ (32 - k.toNat) : Nat) 0)))
        rw [zk_nIx (by rw [hv]; omega), hv, hq, zl_add_ev, zl_sym_ev, zl_con_ev]
    · cases h
  · exact zt_iushr2_ok h
theorem zk_and_md {x y : Int32} {m : Nat} (hm : m ≤ 31) (hy : y.toInt = (2 : Int) ^ m - 1) : (x &&& y).toInt = x.toInt % ((2 ^ m : Nat) : Int) := by
  have h2 : ((2 ^ m : Nat) : Int) = (2 : Int) ^ m := by rw [Int.natCast_pow]; rfl
  have hp := Nat.two_pow_pos m
  have e2 := zk_nI (x := y) (by omega)
  have e4 : zz_nI y = 2 ^ m - 1 := by omega
  have h3 := zk_and_bd (x := x) (y := y) (by omega)
  have e3 := zk_nI h3.1
  have e5 : zz_nI (x &&& y) = zz_nI x % 2 ^ m := by rw [zk_and_nI, e4, Nat.and_two_pow_sub_one_eq_mod]
  have e6 : x.toInt % ((2 ^ m : Nat) : Int) = ((zz_nI x % 2 ^ m : Nat) : Int) := by
    have h1 : x.toInt = x.toBitVec.toInt := rfl
    have hn : zz_nI x = x.toBitVec.toNat := rfl
    rw [h1, BitVec.toInt_eq_toNat_cond]
    split
    · rw [hn, Int.natCast_emod]
    · have hk : ((2 ^ 32 : Nat) : Int) = ((2 ^ m : Nat) : Int) * ((2 ^ (32 - m) : Nat) : Int) := by
        rw [← Int.natCast_mul, ← Nat.pow_add, show m + (32 - m) = 32 by omega]
      rw [hk, show (x.toBitVec.toNat : Int) - ((2 ^ m : Nat) : Int) * ((2 ^ (32 - m) : Nat) : Int) = (x.toBitVec.toNat : Int) + ((2 ^ m : Nat) : Int) * (-((2 ^ (32 - m) : Nat) : Int)) by rw [Int.mul_neg, Int.sub_eq_add_neg], Int.add_mul_emod_self_left, hn, Int.natCast_emod]
  rw [← e3, e5, e6]
/-- low bits: 4 a new quotient, 5 the quotient is symbol j -/
def zt_iand4 (hs : List (List Nat)) (A : zk_A) : Option zk_A := match A.2.1, (hs.getD 0 []).getD 0 0 with
  | (0, _, e2) :: (0, _, e1) :: r, 4 => cond (Nat.ble ((hs.getD 0 []).getD 1 0) 31 && (zl_nul (zl_sub e2 (zl_con ((2 : Int) ^ ((hs.getD 0 []).getD 1 0) - 1))) && Nat.ble (zl_mx e1.2) A.2.2.2.1.length))
      (match zk_new A r (-2147483648) 2147483647 with
        | some B => some (B.1, (0, 0, zl_sub e1 (zl_mul (2 ^ ((hs.getD 0 []).getD 1 0) : Nat) (zl_sym A.2.2.2.1.length))) :: r, B.2.2.1, B.2.2.2.1, zl_sub e1 (zl_mul (2 ^ ((hs.getD 0 []).getD 1 0) : Nat) (zl_sym A.2.2.2.1.length)) :: zl_sub (zl_add (zl_mul (2 ^ ((hs.getD 0 []).getD 1 0) : Nat) (zl_sym A.2.2.2.1.length)) (zl_con ((2 ^ ((hs.getD 0 []).getD 1 0) : Nat) - 1))) e1 :: B.2.2.2.2)
        | none => none) none
  | (0, _, e2) :: (0, _, e1) :: r, 5 => cond (Nat.ble ((hs.getD 0 []).getD 1 0) 31 && (zl_nul (zl_sub e2 (zl_con ((2 : Int) ^ ((hs.getD 0 []).getD 1 0) - 1))) && (zl_en A.2.2.2.1 A.2.2.2.2 (hs.getD 1 []) (zl_sub e1 (zl_mul (2 ^ ((hs.getD 0 []).getD 1 0) : Nat) (zl_sym ((hs.getD 0 []).getD 2 0)))) && zl_en A.2.2.2.1 A.2.2.2.2 (hs.getD 2 []) (zl_sub (zl_add (zl_mul (2 ^ ((hs.getD 0 []).getD 1 0) : Nat) (zl_sym ((hs.getD 0 []).getD 2 0))) (zl_con ((2 ^ ((hs.getD 0 []).getD 1 0) : Nat) - 1))) e1))))
      (some (A.1, (0, 0, zl_sub e1 (zl_mul (2 ^ ((hs.getD 0 []).getD 1 0) : Nat) (zl_sym ((hs.getD 0 []).getD 2 0)))) :: r, A.2.2.1, A.2.2.2.1, A.2.2.2.2)) none
  | (0, _, e2) :: (0, _, e1) :: r, 6 => cond (zl_nul (zl_sub e2 (zl_con (-4))) && Nat.ble (zl_mx e1.2) A.2.2.2.1.length)
      (match zk_new A r (zl_fl A.2.2.2.1 e1 4 (-2147483648)) (zl_fh A.2.2.2.1 e1 4 2147483647) with
        | some B => some (B.1, (0, 0, zl_mul 4 (zl_sym A.2.2.2.1.length)) :: r, B.2.2.1, B.2.2.2.1, zl_sub e1 (zl_mul 4 (zl_sym A.2.2.2.1.length)) :: zl_sub (zl_add (zl_mul 4 (zl_sym A.2.2.2.1.length)) (zl_con 3)) e1 :: B.2.2.2.2)
        | none => none) none
  | _, _ => zt_iand3 hs A
theorem zk_and_m4 {x y : Int32} (hy : y.toInt = -4) : (x &&& y).toInt = 4 * (x.toInt / 4) := by
  have ey : y = -4 := Int32.toInt_inj.mp (by rw [hy]; rfl)
  subst ey
  have h1 : (x &&& (3 : Int32)).toInt = x.toInt % 4 := zk_and_md (m := 2) (by decide) (by rfl)
  have h2 : x.toBitVec = (x.toBitVec &&& 3#32) + (x.toBitVec &&& (-4#32)) := by
    rw [BitVec.add_eq_or_of_and_eq_zero _ _ (by
      rw [← BitVec.and_assoc, BitVec.and_assoc x.toBitVec 3#32 x.toBitVec, BitVec.and_comm 3#32 x.toBitVec, ← BitVec.and_assoc, BitVec.and_assoc _ 3#32 (-4#32), show (3#32 &&& -4#32) = 0#32 from by decide, BitVec.and_zero])]
    rw [← BitVec.and_or_distrib_left, show (3#32 ||| -4#32) = BitVec.allOnes 32 from by decide, BitVec.and_allOnes]
  have h3 : x = (x &&& (3 : Int32)) + (x &&& (-4 : Int32)) := Int32.toBitVec_inj.mp h2
  have h4 : (x &&& (-4 : Int32)) = x - (x &&& (3 : Int32)) := by
    conv => rhs; lhs; rw [h3]
    rw [Int32.add_comm, Int32.add_sub_cancel]
  have h5 := zk_lo x
  have h6 := zk_hi x
  have h7 := Int.emod_nonneg x.toInt (show (4 : Int) ≠ 0 by decide)
  have h8 := Int.emod_lt_of_pos x.toInt (show (0 : Int) < 4 by decide)
  have h9 : (x - (x &&& (3 : Int32))).toInt = x.toInt - x.toInt % 4 := by
    rw [Int32.toInt_sub, h1]
    exact Int.bmod_eq_of_le (by omega) (by omega)
  rw [h4, h9]
  omega
theorem zt_iand4_ok {I : zz_W → Prop} {A A' : zk_A} {n : Nat} {hs : List (List Nat)} (h : zt_iand4 hs A = some A') : zk_S I (za_iand n) n A A' := by
  obtain ⟨L, T, F, B, C⟩ := A
  unfold zt_iand4 at h
  split at h
  · rename_i k2 e2 k1 e1 r hT _
    have hT : T = (0, k2, e2) :: (0, k1, e1) :: r := hT
    subst hT
    generalize (hs.getD 0 []).getD 1 0 = m at h
    obtain ⟨hb, h⟩ := zz_cond h
    obtain ⟨b1, hb⟩ := zz_and hb
    obtain ⟨b2, b3⟩ := zz_and hb
    split at h
    · rename_i A1 hA1
      cases h
      have hl := zk_new_len hA1
      refine ⟨hl, fun K s f hG => ?_⟩
      obtain ⟨p, lv, st, w⟩ := f
      obtain ⟨g1, g2, g3, g4, g5, g6⟩ := hG
      obtain ⟨y, st1, q1, q2, q3⟩ := zk_st_int g2 rfl
      obtain ⟨x, st2, q4, q5, q6⟩ := zk_st_int q3 rfl
      have hst : st = .int y :: .int x :: st2 := by rw [← q4]; exact q1
      subst hst
      have z1 := zl_nul_ok (s := s) b2
      rw [zl_sub_ev, zl_con_ev] at z1
      have q2 : y.toInt = zl_ev s e2 := q2
      have q5 : x.toInt = zl_ev s e1 := q5
      have hm := zz_ble b1
      have hmd := zk_and_md (x := x) (y := y) hm (by omega)
      have hp : (1 : Int) ≤ ((2 ^ m : Nat) : Int) := by
        have := Nat.two_pow_pos m
        omega
      generalize hc : ((2 ^ m : Nat) : Int) = c at hmd hp ⊢
      have d1 := Int.mul_ediv_add_emod x.toInt c
      have d2 := Int.emod_nonneg x.toInt (show c ≠ 0 by omega)
      have d3 := Int.emod_lt_of_pos x.toInt (show 0 < c by omega)
      have l1 : (-2147483648 : Int) ≤ x.toInt / c := by
        have h1 : (-2147483648 : Int) / c ≤ x.toInt / c := Int.ediv_le_ediv (by omega) (zk_lo x)
        have h2 : (-2147483648 : Int) ≤ (-2147483648 : Int) / c := by
          refine Int.le_ediv_of_mul_le (by omega) ?_
          have : (2147483648 : Int) * 1 ≤ 2147483648 * c := Int.mul_le_mul_of_nonneg_left hp (by decide)
          omega
        omega
      have l2 : x.toInt / c ≤ (2147483647 : Int) := by
        have h1 : x.toInt / c ≤ (2147483647 : Int) / c := Int.ediv_le_ediv (by omega) (zk_hi x)
        have h2 : (2147483647 : Int) / c ≤ 2147483647 := Int.ediv_le_self _ (by decide)
        omega
      have hv : (Int32.ofInt (x.toInt / c)).toInt = x.toInt / c := Int32.toInt_ofInt_of_le (by omega) (by omega)
      obtain ⟨-, s', hg, hs'⟩ := zk_new_ok (I := I) (x := Int32.ofInt (x.toInt / c)) (n := n) (w := w) (lv := lv) hA1 g1 q6 g3 g4 g5 g6 (by rw [hv]; exact l1) (by rw [hv]; exact l2)
      obtain ⟨j1, j2, j3, j4, j5, j6⟩ := hg
      have hA1T : A1.2.1 = (0, 0, zl_sym B.length) :: r := by
        obtain ⟨-, hA1⟩ := zz_cond hA1
        cases hA1
        rfl
      rw [hA1T] at j2
      have hsym : x.toInt / c = s' B.length := by
        obtain ⟨z, z1, z2⟩ := j2.1.1 rfl
        cases z1
        have z2 : (Int32.ofInt (x.toInt / c)).toInt = zl_ev s' (zl_sym B.length) := z2
        rw [zl_sym_ev, hv] at z2
        exact z2
      have he1 : zl_ev s' e1 = x.toInt := by
        rw [zl_ev_eq (t := s) (n := B.length) (zz_ble b3) hs']
        exact q5.symm
      rw [hsym] at d1
      refine ⟨s', _, ze_iand rfl, rfl, ⟨j1, ⟨zk_v_int ?_, j2.2⟩, j3, j4, fun e he => ?_, j6⟩, hs'⟩
      · rw [hmd, zl_sub_ev, zl_mul_ev, zl_sym_ev, he1]
        show x.toInt % c = x.toInt - c * s' B.length
        omega
      · rcases List.mem_cons.mp he with e0 | he
        · rw [e0, zl_sub_ev, zl_mul_ev, zl_sym_ev, he1]
          show 0 ≤ x.toInt - c * s' B.length
          omega
        · rcases List.mem_cons.mp he with e0 | he
          · rw [e0, zl_sub_ev, zl_add_ev, zl_mul_ev, zl_sym_ev, zl_con_ev, he1]
            show 0 ≤ c * s' B.length + (c - 1) - x.toInt
            omega
          · exact j5 e he
    · cases h
  · rename_i k2 e2 k1 e1 r hT _
    have hT : T = (0, k2, e2) :: (0, k1, e1) :: r := hT
    subst hT
    generalize (hs.getD 0 []).getD 1 0 = m at h
    generalize (hs.getD 0 []).getD 2 0 = j at h
    obtain ⟨hb, h⟩ := zz_cond h
    obtain ⟨b1, hb⟩ := zz_and hb
    obtain ⟨b2, hb⟩ := zz_and hb
    obtain ⟨b3, b4⟩ := zz_and hb
    cases h
    refine ⟨Nat.le_refl _, fun K s f hG => ?_⟩
    obtain ⟨p, lv, st, w⟩ := f
    obtain ⟨g1, g2, g3, g4, g5, g6⟩ := hG
    obtain ⟨y, st1, q1, q2, q3⟩ := zk_st_int g2 rfl
    obtain ⟨x, st2, q4, q5, q6⟩ := zk_st_int q3 rfl
    have hst : st = .int y :: .int x :: st2 := by rw [← q4]; exact q1
    subst hst
    have z1 := zl_nul_ok (s := s) b2
    rw [zl_sub_ev, zl_con_ev] at z1
    have q2 : y.toInt = zl_ev s e2 := q2
    have q5 : x.toInt = zl_ev s e1 := q5
    have hmd := zk_and_md (x := x) (y := y) (zz_ble b1) (by omega)
    have c1 := zl_en_ok g4 g5 b3
    have c2 := zl_en_ok g4 g5 b4
    rw [zl_sub_ev, zl_mul_ev, zl_sym_ev] at c1
    rw [zl_sub_ev, zl_add_ev, zl_mul_ev, zl_sym_ev, zl_con_ev] at c2
    have hm : (0 : Int) < ((2 ^ m : Nat) : Int) := by
      have := Nat.two_pow_pos m
      omega
    have hd := (zk_divu hm c1 c2).2
    refine ⟨s, _, ze_iand rfl, rfl, ⟨g1, ⟨zk_v_int ?_, q6⟩, g3, g4, g5, g6⟩, fun _ _ => rfl⟩
    rw [hmd, q5, hd, zl_sub_ev, zl_mul_ev, zl_sym_ev]
  · rename_i k2 e2 k1 e1 r hT _
    have hT : T = (0, k2, e2) :: (0, k1, e1) :: r := hT
    subst hT
    obtain ⟨hb, h⟩ := zz_cond h
    obtain ⟨b2, b3⟩ := zz_and hb
    split at h
    · rename_i A1 hA1
      cases h
      have hl := zk_new_len hA1
      refine ⟨hl, fun K s f hG => ?_⟩
      obtain ⟨p, lv, st, w⟩ := f
      obtain ⟨g1, g2, g3, g4, g5, g6⟩ := hG
      obtain ⟨y, st1, q1, q2, q3⟩ := zk_st_int g2 rfl
      obtain ⟨x, st2, q4, q5, q6⟩ := zk_st_int q3 rfl
      have hst : st = .int y :: .int x :: st2 := by rw [← q4]; exact q1
      subst hst
      have z1 := zl_nul_ok (s := s) b2
      rw [zl_sub_ev, zl_con_ev] at z1
      have q2 : y.toInt = zl_ev s e2 := q2
      have q5 : x.toInt = zl_ev s e1 := q5
      have hmd := zk_and_m4 (x := x) (y := y) (by omega)
      have x1 := zk_lo x
      have x2 := zk_hi x
      have hv : (Int32.ofInt (x.toInt / 4)).toInt = x.toInt / 4 := Int32.toInt_ofInt_of_le (by omega) (by omega)
      obtain ⟨-, s', hg, hs'⟩ := zk_new_ok (I := I) (x := Int32.ofInt (x.toInt / 4)) (n := n) (w := w) (lv := lv) hA1 g1 q6 g3 g4 g5 g6 (by rw [hv, q5]; exact zl_fl_ok g4 (by decide) (by rw [← q5]; omega)) (by rw [hv, q5]; exact zl_fh_ok g4 (by decide) (by rw [← q5]; omega))
      obtain ⟨j1, j2, j3, j4, j5, j6⟩ := hg
      have hA1T : A1.2.1 = (0, 0, zl_sym B.length) :: r := by
        obtain ⟨-, hA1⟩ := zz_cond hA1
        cases hA1
        rfl
      rw [hA1T] at j2
      have hsym : x.toInt / 4 = s' B.length := by
        obtain ⟨z, z1, z2⟩ := j2.1.1 rfl
        cases z1
        have z2 : (Int32.ofInt (x.toInt / 4)).toInt = zl_ev s' (zl_sym B.length) := z2
        rw [zl_sym_ev, hv] at z2
        exact z2
      have he1 : zl_ev s' e1 = x.toInt := by
        rw [zl_ev_eq (t := s) (n := B.length) (zz_ble b3) hs']
        exact q5.symm
      refine ⟨s', _, ze_iand rfl, rfl, ⟨j1, ⟨zk_v_int ?_, j2.2⟩, j3, j4, fun e he => ?_, j6⟩, hs'⟩
      · rw [hmd, zl_mul_ev, zl_sym_ev, hsym]
      · rcases List.mem_cons.mp he with e0 | he
        · rw [e0, zl_sub_ev, zl_mul_ev, zl_sym_ev, he1]
          show 0 ≤ x.toInt - 4 * s' B.length
          omega
        · rcases List.mem_cons.mp he with e0 | he
          · rw [e0, zl_sub_ev, zl_add_ev, zl_mul_ev, zl_sym_ev, zl_con_ev, he1]
            show 0 ≤ 4 * s' B.length + 3 - x.toInt
            omega
          · exact j5 e he
    · cases h
  · exact zt_iand3_ok h
/-- divided by a number: the quotient is symbol j -/
def zt_idiv3 (hs : List (List Nat)) (A : zk_A) : Option zk_A := match A.2.1, (hs.getD 0 []).getD 0 0 with
  | (0, _, e2) :: (0, _, e1) :: r, 1 => match zl_c e2 with
    | some c => cond (decide (0 < c) && (zl_en A.2.2.2.1 A.2.2.2.2 (hs.getD 1 []) e1 && (zl_en A.2.2.2.1 A.2.2.2.2 (hs.getD 2 []) (zl_sub e1 (zl_mul c (zl_sym ((hs.getD 0 []).getD 1 0)))) && zl_en A.2.2.2.1 A.2.2.2.2 (hs.getD 3 []) (zl_sub (zl_add (zl_mul c (zl_sym ((hs.getD 0 []).getD 1 0))) (zl_con (c - 1))) e1)))) (some (A.1, (0, 0, zl_sym ((hs.getD 0 []).getD 1 0)) :: r, A.2.2.1, A.2.2.2.1, A.2.2.2.2)) none
    | none => none
  | _, _ => zt_idiv2 A
theorem zt_idiv3_ok {I : zz_W → Prop} {A A' : zk_A} {n : Nat} {hs : List (List Nat)} (h : zt_idiv3 hs A = some A') : zk_S I (za_idiv n) n A A' := by
  obtain ⟨L, T, F, B, C⟩ := A
  unfold zt_idiv3 at h
  split at h
  · rename_i k2 e2 k1 e1 r hT _
    have hT : T = (0, k2, e2) :: (0, k1, e1) :: r := hT
    subst hT
    generalize (hs.getD 0 []).getD 1 0 = j at h
    split at h
    · rename_i c hc
      obtain ⟨hb, h⟩ := zz_cond h
      obtain ⟨b1, hb⟩ := zz_and hb
      obtain ⟨b2, hb⟩ := zz_and hb
      obtain ⟨b3, b4⟩ := zz_and hb
      have b1 := of_decide_eq_true b1
      cases h
      refine ⟨Nat.le_refl _, fun K s f hG => ?_⟩
      obtain ⟨p, lv, st, w⟩ := f
      obtain ⟨g1, g2, g3, g4, g5, g6⟩ := hG
      obtain ⟨y, st1, q1, q2, q3⟩ := zk_st_int g2 rfl
      obtain ⟨x, st2, q4, q5, q6⟩ := zk_st_int q3 rfl
      have hst : st = .int y :: .int x :: st2 := by rw [← q4]; exact q1
      subst hst
      have q2 : y.toInt = zl_ev s e2 := q2
      have q5 : x.toInt = zl_ev s e1 := q5
      rw [zl_c_ok (s := s) hc] at q2
      have c0 := zl_en_ok g4 g5 b2
      have c1 := zl_en_ok g4 g5 b3
      have c2 := zl_en_ok g4 g5 b4
      rw [zl_sub_ev, zl_mul_ev, zl_sym_ev] at c1
      rw [zl_sub_ev, zl_add_ev, zl_mul_ev, zl_sym_ev, zl_con_ev] at c2
      have hyn : ¬ y = 0 := by
        intro e
        rw [e] at q2
        have : (0 : Int32).toInt = 0 := rfl
        omega
      have hd := (zk_divu b1 c1 c2).1
      refine ⟨s, _, ze_idiv hyn rfl, rfl, ⟨g1, ⟨zk_v_int ?_, q6⟩, g3, g4, g5, g6⟩, fun _ _ => rfl⟩
      rw [zk_div q2 b1, q5, Int.tdiv_eq_ediv_of_nonneg c0, hd, zl_sym_ev]
    · cases h
  · exact zt_idiv2_ok h
/-- the rest by a number: the quotient is symbol j -/
def zt_irem4 (hs : List (List Nat)) (A : zk_A) : Option zk_A := match A.2.1, (hs.getD 0 []).getD 1 0 with
  | (0, _, e2) :: (0, _, e1) :: r, 1 => match zl_c e2 with
    | some c => cond (decide (0 < c) && (zl_en A.2.2.2.1 A.2.2.2.2 (hs.getD 1 []) e1 && (zl_en A.2.2.2.1 A.2.2.2.2 (hs.getD 2 []) (zl_sub e1 (zl_mul c (zl_sym ((hs.getD 0 []).getD 2 0)))) && zl_en A.2.2.2.1 A.2.2.2.2 (hs.getD 3 []) (zl_sub (zl_add (zl_mul c (zl_sym ((hs.getD 0 []).getD 2 0))) (zl_con (c - 1))) e1)))) (some (A.1, (0, 0, zl_sub e1 (zl_mul c (zl_sym ((hs.getD 0 []).getD 2 0)))) :: r, A.2.2.1, A.2.2.2.1, A.2.2.2.2)) none
    | none => none
  | _, _ => zt_irem3 hs A
theorem zt_irem4_ok {I : zz_W → Prop} {A A' : zk_A} {n : Nat} {hs : List (List Nat)} (h : zt_irem4 hs A = some A') : zk_S I (za_irem n) n A A' := by
  obtain ⟨L, T, F, B, C⟩ := A
  unfold zt_irem4 at h
  split at h
  · rename_i k2 e2 k1 e1 r hT _
    have hT : T = (0, k2, e2) :: (0, k1, e1) :: r := hT
    subst hT
    generalize (hs.getD 0 []).getD 2 0 = j at h
    split at h
    · rename_i c hc
      obtain ⟨hb, h⟩ := zz_cond h
      obtain ⟨b1, hb⟩ := zz_and hb
      obtain ⟨b2, hb⟩ := zz_and hb
      obtain ⟨b3, b4⟩ := zz_and hb
      have b1 := of_decide_eq_true b1
      cases h
      refine ⟨Nat.le_refl _, fun K s f hG => ?_⟩
      obtain ⟨p, lv, st, w⟩ := f
      obtain ⟨g1, g2, g3, g4, g5, g6⟩ := hG
      obtain ⟨y, st1, q1, q2, q3⟩ := zk_st_int g2 rfl
      obtain ⟨x, st2, q4, q5, q6⟩ := zk_st_int q3 rfl
      have hst : st = .int y :: .int x :: st2 := by rw [← q4]; exact q1
      subst hst
      have q2 : y.toInt = zl_ev s e2 := q2
      have q5 : x.toInt = zl_ev s e1 := q5
      rw [zl_c_ok (s := s) hc] at q2
      have c0 := zl_en_ok g4 g5 b2
      have c1 := zl_en_ok g4 g5 b3
      have c2 := zl_en_ok g4 g5 b4
      rw [zl_sub_ev, zl_mul_ev, zl_sym_ev] at c1
      rw [zl_sub_ev, zl_add_ev, zl_mul_ev, zl_sym_ev, zl_con_ev] at c2
      have hyn : ¬ y = 0 := by
        intro e
        rw [e] at q2
        have : (0 : Int32).toInt = 0 := rfl
        omega
      have hd := (zk_divu b1 c1 c2).2
      refine ⟨s, _, ze_irem hyn rfl, rfl, ⟨g1, ⟨zk_v_int ?_, q6⟩, g3, g4, g5, g6⟩, fun _ _ => rfl⟩
      rw [zk_rem q2 b1, q5, Int.tmod_eq_emod_of_nonneg c0, hd, zl_sub_ev, zl_mul_ev, zl_sym_ev]
    · cases h
  · exact zt_irem3_ok h
/-- a place of a constant row of ints -/
def zk_kb (h : List Nat) (k : Nat) : Int := (h.getD k 0 : Int) - 2147483648
def zt_kl (S2 : zz_Lr) (hs : List (List Nat)) (A : zk_A) : Option zk_A := match A.2.1 with
  | (0, _, e) :: (2, i, _) :: r => match zz_k2 S2 i with
    | some q => cond (zk_ix A (hs.getD 1 []) (hs.getD 2 []) e q.1 && ((Nat.blt q.1 2147483648 && not (Nat.beq (zz_at 32 q.2 q.1) 1)) && (List.range q.1).all (fun j => decide (zk_kb (hs.getD 0 []) 0 ≤ (Int32.ofNat (zz_at 32 q.2 j)).toInt) && decide ((Int32.ofNat (zz_at 32 q.2 j)).toInt ≤ zk_kb (hs.getD 0 []) 1)))) (zk_new A r (zk_kb (hs.getD 0 []) 0) (zk_kb (hs.getD 0 []) 1)) none
    | none => none
  | _ => none
theorem zt_kl_ok {S2 : zz_Lr} {I : zz_W → Prop} {A A' : zk_A} {n : Nat} {hs : List (List Nat)} (h : zt_kl S2 hs A = some A') : zk_S I (za_kl (zz_ki S2) n) n A A' := by
  obtain ⟨L, T, F, B, C⟩ := A
  unfold zt_kl at h
  split at h
  · rename_i d0 e i e0 r hT
    have hT : T = (0, d0, e) :: (2, i, e0) :: r := hT
    subst hT
    split at h
    · rename_i q hq
      obtain ⟨hb, h⟩ := zz_cond h
      obtain ⟨b1, hb⟩ := zz_and hb
      obtain ⟨b2, b3⟩ := zz_and hb
      obtain ⟨b4, b5⟩ := zz_and b2
      refine ⟨zk_new_len h, fun K s f hG => ?_⟩
      obtain ⟨p, lv, st, w⟩ := f
      obtain ⟨g1, g2, g3, g4, g5, g6⟩ := hG
      obtain ⟨j, st1, q1, q2, q3⟩ := zk_st_int g2 rfl
      obtain ⟨v, st2, q4, q5, q6⟩ := zk_st_cons q3
      have e3 : v = .ref i := q5.2.2.1 rfl
      subst e3
      have hst : st = .int j :: .ref i :: st2 := by rw [← q4]; exact q1
      subst hst
      have hj := zk_ix_ok b1 g4 g5 q2
      have hv : zz_ki S2 i (zz_nI j) = some (zz_at 32 q.2 (zz_nI j)) := by
        unfold zz_ki
        rw [hq]
        show cond (Nat.blt (zz_nI j) q.1 && Nat.blt q.1 2147483648 && not (Nat.beq (zz_at 32 q.2 q.1) 1)) (some (zz_at 32 q.2 (zz_nI j))) none = _
        rw [show Nat.blt (zz_nI j) q.1 = true from Nat.ble_eq.mpr hj, b4, b5]
        rfl
      have hr := List.all_eq_true.mp b3 (zz_nI j) (List.mem_range.mpr hj)
      obtain ⟨r1, r2⟩ := zz_and hr
      have r1 := of_decide_eq_true r1
      have r2 := of_decide_eq_true r2
      obtain ⟨-, s', hg, hs'⟩ := zk_new_ok (I := I) (x := Int32.ofNat (zz_at 32 q.2 (zz_nI j))) (n := n) (w := w) (lv := lv) h g1 q6 g3 g4 g5 g6 r1 r2
      exact ⟨s', _, ze_kl hv rfl, rfl, hg, hs'⟩
    · cases h
  · cases h
theorem zk_c16 (x : Int32) : 0 ≤ ((x.toUInt32 % 65536).toInt32).toInt ∧ ((x.toUInt32 % 65536).toInt32).toInt ≤ 65535 := by
  have h1 : zz_nI (x.toUInt32 % 65536).toInt32 = zz_nI x % 65536 := by
    show (x.toUInt32 % 65536).toNat = _
    rw [UInt32.toNat_mod]
    rfl
  have h2 : zz_nI x % 65536 < 65536 := Nat.mod_lt _ (by decide)
  rw [zk_nIx (by rw [h1]; omega), h1]
  omega
theorem zt_i2c_ok {I : zz_W → Prop} {A A' : zk_A} {n : Nat} (h : zt_1b (fun _ _ => (0, 65535)) A = some A') : zk_S I (za_i2c n) n A A' := zt_1b_ok (g := fun x => (x.toUInt32 % 65536).toInt32) (fun K p lv x r w => ze_i2c rfl) (fun _ _ x _ _ _ => zk_c16 x) h
/-- or, the low bits apart: the sum -/
theorem zk_or_x {x y : Int32} {k : Nat} (hk : k ≤ 31) (hx : 0 ≤ x.toInt) (hm : zz_nI x % 2 ^ k = 0) (hy : 0 ≤ y.toInt) (hy2 : y.toInt < ((2 ^ k : Nat) : Int)) : (x ||| y).toInt = x.toInt + y.toInt := by
  have h1 := zk_nI hx
  have h2 := zk_nI hy
  have h3 : zz_nI (x ||| y) = zz_nI x ||| zz_nI y := by
    unfold zz_nI
    rw [Int32.toBitVec_or, BitVec.toNat_or]
  have hx2 := zk_hi x
  have hy3 := zk_hi y
  have h4 : zz_nI x ||| zz_nI y < 2 ^ 31 := Nat.or_lt_two_pow (by omega) (by omega)
  have h5 := Nat.div_add_mod (zz_nI x) (2 ^ k)
  have h6 := Nat.two_pow_add_eq_or_of_lt (i := k) (b := zz_nI y) (by omega) (zz_nI x / 2 ^ k)
  rw [hm, Nat.add_zero] at h5
  rw [h5] at h6
  rw [zk_nIx (by rw [h3]; omega), h3, ← h6]
  omega
def zt_ior3 (hs : List (List Nat)) (A : zk_A) : Option zk_A := match A.2.1, hs.getD 1 [] with
  | (0, _, e2) :: (0, _, e1) :: r, k :: _ => cond ((Nat.ble k 31 && (zl_md (2 ^ k) e1 && Nat.beq (Int.emod (zl_nv e1.1) ((2 ^ k : Nat) : Int)).toNat 0)) && (zl_en A.2.2.2.1 A.2.2.2.2 (hs.getD 2 []) e1 && (zl_en A.2.2.2.1 A.2.2.2.2 (hs.getD 3 []) e2 && zl_en A.2.2.2.1 A.2.2.2.2 (hs.getD 4 []) (zl_sub (zl_con (((2 ^ k : Nat) : Int) - 1)) e2)))) (some (A.1, (0, 0, zl_add e1 e2) :: r, A.2.2.1, A.2.2.2.1, A.2.2.2.2)) none
  | _, _ => zt_2b (zk_bdOr ((hs.getD 0 []).getD 0 0)) A
theorem zt_ior3_ok {I : zz_W → Prop} {A A' : zk_A} {n : Nat} {hs : List (List Nat)} (h : zt_ior3 hs A = some A') : zk_S I (za_ior n) n A A' := by
  unfold zt_ior3 at h
  split at h
  · rename_i k2 e2 k1 e1 r k _ hT _
    obtain ⟨hb, h⟩ := zz_cond h
    obtain ⟨hb1, hb2⟩ := zz_and hb
    obtain ⟨b1, hb1⟩ := zz_and hb1
    obtain ⟨b2, b3⟩ := zz_and hb1
    obtain ⟨b4, hb2⟩ := zz_and hb2
    obtain ⟨b5, b6⟩ := zz_and hb2
    cases h
    refine zk_2g hT (Nat.le_refl _) (fun x y => x ||| y) (fun K p lv x y st w => ze_ior rfl) (fun s lv st w x y h1 h2 h3 h4 h5 h6 hx hy => ?_)
    have c1 := zl_en_ok h4 h5 b4
    have c2 := zl_en_ok h4 h5 b5
    have c3 := zl_en_ok h4 h5 b6
    rw [zl_sub_ev, zl_con_ev] at c3
    have hn := zk_nI (x := x) (by omega)
    have hm := zl_md_ok (j := zz_nI x) (s := s) b2 (by omega)
    rw [zz_beq b3] at hm
    refine ⟨s, ⟨h1, ⟨zk_v_int ?_, h2⟩, h3, h4, h5, h6⟩, fun _ _ => rfl⟩
    show (x ||| y).toInt = zl_ev s (zl_add e1 e2)
    rw [zk_or_x (zz_ble b1) (by omega) hm.symm (by omega) (by omega), zl_add_ev, hx, hy]
  · exact zt_ior2_ok h
/-- low bits: 7 the quotient is symbol j and c -/
def zt_iand5 (hs : List (List Nat)) (A : zk_A) : Option zk_A := match A.2.1, (hs.getD 0 []).getD 0 0 with
  | (0, _, e2) :: (0, _, e1) :: r, 7 => cond (Nat.ble ((hs.getD 0 []).getD 1 0) 31 && (zl_nul (zl_sub e2 (zl_con ((2 : Int) ^ ((hs.getD 0 []).getD 1 0) - 1))) && (zl_en A.2.2.2.1 A.2.2.2.2 (hs.getD 1 []) (zl_sub e1 (zl_mul (2 ^ ((hs.getD 0 []).getD 1 0) : Nat) (zl_add (zl_sym ((hs.getD 0 []).getD 2 0)) (zl_con ((hs.getD 0 []).getD 3 0 : Nat))))) && zl_en A.2.2.2.1 A.2.2.2.2 (hs.getD 2 []) (zl_sub (zl_add (zl_mul (2 ^ ((hs.getD 0 []).getD 1 0) : Nat) (zl_add (zl_sym ((hs.getD 0 []).getD 2 0)) (zl_con ((hs.getD 0 []).getD 3 0 : Nat)))) (zl_con ((2 ^ ((hs.getD 0 []).getD 1 0) : Nat) - 1))) e1))))
      (some (A.1, (0, 0, zl_sub e1 (zl_mul (2 ^ ((hs.getD 0 []).getD 1 0) : Nat) (zl_add (zl_sym ((hs.getD 0 []).getD 2 0)) (zl_con ((hs.getD 0 []).getD 3 0 : Nat))))) :: r, A.2.2.1, A.2.2.2.1, A.2.2.2.2)) none
  | _, _ => zt_iand4 hs A
theorem zt_iand5_ok {I : zz_W → Prop} {A A' : zk_A} {n : Nat} {hs : List (List Nat)} (h : zt_iand5 hs A = some A') : zk_S I (za_iand n) n A A' := by
  obtain ⟨L, T, F, B, C⟩ := A
  unfold zt_iand5 at h
  split at h
  · rename_i k2 e2 k1 e1 r hT _
    have hT : T = (0, k2, e2) :: (0, k1, e1) :: r := hT
    subst hT
    generalize (hs.getD 0 []).getD 1 0 = m at h
    generalize hqq : zl_add (zl_sym ((hs.getD 0 []).getD 2 0)) (zl_con ((hs.getD 0 []).getD 3 0 : Nat)) = qq at h
    obtain ⟨hb, h⟩ := zz_cond h
    obtain ⟨b1, hb⟩ := zz_and hb
    obtain ⟨b2, hb⟩ := zz_and hb
    obtain ⟨b3, b4⟩ := zz_and hb
    cases h
    refine ⟨Nat.le_refl _, fun K s f hG => ?_⟩
    obtain ⟨p, lv, st, w⟩ := f
    obtain ⟨g1, g2, g3, g4, g5, g6⟩ := hG
    obtain ⟨y, st1, q1, q2, q3⟩ := zk_st_int g2 rfl
    obtain ⟨x, st2, q4, q5, q6⟩ := zk_st_int q3 rfl
    have hst : st = .int y :: .int x :: st2 := by rw [← q4]; exact q1
    subst hst
    have z1 := zl_nul_ok (s := s) b2
    rw [zl_sub_ev, zl_con_ev] at z1
    have q2 : y.toInt = zl_ev s e2 := q2
    have q5 : x.toInt = zl_ev s e1 := q5
    have hmd := zk_and_md (x := x) (y := y) (zz_ble b1) (by omega)
    have c1 := zl_en_ok g4 g5 b3
    have c2 := zl_en_ok g4 g5 b4
    rw [zl_sub_ev, zl_mul_ev] at c1
    rw [zl_sub_ev, zl_add_ev, zl_mul_ev, zl_con_ev] at c2
    have hm : (0 : Int) < ((2 ^ m : Nat) : Int) := by
      have := Nat.two_pow_pos m
      omega
    have hd := (zk_divu hm c1 c2).2
    refine ⟨s, _, ze_iand rfl, rfl, ⟨g1, ⟨zk_v_int ?_, q6⟩, g3, g4, g5, g6⟩, fun _ _ => rfl⟩
    rw [hmd, q5, hd, zl_sub_ev, zl_mul_ev]
  · exact zt_iand4_ok h
end
