/-! ABSTRACT FRAMES, on: longs: their lowest bits, moved left by a number, 'or' of two that lie apart -/
noncomputable section
theorem zk_nLi {x : Int64} (h : zz_nL x < 9223372036854775808) : x.toInt = (zz_nL x : Int) := by
  have h1 : x.toInt = x.toBitVec.toInt := rfl
  have h : x.toBitVec.toNat < 9223372036854775808 := h
  rw [h1, BitVec.toInt_eq_toNat_cond, if_pos (by omega)]
  rfl
theorem zk_land_k {x y : Int64} {k m : Nat} (hm : 2 ^ k = m) (h0 : 0 < m) (h1 : m ≤ 4611686018427387904) (hx : 0 ≤ x.toInt) (hy : y.toInt = (m : Int) - 1) : (x &&& y).toInt = x.toInt % (m : Int) := by
  have e2 : zz_nL y = m - 1 := by
    have := zk_nL0 (x := y) (by omega)
    omega
  have e1 : zz_nL (x &&& y) = zz_nL x % m := by
    show (x.toBitVec &&& y.toBitVec).toNat = _
    rw [BitVec.toNat_and]
    show zz_nL x &&& zz_nL y = _
    rw [e2, ← hm, Nat.and_two_pow_sub_one_eq_mod]
  have h3 : zz_nL x % m < m := Nat.mod_lt _ h0
  have h4 := zk_nL0 hx
  rw [zk_nLi (by rw [e1]; omega), e1, Int.natCast_emod, h4]
theorem zk_sh63 {k : Nat} (hk : k < 64) : ((Int32.ofNat k).toInt64 &&& 63).toBitVec.smod 64 = BitVec.ofNat 64 k := by
  revert k
  decide
theorem zk_lshl {x : Int64} {k m : Nat} (hk : k < 64) (hm : 2 ^ k = m) (hx : 0 ≤ x.toInt) (hb : (m : Int) * x.toInt ≤ 9223372036854775807) : (x <<< ((Int32.ofNat k).toInt64 &&& 63)).toInt = (m : Int) * x.toInt := by
  have h2 : (x <<< ((Int32.ofNat k).toInt64 &&& 63)).toBitVec = x.toBitVec <<< k := by
    rw [Int64.toBitVec_shiftLeft, zk_sh63 hk]
    show x.toBitVec <<< (BitVec.ofNat 64 k).toNat = _
    rw [BitVec.toNat_ofNat, Nat.mod_eq_of_lt (by omega)]
  have h3 := zk_nL0 hx
  have hc : ((m * zz_nL x : Nat) : Int) = (m : Int) * x.toInt := by rw [Int.natCast_mul, h3]
  have h4 : zz_nL (x <<< ((Int32.ofNat k).toInt64 &&& 63)) = m * zz_nL x := by
    show (x <<< ((Int32.ofNat k).toInt64 &&& 63)).toBitVec.toNat = _
    rw [h2, BitVec.toNat_shiftLeft, Nat.shiftLeft_eq, hm]
    show zz_nL x * m % 2 ^ 64 = _
    rw [Nat.mul_comm, Nat.mod_eq_of_lt (by omega)]
  rw [zk_nLi (by rw [h4]; omega), h4, hc]
theorem zk_lor_x {x y : Int64} {k m : Nat} (hm : 2 ^ k = m) (hx : 0 ≤ x.toInt) (hd : zz_nL x % m = 0) (hy : 0 ≤ y.toInt) (hy1 : y.toInt < (m : Int)) (hs : x.toInt + y.toInt ≤ 9223372036854775807) : (x ||| y).toInt = x.toInt + y.toInt := by
  have a := zk_nL0 hx
  have b := zk_nL0 hy
  have h3 : zz_nL (x ||| y) = zz_nL x ||| zz_nL y := by
    show (x.toBitVec ||| y.toBitVec).toNat = _
    rw [BitVec.toNat_or]
    rfl
  have h5 := Nat.div_add_mod (zz_nL x) m
  have h6 := Nat.two_pow_add_eq_or_of_lt (i := k) (b := zz_nL y) (by omega) (zz_nL x / m)
  rw [hd, Nat.add_zero] at h5
  rw [hm, h5] at h6
  rw [zk_nLi (by rw [h3, ← h6]; omega), h3, ← h6]
  omega
/-- the lowest bits of a long that is not below 0 (hint 3, how many) -/
def zt_land4 (hs : List (List Nat)) (A : zk_A) : Option zk_A := match A.2.1, (hs.getD 0 []).getD 0 0 with
  | (1, k2, e2) :: (1, k1, e1) :: r, 3 => match zl_ub A.2.2.2.1 e1 with
    | some u => cond ((Nat.beq k2 1 && Nat.beq k1 1) && ((zl_nul (zl_sub e2 (zl_con ((2 ^ ((hs.getD 0 []).getD 1 0) : Nat) - 1))) && Nat.ble ((hs.getD 0 []).getD 1 0) 62) && (zl_en A.2.2.2.1 A.2.2.2.2 (hs.getD 1 []) e1 && (Nat.ble (zl_mx e1.2) A.2.2.2.1.length && zk_wf A.2.2.2.1.length A.1 r A.2.2.1 A.2.2.2.2))))
      (some (A.1, (1, 1, zl_sub e1 (zl_mul (2 ^ ((hs.getD 0 []).getD 1 0) : Nat) (zl_sym A.2.2.2.1.length))) :: r, A.2.2.1, A.2.2.2.1 ++ [(0, u / (2 ^ ((hs.getD 0 []).getD 1 0) : Nat))], zl_sub e1 (zl_mul (2 ^ ((hs.getD 0 []).getD 1 0) : Nat) (zl_sym A.2.2.2.1.length)) :: zl_sub (zl_add (zl_mul (2 ^ ((hs.getD 0 []).getD 1 0) : Nat) (zl_sym A.2.2.2.1.length)) (zl_con ((2 ^ ((hs.getD 0 []).getD 1 0) : Nat) - 1))) e1 :: A.2.2.2.2)) none
    | none => none
  | _, _ => zt_land3 hs A
theorem zt_land4_ok {I : zz_W → Prop} {A A' : zk_A} {n : Nat} {hs : List (List Nat)} (h : zt_land4 hs A = some A') : zk_S I (za_land n) n A A' := by
  unfold zt_land4 at h
  split at h
  · rename_i k2 e2 k1 e1 r hT _
    obtain ⟨L, T, F, B, C⟩ := A
    have hT : T = (1, k2, e2) :: (1, k1, e1) :: r := hT
    subst hT
    split at h
    · rename_i u hu
      generalize (hs.getD 0 []).getD 1 0 = c at h
      obtain ⟨hb, h⟩ := zz_cond h
      obtain ⟨hb1, hb⟩ := zz_and hb
      obtain ⟨a1, a2⟩ := zz_and hb1
      obtain ⟨hb2, hb⟩ := zz_and hb
      obtain ⟨b2, b3⟩ := zz_and hb2
      obtain ⟨b4, hb⟩ := zz_and hb
      obtain ⟨b5, b6⟩ := zz_and hb
      have b3 := zz_ble b3
      have hu : zl_ub B e1 = some u := hu
      have hm0 : 0 < 2 ^ c := Nat.pow_pos (by decide)
      have hm1 : 2 ^ c ≤ 4611686018427387904 := Nat.le_trans (Nat.pow_le_pow_right (by decide) b3) (by decide)
      generalize hm : 2 ^ c = m at h hm0 hm1 b2
      cases h
      refine ⟨by show B.length ≤ (B ++ [(0, u / (m : Int))]).length; simp, fun K s f hG => ?_⟩
      obtain ⟨p, lv, st, w⟩ := f
      obtain ⟨g1, g2, g3, g4, g5, g6⟩ := hG
      obtain ⟨y, st1, q1, q2, q3⟩ := zk_st_lv g2 rfl
      obtain ⟨x, st2, q4, q5, q6⟩ := zk_st_lv q3 rfl
      have hst : st = .long y :: .long x :: st2 := by rw [← q4]; exact q1
      subst hst
      have q2 : y.toInt = zl_ev s e2 := q2 (zz_beq a1)
      have q5 : x.toInt = zl_ev s e1 := q5 (zz_beq a2)
      have z0 := zl_nul_ok (s := s) b2
      rw [zl_sub_ev, zl_con_ev] at z0
      have z1 := zl_en_ok g4 g5 b4
      have z2 := zl_ub_ok g4 hu
      have hq : (x &&& y).toInt = zl_ev s e1 % (m : Int) := by rw [zk_land_k hm hm0 hm1 (by omega) (by omega), q5]
      have hag : ∀ j, j < B.length → (fun j => if j = B.length then zl_ev s e1 / (m : Int) else s j) j = s j := fun j hj => if_neg (by omega)
      generalize hs' : (fun j => if j = B.length then zl_ev s e1 / (m : Int) else s j) = s' at hag
      have hsB : s' B.length = zl_ev s e1 / (m : Int) := by rw [← hs']; exact if_pos rfl
      obtain ⟨m1, m2, m3, m4⟩ := zk_wf_ok b6 hag g1 q6 g3 g5
      have he1 : zl_ev s' e1 = zl_ev s e1 := zl_ev_eq (n := B.length) (zz_ble b5) hag
      have hd1 := Int.mul_ediv_add_emod (zl_ev s e1) (m : Int)
      have hd2 := Int.emod_nonneg (zl_ev s e1) (b := (m : Int)) (by omega)
      have hd3 := Int.emod_lt_of_pos (zl_ev s e1) (show (0 : Int) < (m : Int) by omega)
      refine ⟨s', _, ze_land rfl, rfl, ⟨m1, ⟨zk_v_lv (by rw [zl_sub_ev, zl_mul_ev, zl_sym_ev, hsB, he1, hq]; omega), m2⟩, m3, zl_in_snoc (fun k q hk => ?_) ?_ ?_, fun c0 hc0 => ?_, g6⟩, hag⟩
      · have hk' : k < B.length := (List.getElem?_eq_some_iff.mp hk).1
        rw [hag k hk']
        exact g4 k q hk
      · rw [hsB]
        exact Int.ediv_nonneg z1 (by omega)
      · rw [hsB]
        exact Int.ediv_le_ediv (show (0 : Int) < (m : Int) by omega) z2
      · rcases List.mem_cons.mp hc0 with e | hc0
        · rw [e, zl_sub_ev, zl_mul_ev, zl_sym_ev, hsB, he1]
          omega
        · rcases List.mem_cons.mp hc0 with e | hc0
          · rw [e, zl_sub_ev, zl_add_ev, zl_mul_ev, zl_sym_ev, zl_con_ev, hsB, he1]
            omega
          · exact m4 c0 hc0
    · cases h
  · exact zt_land3_ok h
/-- a long that is not below 0, moved left by a number, within its bounds (hint 1) -/
def zt_lshl3 (hs : List (List Nat)) (A : zk_A) : Option zk_A := match A.2.1, (hs.getD 0 []).getD 0 0 with
  | (0, _, e2) :: (1, k1, e1) :: r, 1 => match zl_c e2 with
    | some c => cond (Nat.beq k1 1 && ((decide (0 ≤ c) && decide (c ≤ 62)) && (zl_en A.2.2.2.1 A.2.2.2.2 (hs.getD 1 []) e1 && zl_en A.2.2.2.1 A.2.2.2.2 (hs.getD 2 []) (zl_sub (zl_con 9223372036854775807) (zl_mul (2 ^ c.toNat : Nat) e1)))))
      (some (A.1, (1, 1, zl_mul (2 ^ c.toNat : Nat) e1) :: r, A.2.2.1, A.2.2.2.1, A.2.2.2.2)) none
    | none => none
  | _, _ => zt_LI A
theorem zt_lshl3_ok {I : zz_W → Prop} {A A' : zk_A} {n : Nat} {hs : List (List Nat)} (h : zt_lshl3 hs A = some A') : zk_S I (za_lshl n) n A A' := by
  unfold zt_lshl3 at h
  split at h
  · rename_i k2 e2 k1 e1 r hT _
    obtain ⟨L, T, F, B, C⟩ := A
    have hT : T = (0, k2, e2) :: (1, k1, e1) :: r := hT
    subst hT
    split at h
    · rename_i c hc
      obtain ⟨hb, h⟩ := zz_cond h
      obtain ⟨b2, hb⟩ := zz_and hb
      obtain ⟨b3, hb⟩ := zz_and hb
      obtain ⟨b4, b5⟩ := zz_and hb
      obtain ⟨b7, b8⟩ := zz_and b3
      have b7 := of_decide_eq_true b7
      have b8 := of_decide_eq_true b8
      generalize hm : 2 ^ c.toNat = m at h b5
      cases h
      refine ⟨Nat.le_refl _, fun K s f hG => ?_⟩
      obtain ⟨p, lv, st, w⟩ := f
      obtain ⟨g1, g2, g3, g4, g5, g6⟩ := hG
      obtain ⟨y, st1, q1, q2, q3⟩ := zk_st_int g2 rfl
      obtain ⟨x, st2, q4, q5, q6⟩ := zk_st_lv q3 rfl
      have hst : st = .int y :: .long x :: st2 := by rw [← q4]; exact q1
      subst hst
      have q2 : y.toInt = zl_ev s e2 := q2
      have q5 : x.toInt = zl_ev s e1 := q5 (zz_beq b2)
      rw [zl_c_ok (s := s) hc] at q2
      have hyk := zk_ofk63 q2 b7 (by omega)
      subst hyk
      have z1 := zl_en_ok g4 g5 b4
      have z2 := zl_en_ok g4 g5 b5
      rw [zl_sub_ev, zl_con_ev, zl_mul_ev] at z2
      exact ⟨s, _, ze_lshl rfl, rfl, ⟨g1, ⟨zk_v_lv (by rw [zk_lshl (by omega) hm (by omega) (by rw [q5]; omega), zl_mul_ev, q5]), q6⟩, g3, g4, g5, g6⟩, fun _ _ => rfl⟩
    · cases h
  · exact zt_lshl_ok h
/-- 'or' of a multiple of 2^k and what is below 2^k (hint 1, k; then hints for both) -/
def zt_lor3 (hs : List (List Nat)) (A : zk_A) : Option zk_A := match A.2.1, (hs.getD 0 []).getD 0 0 with
  | (1, k2, e2) :: (1, k1, e1) :: r, 1 => cond ((Nat.beq k2 1 && Nat.beq k1 1) && ((zl_md (2 ^ ((hs.getD 0 []).getD 1 0)) e2 && Nat.beq (Int.emod (zl_nv e2.1) ((2 ^ ((hs.getD 0 []).getD 1 0) : Nat) : Int)).toNat 0) && (zl_en A.2.2.2.1 A.2.2.2.2 (hs.getD 1 []) e2 && (zl_en A.2.2.2.1 A.2.2.2.2 (hs.getD 2 []) e1 && (zl_en A.2.2.2.1 A.2.2.2.2 (hs.getD 3 []) (zl_sub (zl_con ((2 ^ ((hs.getD 0 []).getD 1 0) : Nat) - 1)) e1) && zl_en A.2.2.2.1 A.2.2.2.2 (hs.getD 4 []) (zl_sub (zl_con 9223372036854775807) (zl_add e1 e2)))))))
      (some (A.1, (1, 1, zl_add e1 e2) :: r, A.2.2.1, A.2.2.2.1, A.2.2.2.2)) none
  | _, _ => zt_LL A
theorem zt_lor3_ok {I : zz_W → Prop} {A A' : zk_A} {n : Nat} {hs : List (List Nat)} (h : zt_lor3 hs A = some A') : zk_S I (za_lor n) n A A' := by
  unfold zt_lor3 at h
  split at h
  · rename_i k2 e2 k1 e1 r hT _
    obtain ⟨L, T, F, B, C⟩ := A
    have hT : T = (1, k2, e2) :: (1, k1, e1) :: r := hT
    subst hT
    generalize (hs.getD 0 []).getD 1 0 = k at h
    obtain ⟨hb, h⟩ := zz_cond h
    obtain ⟨hb1, hb⟩ := zz_and hb
    obtain ⟨a1, a2⟩ := zz_and hb1
    obtain ⟨hb2, hb⟩ := zz_and hb
    obtain ⟨b2, b3⟩ := zz_and hb2
    obtain ⟨b4, hb⟩ := zz_and hb
    obtain ⟨b5, hb⟩ := zz_and hb
    obtain ⟨b6, b7⟩ := zz_and hb
    cases h
    refine ⟨Nat.le_refl _, fun K s f hG => ?_⟩
    obtain ⟨p, lv, st, w⟩ := f
    obtain ⟨g1, g2, g3, g4, g5, g6⟩ := hG
    obtain ⟨y, st1, q1, q2, q3⟩ := zk_st_lv g2 rfl
    obtain ⟨x, st2, q4, q5, q6⟩ := zk_st_lv q3 rfl
    have hst : st = .long y :: .long x :: st2 := by rw [← q4]; exact q1
    subst hst
    have q2 : y.toInt = zl_ev s e2 := q2 (zz_beq a1)
    have q5 : x.toInt = zl_ev s e1 := q5 (zz_beq a2)
    have z1 := zl_en_ok g4 g5 b4
    have z2 := zl_en_ok g4 g5 b5
    have z3 := zl_en_ok g4 g5 b6
    have z4 := zl_en_ok g4 g5 b7
    rw [zl_sub_ev, zl_con_ev] at z3
    rw [zl_sub_ev, zl_con_ev, zl_add_ev] at z4
    have hn := zk_nL0 (x := y) (by omega)
    have hm := zl_md_ok (j := zz_nL y) (s := s) b2 (by omega)
    rw [zz_beq b3] at hm
    have hv : (x ||| y).toInt = zl_ev s e1 + zl_ev s e2 := by
      have hc : x ||| y = y ||| x := by
        apply Int64.toBitVec_inj.mp
        show x.toBitVec ||| y.toBitVec = y.toBitVec ||| x.toBitVec
        exact BitVec.or_comm _ _
      rw [hc, zk_lor_x (k := k) rfl (by omega) hm.symm (by omega) (by omega) (by omega), q2, q5]
      omega
    exact ⟨s, _, ze_lor rfl, rfl, ⟨g1, ⟨zk_v_lv (by rw [hv, zl_add_ev]), q6⟩, g3, g4, g5, g6⟩, fun _ _ => rfl⟩
  · exact zt_lor_ok h
end
