/-! ABSTRACT FRAMES, on: products, masks, rests, shifts; longs -/
noncomputable section
/-- a sum without symbols -/
def zl_c (e : zl_E) : Option Int := cond (zl_az e.2) (some (zl_nv e.1)) none
theorem zl_c_ok {s : Nat → Int} {e : zl_E} {c : Int} (h : zl_c e = some c) : zl_ev s e = c := by
  unfold zl_c at h
  obtain ⟨h1, h2⟩ := zz_cond h
  cases h2
  show zl_nv e.1 + zl_dt s e.2 = zl_nv e.1
  rw [zl_nul_dt s e.2 h1]
  omega
theorem zk_and_bd {x y : Int32} (h : 0 ≤ y.toInt) : 0 ≤ (x &&& y).toInt ∧ (x &&& y).toInt ≤ y.toInt := by
  have h1 := zk_nI h
  have h2 : (x &&& y).toInt = (x.toBitVec &&& y.toBitVec).toInt := rfl
  have h3 : (x.toBitVec &&& y.toBitVec).toNat ≤ y.toBitVec.toNat := by
    rw [BitVec.toNat_and]
    exact Nat.and_le_right
  have h4 : (zz_nI y : Int) ≤ 2147483647 := by rw [h1]; exact zk_hi y
  have h5 : zz_nI y = y.toBitVec.toNat := rfl
  rw [h2, BitVec.toInt_eq_toNat_cond, if_pos (by omega)]
  constructor
  · omega
  · omega
theorem zk_and_comm (x y : Int32) : x &&& y = y &&& x := by
  apply Int32.toBitVec_inj.mp
  show x.toBitVec &&& y.toBitVec = y.toBitVec &&& x.toBitVec
  exact BitVec.and_comm _ _
def zk_bdAnd (_ : List (Int × Int)) (e1 e2 : zl_E) : Int × Int := match zl_c e2 with
  | some c => if 0 ≤ c then (0, c) else (-2147483648, 2147483647)
  | none => match zl_c e1 with
    | some c => if 0 ≤ c then (0, c) else (-2147483648, 2147483647)
    | none => (-2147483648, 2147483647)
theorem zt_iandC_ok {I : zz_W → Prop} {A A' : zk_A} {n : Nat} (h : zt_2b zk_bdAnd A = some A') : zk_S I (za_iand n) n A A' :=
  zt_2b_ok (g := fun x y => x &&& y) (P := fun _ => True) (fun _ _ _ _ _ _ _ _ _ _ _ => trivial) (fun K p lv x y r w _ => ze_iand rfl) (fun s B x y e1 e2 hB h1 h2 => by
    unfold zk_bdAnd
    split
    · rename_i c hc
      have hc := zl_c_ok (s := s) hc
      split
      · rename_i h0
        have := zk_and_bd (x := x) (y := y) (by omega)
        exact ⟨this.1, by show _ ≤ c; omega⟩
      · exact zk_topE
    · split
      · rename_i c hc
        have hc := zl_c_ok (s := s) hc
        split
        · rename_i h0
          have := zk_and_bd (x := y) (y := x) (by omega)
          rw [zk_and_comm] at this
          exact ⟨this.1, by show _ ≤ c; omega⟩
        · exact zk_topE
      · exact zk_topE) h
/-- a product with a number -/
def zt_imul (A : zk_A) : Option zk_A := match A.2.1 with
  | (0, _, e2) :: (0, _, e1) :: r => match zl_c e2 with
    | some c => zk_lin A r (zl_mul c e1)
    | none => match zl_c e1 with
      | some c => zk_lin A r (zl_mul c e2)
      | none => zk_new A r (-2147483648) 2147483647
  | _ => none
theorem zt_imulC_ok {I : zz_W → Prop} {A A' : zk_A} {n : Nat} (h : zt_imul A = some A') : zk_S I (za_imul n) n A A' := by
  obtain ⟨L, T, F, B, C⟩ := A
  unfold zt_imul at h
  split at h
  · rename_i k2 e2 k1 e1 r hT
    have hT : T = (0, k2, e2) :: (0, k1, e1) :: r := hT
    subst hT
    have key : ∀ (hl : B.length ≤ A'.2.2.2.1.length), (∀ (s : Nat → Int) (lv : List (Nat × Value)) (st2 : List Value) (w : zz_W) (x y : Int32), zk_lc s L lv → zk_st s r st2 → zk_fl s F w → zl_in s B → zk_cs s C → I w → x.toInt = zl_ev s e1 → y.toInt = zl_ev s e2 → ∃ s' : Nat → Int, zk_G I s' A' (n, lv, .int (x * y) :: st2, w) ∧ ∀ j, j < B.length → s' j = s j) → zk_S I (za_imul n) n (L, (0, k2, e2) :: (0, k1, e1) :: r, F, B, C) A' := by
      intro hl hk
      refine ⟨hl, fun K s f hG => ?_⟩
      obtain ⟨p, lv, st, w⟩ := f
      obtain ⟨g1, g2, g3, g4, g5, g6⟩ := hG
      obtain ⟨y, st1, q1, q2, q3⟩ := zk_st_int g2 rfl
      obtain ⟨x, st2, q4, q5, q6⟩ := zk_st_int q3 rfl
      have hst : st = .int y :: .int x :: st2 := by rw [← q4]; exact q1
      subst hst
      obtain ⟨s', hg, hs⟩ := hk s lv st2 w x y g1 q6 g3 g4 g5 g6 q5 q2
      exact ⟨s', _, ze_imul rfl, rfl, hg, hs⟩
    split at h
    · rename_i c hc
      refine key (zk_lin_len h) (fun s lv st2 w x y g1 g2 g3 g4 g5 g6 hx hy => ?_)
      exact (zk_lin_ok (I := I) (x := x * y) (n := n) h g1 g2 g3 g4 g5 g6 (fun a b => by
        rw [zl_mul_ev] at a b ⊢
        rw [Int32.toInt_mul, hx, hy, zl_c_ok (s := s) hc, Int.mul_comm, zk_bmod a b])).2
    · split at h
      · rename_i c hc
        refine key (zk_lin_len h) (fun s lv st2 w x y g1 g2 g3 g4 g5 g6 hx hy => ?_)
        exact (zk_lin_ok (I := I) (x := x * y) (n := n) h g1 g2 g3 g4 g5 g6 (fun a b => by
          rw [zl_mul_ev] at a b ⊢
          rw [Int32.toInt_mul, hx, hy, zl_c_ok (s := s) hc, zk_bmod a b])).2
      · refine key (zk_new_len h) (fun s lv st2 w x y g1 g2 g3 g4 g5 g6 hx hy => ?_)
        exact (zk_new_ok (I := I) (x := x * y) (n := n) h g1 g2 g3 g4 g5 g6 (zk_lo _) (zk_hi _)).2
  · cases h
theorem zk_rem {x y : Int32} {c : Int} (hy : y.toInt = c) (hc : 0 < c) : (x - x / y * y).toInt = x.toInt.tmod c := by
  have hx1 := zk_lo x
  have hx2 := zk_hi x
  have hy2 := zk_hi y
  have hd : x.toInt.tdiv c * c + x.toInt.tmod c = x.toInt := Int.tdiv_mul_add_tmod x.toInt c
  have hr : (0 ≤ x.toInt → 0 ≤ x.toInt.tmod c) ∧ (x.toInt ≤ 0 → x.toInt.tmod c ≤ 0) ∧ x.toInt.tmod c < c ∧ -c < x.toInt.tmod c := by
    refine ⟨fun h => Int.tmod_nonneg _ h, fun h => ?_, Int.tmod_lt_of_pos _ hc, ?_⟩
    · have h1 := Int.tmod_nonneg (a := -x.toInt) c (by omega)
      rw [Int.neg_tmod] at h1
      omega
    · have h1 := Int.tmod_lt_of_pos (-x.toInt) hc
      rw [Int.neg_tmod] at h1
      omega
  have hq : -2147483648 ≤ x.toInt.tdiv c ∧ x.toInt.tdiv c ≤ 2147483647 := by
    by_cases h0 : 0 ≤ x.toInt
    · have a := Int.tdiv_nonneg h0 (Int.le_of_lt hc)
      have b : x.toInt.tdiv c * 1 ≤ x.toInt.tdiv c * c := Int.mul_le_mul_of_nonneg_left (by omega) a
      have := hr.1 h0
      omega
    · have a : 0 ≤ (-x.toInt).tdiv c := Int.tdiv_nonneg (by omega) (Int.le_of_lt hc)
      rw [Int.neg_tdiv] at a
      have b : x.toInt.tdiv c * c ≤ x.toInt.tdiv c * 1 := Int.mul_le_mul_of_nonpos_left (by omega) (by omega)
      have := hr.2.1 (by omega)
      omega
  have e1 : (x / y).toInt = x.toInt.tdiv c := by
    rw [Int32.toInt_div, hy]
    exact zk_bmod hq.1 hq.2
  have e2 : (x / y * y).toInt = x.toInt.tdiv c * c := by
    rw [Int32.toInt_mul, e1, hy]
    refine zk_bmod ?_ ?_
    · by_cases h0 : 0 ≤ x.toInt
      · have := hr.1 h0
        have a := Int.tdiv_nonneg h0 (Int.le_of_lt hc)
        have b : 0 ≤ x.toInt.tdiv c * c := Int.mul_nonneg a (Int.le_of_lt hc)
        omega
      · have := hr.2.1 (by omega)
        omega
    · by_cases h0 : 0 ≤ x.toInt
      · have := hr.1 h0
        omega
      · have a : 0 ≤ (-x.toInt).tdiv c := Int.tdiv_nonneg (by omega) (Int.le_of_lt hc)
        rw [Int.neg_tdiv] at a
        have b : x.toInt.tdiv c * c ≤ 0 := Int.mul_nonpos_of_nonpos_of_nonneg (by omega) (Int.le_of_lt hc)
        omega
  rw [Int32.toInt_sub, e2]
  have h9 : x.toInt - x.toInt.tdiv c * c = x.toInt.tmod c := by omega
  rw [h9]
  exact zk_bmod (by omega) (by omega)
end
