/-! ABSTRACT FRAMES, on: quotients, rows of references, chars, longs that are set -/
noncomputable section
theorem zk_div {x y : Int32} {c : Int} (hy : y.toInt = c) (hc : 0 < c) : (x / y).toInt = x.toInt.tdiv c := by
  have hx1 := zk_lo x
  have hx2 := zk_hi x
  have hd : x.toInt.tdiv c * c + x.toInt.tmod c = x.toInt := Int.tdiv_mul_add_tmod x.toInt c
  rw [Int32.toInt_div, hy]
  by_cases h0 : 0 ≤ x.toInt
  · have a := Int.tdiv_nonneg h0 (Int.le_of_lt hc)
    have b : x.toInt.tdiv c * 1 ≤ x.toInt.tdiv c * c := Int.mul_le_mul_of_nonneg_left (by omega) a
    have := Int.tmod_nonneg (a := x.toInt) c h0
    exact zk_bmod (by omega) (by omega)
  · have a : 0 ≤ (-x.toInt).tdiv c := Int.tdiv_nonneg (by omega) (Int.le_of_lt hc)
    rw [Int.neg_tdiv] at a
    have b : x.toInt.tdiv c * c ≤ x.toInt.tdiv c * 1 := Int.mul_le_mul_of_nonpos_left (by omega) (by omega)
    have h1 := Int.tmod_nonneg (a := -x.toInt) c (by omega)
    rw [Int.neg_tmod] at h1
    exact zk_bmod (by omega) (by omega)
/-- the greatest value that the bounds allow -/
def zl_ub (B : List (Int × Int)) (e : zl_E) : Option Int := match zl_lb B (zl_neg e).2 with
  | some v => some (-(zl_nv (zl_neg e).1 + v))
  | none => none
theorem zl_ub_ok {s : Nat → Int} {B : List (Int × Int)} {e : zl_E} {u : Int} (hB : zl_in s B) (h : zl_ub B e = some u) : zl_ev s e ≤ u := by
  unfold zl_ub at h
  split at h
  · rename_i v hv
    cases h
    have h1 := zl_lb_ok s B hB (zl_neg e).2 v hv
    have h2 := zl_neg_ev s e
    have h3 : zl_ev s (zl_neg e) = zl_nv (zl_neg e).1 + zl_dt s (zl_neg e).2 := rfl
    omega
  · cases h
def zk_dh (B : List (Int × Int)) (e : zl_E) (c : Int) : Int := match zl_ub B e with
  | some u => u / c
  | none => 2147483647
theorem zk_dh_ok {s : Nat → Int} {B : List (Int × Int)} {e : zl_E} {c : Int} {x y : Int32} (hB : zl_in s B) (hx : x.toInt = zl_ev s e) (h0 : 0 ≤ x.toInt) (hy : y.toInt = c) (hc : 0 < c) : (x / y).toInt ≤ zk_dh B e c := by
  unfold zk_dh
  split
  · rename_i u hu
    have h1 := zl_ub_ok hB hu
    rw [zk_div hy hc, Int.tdiv_eq_ediv_of_nonneg h0]
    exact Int.ediv_le_ediv hc (by omega)
  · exact zk_hi _
def zt_idiv (A : zk_A) : Option zk_A := match A.2.1 with
  | (0, _, e2) :: (0, _, e1) :: r => match zl_c e2 with
    | some c => cond (decide (0 < c)) (cond (zl_pos A.2.2.2.1 e1 && Nat.ble (zl_mx e1.2) A.2.2.2.1.length)
        (match zk_new A r 0 (zk_dh A.2.2.2.1 e1 c) with
          | some B => some (B.1, B.2.1, B.2.2.1, B.2.2.2.1, zl_sub e1 (zl_mul c (zl_sym A.2.2.2.1.length)) :: zl_sub (zl_add (zl_mul c (zl_sym A.2.2.2.1.length)) (zl_con (c - 1))) e1 :: B.2.2.2.2)
          | none => none)
        (zk_new A r (-2147483648) 2147483647)) none
    | none => none
  | _ => none
theorem zt_idiv_ok {I : zz_W → Prop} {A A' : zk_A} {n : Nat} (h : zt_idiv A = some A') : zk_S I (za_idiv n) n A A' := by
  obtain ⟨L, T, F, B, C⟩ := A
  unfold zt_idiv at h
  split at h
  · rename_i k2 e2 k1 e1 r hT
    have hT : T = (0, k2, e2) :: (0, k1, e1) :: r := hT
    subst hT
    split at h
    · rename_i c hc
      obtain ⟨h0, h⟩ := zz_cond h
      have h0 : 0 < c := of_decide_eq_true h0
      have hy0 : ∀ (s : Nat → Int) (y : Int32), y.toInt = zl_ev s e2 → y.toInt = c ∧ ¬ y = 0 := by
        intro s y hy
        have h1 : y.toInt = c := hy.trans (zl_c_ok hc)
        refine ⟨h1, fun e => ?_⟩
        rw [e] at h1
        have : (0 : Int32).toInt = 0 := rfl
        omega
      cases hp : (zl_pos B e1 && Nat.ble (zl_mx e1.2) B.length) with
      | false =>
        have h : cond (zl_pos B e1 && Nat.ble (zl_mx e1.2) B.length) _ (zk_new (L, (0, k2, e2) :: (0, k1, e1) :: r, F, B, C) r (-2147483648) 2147483647) = some A' := h
        rw [hp] at h
        have h : zk_new (L, (0, k2, e2) :: (0, k1, e1) :: r, F, B, C) r (-2147483648) 2147483647 = some A' := h
        refine ⟨zk_new_len h, fun K s f hG => ?_⟩
        obtain ⟨p, lv, st, w⟩ := f
        obtain ⟨g1, g2, g3, g4, g5, g6⟩ := hG
        obtain ⟨y, st1, q1, q2, q3⟩ := zk_st_int g2 rfl
        obtain ⟨x, st2, q4, q5, q6⟩ := zk_st_int q3 rfl
        have hst : st = .int y :: .int x :: st2 := by rw [← q4]; exact q1
        subst hst
        obtain ⟨-, s', hg, hs⟩ := zk_new_ok (I := I) (x := x / y) (n := n) (w := w) (lv := lv) h g1 q6 g3 g4 g5 g6 (zk_lo _) (zk_hi _)
        exact ⟨s', _, ze_idiv (hy0 s y q2).2 rfl, rfl, hg, hs⟩
      | true =>
        obtain ⟨p1, p2⟩ := zz_and hp
        have h : cond (zl_pos B e1 && Nat.ble (zl_mx e1.2) B.length) (match zk_new (L, (0, k2, e2) :: (0, k1, e1) :: r, F, B, C) r 0 (zk_dh B e1 c) with
          | some B1 => some (B1.1, B1.2.1, B1.2.2.1, B1.2.2.2.1, zl_sub e1 (zl_mul c (zl_sym B.length)) :: zl_sub (zl_add (zl_mul c (zl_sym B.length)) (zl_con (c - 1))) e1 :: B1.2.2.2.2)
          | none => none) _ = some A' := h
        rw [hp] at h
        have h : (match zk_new (L, (0, k2, e2) :: (0, k1, e1) :: r, F, B, C) r 0 (zk_dh B e1 c) with
          | some B1 => some (B1.1, B1.2.1, B1.2.2.1, B1.2.2.2.1, zl_sub e1 (zl_mul c (zl_sym B.length)) :: zl_sub (zl_add (zl_mul c (zl_sym B.length)) (zl_con (c - 1))) e1 :: B1.2.2.2.2)
          | none => none) = some A' := h
        split at h
        · rename_i A1 hA1
          cases h
          have hl := zk_new_len hA1
          refine ⟨hl, fun K s f hG => ?_⟩
          obtain ⟨p, lv, st, w⟩ := f
          obtain ⟨g1, g2, g3, g4, g5, g6⟩ := hG
          obtain ⟨y, st1, q1, q2, q3⟩ := zk_st_int g2 rfl
          obtain ⟨x, st2, q4, q5, q6⟩ := zk_st_int q3 rfl
          have hst : st = .int y :: .int x :: st2 := by rw [← q4]; exact q1
          subst hst
          have q5 : x.toInt = zl_ev s e1 := q5
          have hx0 := zl_pos_ok g4 p1
          obtain ⟨hy, hyn⟩ := hy0 s y q2
          have hq := zk_div (x := x) hy h0
          have hd : x.toInt.tdiv c * c + x.toInt.tmod c = x.toInt := Int.tdiv_mul_add_tmod x.toInt c
          have hm0 := Int.tmod_nonneg (a := x.toInt) c (by omega)
          have hm1 := Int.tmod_lt_of_pos x.toInt h0
          have hqn := Int.tdiv_nonneg (a := x.toInt) (b := c) (by omega) (Int.le_of_lt h0)
          obtain ⟨-, s', hg, hs⟩ := zk_new_ok (I := I) (x := x / y) (n := n) (w := w) (lv := lv) hA1 g1 q6 g3 g4 g5 g6 (by rw [hq]; exact hqn) (zk_dh_ok g4 q5 (by omega) hy h0)
          obtain ⟨j1, j2, j3, j4, j5, j6⟩ := hg
          have hsym : (x / y).toInt = s' B.length := by
            obtain ⟨-, hA1⟩ := zz_cond hA1
            cases hA1
            obtain ⟨z, z1, z2⟩ := j2.1.1 rfl
            cases z1
            have z2 : (x / y).toInt = zl_ev s' (zl_sym B.length) := z2
            rw [zl_sym_ev] at z2
            exact z2
          have he1 : zl_ev s' e1 = x.toInt := by
            rw [zl_ev_eq (t := s) (n := B.length) (zz_ble p2) hs]
            exact q5.symm
          have hcm : c * s' B.length = x.toInt.tdiv c * c := by rw [← hsym, hq, Int.mul_comm]
          refine ⟨s', _, ze_idiv hyn rfl, rfl, ⟨j1, j2, j3, j4, fun e he => ?_, j6⟩, hs⟩
          rcases List.mem_cons.mp he with e0 | he
          · rw [e0, zl_sub_ev, zl_mul_ev, zl_sym_ev, he1]
            omega
          · rcases List.mem_cons.mp he with e0 | he
            · rw [e0, zl_sub_ev, zl_add_ev, zl_mul_ev, zl_sym_ev, zl_con_ev, he1]
              omega
            · exact j5 e he
        · cases h
    · cases h
  · cases h
/-- the references of a row, one by one -/
def zk_sa (A : zk_A) (T : List zk_V) (hs : List Nat) (e : zl_E) (n : Nat) : Int → List (Nat × Nat × Int × Int) → List (Nat × zk_A)
  | _, [] => []
  | v, q :: qs => (zk_and A ((match q.2.1 with | 0 => (3, 0, zl_con 0) | m + 1 => (2, m, zl_con 0)) :: T) hs [zl_sub e (zl_con v), zl_sub (zl_con v) e]).map (fun B => (n, B)) ++ zk_sa A T hs e n (v + 1) qs
theorem zk_sa_in {A : zk_A} {T : List zk_V} {hs : List Nat} {e : zl_E} {n : Nat} : ∀ {qs : List (Nat × Nat × Int × Int)} {v : Int} {i : Nat} {q : Nat × Nat × Int × Int}, qs[i]? = some q → ∀ A' ∈ zk_and A ((match q.2.1 with | 0 => (3, 0, zl_con 0) | m + 1 => (2, m, zl_con 0)) :: T) hs [zl_sub e (zl_con (v + (i : Int))), zl_sub (zl_con (v + (i : Int))) e], (n, A') ∈ zk_sa A T hs e n v qs
  | [], _, _, _, h, _, _ => by cases h
  | u :: qs, v, 0, q, h, A', hA => by
    cases h
    have e0 : v + ((0 : Nat) : Int) = v := by omega
    rw [e0] at hA
    exact List.mem_append_left _ (List.mem_map.mpr ⟨A', hA, rfl⟩)
  | u :: qs, v, i + 1, q, h, A', hA => by
    have e0 : v + ((i + 1 : Nat) : Int) = v + 1 + (i : Int) := by omega
    rw [e0] at hA
    exact List.mem_append_right _ (zk_sa_in (qs := qs) (v := v + 1) (i := i) h A' hA)
def zt_aldA (HT : List (List zk_H)) (h0 h1 h2 : List Nat) (t n : Nat) (A : zk_A) : Option (List (Nat × zk_A)) := match A.2.1 with
  | (0, _, e) :: (2, i, _) :: T => match zk_rs HT 2 t i with
    | some (len, _, _) => cond (zk_ix A h1 h2 e len && Nat.beq (zk_h HT i).2.2.2.2.2.length len) (some (zk_sa A T h0 e n 0 (zk_h HT i).2.2.2.2.2)) none
    | none => none
  | _ => none
theorem zt_aldA_ok {c : Nat} {HT : List (List zk_H)} {I : zz_W → Prop} (hI : ∀ w, I w → zk_I c HT w) {A : zk_A} {R : List (Nat × zk_A)} {h0 h1 h2 : List Nat} {t n : Nat} (h : zt_aldA HT h0 h1 h2 t n A = some R) : zk_R I (za_aldA t n) A R := by
  obtain ⟨L, T0, F, B, C⟩ := A
  unfold zt_aldA at h
  split at h
  · rename_i d1 e i e0 T hT
    have hT : T0 = (0, d1, e) :: (2, i, e0) :: T := hT
    subst hT
    split at h
    · rename_i len lo hi hrs
      obtain ⟨hb, h⟩ := zz_cond h
      obtain ⟨b1, b2⟩ := zz_and hb
      cases h
      intro K s f hG
      obtain ⟨p, lv, st, w⟩ := f
      obtain ⟨g1, g2, g3, g4, g5, g6⟩ := hG
      obtain ⟨j, st1, q1, q2, q3⟩ := zk_st_int g2 rfl
      obtain ⟨v, st2, q4, q5, q6⟩ := zk_st_cons q3
      have e3 : v = .ref i := q5.2.2.1 rfl
      subst e3
      have hst : st = .int j :: .ref i :: st2 := by rw [← q4]; exact q1
      subst hst
      have q2 : j.toInt = zl_ev s e := q2
      have hj := zk_ix_ok b1 g4 g5 q2
      obtain ⟨o1, o2, o3, o4, o5, o6⟩ := zk_rs_ok hrs (by decide) (hI _ g6)
      obtain ⟨c1, -⟩ := zz_and b1
      have c1 := zl_en_ok g4 g5 c1
      have hn := zk_nI (x := j) (by omega)
      have hlen : zz_nI j < (zk_h HT i).2.2.2.2.2.length := by rw [zz_beq b2]; exact hj
      have hq : (zk_h HT i).2.2.2.2.2[zz_nI j]? = some (zk_h HT i).2.2.2.2.2[zz_nI j] := List.getElem?_eq_getElem hlen
      obtain ⟨-, -, -, -, -, hc2, -⟩ := (hI _ g6).2.2.2 i (by omega)
      have hc2 := hc2 o2 _ _ hq
      generalize (zk_h HT i).2.2.2.2.2[zz_nI j] = q at hq hc2
      have hcs : zk_cs s [zl_sub e (zl_con (0 + (zz_nI j : Int))), zl_sub (zl_con (0 + (zz_nI j : Int))) e] := by
        intro x hx
        rcases List.mem_cons.mp hx with ex | hx
        · rw [ex, zl_sub_ev, zl_con_ev]; omega
        · rw [List.mem_singleton.mp hx, zl_sub_ev, zl_con_ev]; omega
      cases hm : q.2.1 with
      | zero =>
        rw [hm] at hc2
        obtain ⟨A', m1, m2, m3⟩ := zk_and_ok (I := I) (A := (L, (0, d1, e) :: (2, i, e0) :: T, F, B, C)) (T := (3, 0, zl_con 0) :: T) (hs := h0) (n := n) (w := w) (lv := lv) (r := .null :: st2) g1 ⟨zk_v_null, q6⟩ g3 g4 g5 g6 hcs
        refine ⟨s, (n, lv, .null :: st2, w), (n, A'), ?_, zk_sa_in hq A' (by rw [hm]; exact m1), rfl, m2, m3, fun _ _ => rfl⟩
        show cond (zz_ir w i 2 t (zz_nI j)) (Nat.casesOn (motive := fun _ => Option zz_F) (zz_at 32 (zz_g w i).2.2.2 (zz_nI j)) (some (n, lv, .null :: st2, w)) (fun v => some (n, lv, .ref v :: st2, w))) none = _
        rw [o6 _ hj, hc2]
        rfl
      | succ m =>
        rw [hm] at hc2
        obtain ⟨A', m1, m2, m3⟩ := zk_and_ok (I := I) (A := (L, (0, d1, e) :: (2, i, e0) :: T, F, B, C)) (T := (2, m, zl_con 0) :: T) (hs := h0) (n := n) (w := w) (lv := lv) (r := .ref m :: st2) g1 ⟨zk_v_ref, q6⟩ g3 g4 g5 g6 hcs
        refine ⟨s, (n, lv, .ref m :: st2, w), (n, A'), ?_, zk_sa_in hq A' (by rw [hm]; exact m1), rfl, m2, m3, fun _ _ => rfl⟩
        show cond (zz_ir w i 2 t (zz_nI j)) (Nat.casesOn (motive := fun _ => Option zz_F) (zz_at 32 (zz_g w i).2.2.2 (zz_nI j)) (some (n, lv, .null :: st2, w)) (fun v => some (n, lv, .ref v :: st2, w))) none = _
        rw [o6 _ hj, hc2]
        rfl
    · cases h
  · cases h
end
