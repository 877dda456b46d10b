/-! ABSTRACT FRAMES, on: rests and quotients by what is above 0 -/
noncomputable section
def zt_iremV (A : zk_A) : Option zk_A := match A.2.1 with
  | (0, _, e2) :: (0, _, e1) :: r => match zl_ub A.2.2.2.1 e2 with
    | some u => cond (zl_pos A.2.2.2.1 (zl_sub e2 (zl_con 1))) (zk_new A r (cond (zl_pos A.2.2.2.1 e1) 0 (1 - u)) (u - 1)) none
    | none => none
  | _ => none
theorem zt_iremV_ok {I : zz_W → Prop} {A A' : zk_A} {n : Nat} (h : zt_iremV A = some A') : zk_S I (za_irem n) n A A' := by
  obtain ⟨L, T, F, B, C⟩ := A
  unfold zt_iremV at h
  split at h
  · rename_i k2 e2 k1 e1 r hT
    have hT : T = (0, k2, e2) :: (0, k1, e1) :: r := hT
    subst hT
    split at h
    · rename_i u hu
      obtain ⟨h0, h⟩ := zz_cond h
      refine ⟨zk_new_len h, fun K s f hG => ?_⟩
      obtain ⟨p, lv, st, w⟩ := f
      obtain ⟨g1, g2, g3, g4, g5, g6⟩ := hG
      obtain ⟨y, st1, q1, q2, q3⟩ := zk_st_int g2 rfl
      obtain ⟨x, st2, q4, q5, q6⟩ := zk_st_int q3 rfl
      have hst : st = .int y :: .int x :: st2 := by rw [← q4]; exact q1
      subst hst
      have q2 : y.toInt = zl_ev s e2 := q2
      have hp := zl_pos_ok g4 h0
      rw [zl_sub_ev, zl_con_ev] at hp
      have hle := zl_ub_ok g4 hu
      have hc : 0 < y.toInt := by omega
      have hm := zk_rem (x := x) (y := y) rfl hc
      have hlt := Int.tmod_lt_of_pos x.toInt hc
      have hgt : -y.toInt < x.toInt.tmod y.toInt := by
        have h1 := Int.tmod_lt_of_pos (-x.toInt) hc
        rw [Int.neg_tmod] at h1
        omega
      have hy0 : ¬ y = 0 := by
        intro e
        rw [e] at hc
        have : (0 : Int32).toInt = 0 := rfl
        omega
      obtain ⟨-, s', hg, hs⟩ := zk_new_ok (I := I) (x := x - x / y * y) (n := n) (w := w) (lv := lv) h g1 q6 g3 g4 g5 g6 (by
        rw [hm]
        cases hq : zl_pos B e1 with
        | true =>
          have h1 := zl_pos_ok g4 hq
          have q5 : x.toInt = zl_ev s e1 := q5
          exact Int.tmod_nonneg _ (by omega)
        | false =>
          show 1 - u ≤ _
          omega) (by rw [hm]; omega)
      exact ⟨s', _, ze_irem hy0 rfl, rfl, hg, hs⟩
    · cases h
  · cases h
/-- by what is below 0 -/
def zt_qN (A : zk_A) : Option zk_A := match A.2.1 with
  | (0, _, e2) :: (0, _, _) :: r => cond (zl_pos A.2.2.2.1 (zl_sub (zl_con (-1)) e2)) (zk_new A r (-2147483648) 2147483647) none
  | _ => none
theorem zt_qN_ok {I : zz_W → Prop} {A A' : zk_A} {n : Nat} {act : zz_A} {g : Int32 → Int32 → Int32} (ha : ∀ (K : zz_K) (p : Nat) (lv : List (Nat × Value)) (x y : Int32) (st : List Value) (w : zz_W), ¬ y = 0 → act K (p, lv, .int y :: .int x :: st, w) = some (n, lv, .int (g x y) :: st, w)) (h : zt_qN A = some A') : zk_S I act n A A' := by
  obtain ⟨L, T, F, B, C⟩ := A
  unfold zt_qN at h
  split at h
  · rename_i k2 e2 k1 e1 r hT
    have hT : T = (0, k2, e2) :: (0, k1, e1) :: r := hT
    subst hT
    obtain ⟨h0, h⟩ := zz_cond h
    refine ⟨zk_new_len h, fun K s f hG => ?_⟩
    obtain ⟨p, lv, st, w⟩ := f
    obtain ⟨g1, g2, g3, g4, g5, g6⟩ := hG
    obtain ⟨y, st1, q1, q2, q3⟩ := zk_st_int g2 rfl
    obtain ⟨x, st2, q4, q5, q6⟩ := zk_st_int q3 rfl
    have hst : st = .int y :: .int x :: st2 := by rw [← q4]; exact q1
    subst hst
    have q2 : y.toInt = zl_ev s e2 := q2
    have hp := zl_pos_ok g4 h0
    rw [zl_sub_ev, zl_con_ev] at hp
    have hy0 : ¬ y = 0 := by
      intro e
      rw [e] at q2
      have : (0 : Int32).toInt = 0 := rfl
      omega
    obtain ⟨-, s', hg, hs⟩ := zk_new_ok (I := I) (x := g x y) (n := n) (w := w) (lv := lv) h g1 q6 g3 g4 g5 g6 (zk_lo _) (zk_hi _)
    exact ⟨s', _, ha K p lv x y st2 w hy0, rfl, hg, hs⟩
  · cases h
/-- by a number, else by what is above 0, else by what is below 0 -/
def zt_irem2 (A : zk_A) : Option zk_A := match zt_irem A with
  | some B => some B
  | none => match zt_iremV A with
    | some B => some B
    | none => zt_qN A
theorem zt_irem2_ok {I : zz_W → Prop} {A A' : zk_A} {n : Nat} (h : zt_irem2 A = some A') : zk_S I (za_irem n) n A A' := by
  unfold zt_irem2 at h
  split at h
  · rename_i B hB
    cases h
    exact zt_irem_ok hB
  · split at h
    · rename_i B hB
      cases h
      exact zt_iremV_ok hB
    · exact zt_qN_ok (g := fun x y => x - x / y * y) (fun K p lv x y st w hy => ze_irem hy rfl) h
def zt_idivV (A : zk_A) : Option zk_A := match A.2.1 with
  | (0, _, e2) :: (0, _, _) :: r => cond (zl_pos A.2.2.2.1 (zl_sub e2 (zl_con 1))) (zk_new A r (-2147483648) 2147483647) none
  | _ => none
theorem zt_idivV_ok {I : zz_W → Prop} {A A' : zk_A} {n : Nat} (h : zt_idivV A = some A') : zk_S I (za_idiv n) n A A' := by
  obtain ⟨L, T, F, B, C⟩ := A
  unfold zt_idivV at h
  split at h
  · rename_i k2 e2 k1 e1 r hT
    have hT : T = (0, k2, e2) :: (0, k1, e1) :: r := hT
    subst hT
    obtain ⟨h0, h⟩ := zz_cond h
    refine ⟨zk_new_len h, fun K s f hG => ?_⟩
    obtain ⟨p, lv, st, w⟩ := f
    obtain ⟨g1, g2, g3, g4, g5, g6⟩ := hG
    obtain ⟨y, st1, q1, q2, q3⟩ := zk_st_int g2 rfl
    obtain ⟨x, st2, q4, q5, q6⟩ := zk_st_int q3 rfl
    have hst : st = .int y :: .int x :: st2 := by rw [← q4]; exact q1
    subst hst
    have q2 : y.toInt = zl_ev s e2 := q2
    have hp := zl_pos_ok g4 h0
    rw [zl_sub_ev, zl_con_ev] at hp
    have hy0 : ¬ y = 0 := by
      intro e
      rw [e] at q2
      have : (0 : Int32).toInt = 0 := rfl
      omega
    obtain ⟨-, s', hg, hs⟩ := zk_new_ok (I := I) (x := x / y) (n := n) (w := w) (lv := lv) h g1 q6 g3 g4 g5 g6 (zk_lo _) (zk_hi _)
    exact ⟨s', _, ze_idiv hy0 rfl, rfl, hg, hs⟩
  · cases h
def zt_idiv2 (A : zk_A) : Option zk_A := match zt_idiv A with
  | some B => some B
  | none => match zt_idivV A with
    | some B => some B
    | none => zt_qN A
theorem zt_idiv2_ok {I : zz_W → Prop} {A A' : zk_A} {n : Nat} (h : zt_idiv2 A = some A') : zk_S I (za_idiv n) n A A' := by
  unfold zt_idiv2 at h
  split at h
  · rename_i B hB
    cases h
    exact zt_idiv_ok hB
  · split at h
    · rename_i B hB
      cases h
      exact zt_idivV_ok hB
    · exact zt_qN_ok (g := fun x y => x / y) (fun K p lv x y st w hy => ze_idiv hy rfl) h
/-- exact, by a number that the hints name: the rest is what was there less so many times the number -/
def zt_irem3 (hs : List (List Nat)) (A : zk_A) : Option zk_A := match (hs.getD 0 []).getD 0 0 with
  | 0 => zt_irem2 A
  | k + 1 => match A.2.1 with
    | (0, _, e2) :: (0, _, e1) :: r => cond ((zl_en A.2.2.2.1 A.2.2.2.2 (hs.getD 1 []) (zl_sub e2 (zl_con ((k : Int) + 1))) && zl_en A.2.2.2.1 A.2.2.2.2 (hs.getD 2 []) (zl_sub (zl_con ((k : Int) + 1)) e2)) && (zl_en A.2.2.2.1 A.2.2.2.2 (hs.getD 3 []) e1 && Nat.ble (zl_mx e1.2) A.2.2.2.1.length))
        (match zk_new A r 0 2147483647 with
          | some B => some (B.1, (0, 0, zl_sub e1 (zl_mul ((k : Int) + 1) (zl_sym A.2.2.2.1.length))) :: r, B.2.2.1, B.2.2.2.1, zl_sub e1 (zl_mul ((k : Int) + 1) (zl_sym A.2.2.2.1.length)) :: zl_sub (zl_add (zl_mul ((k : Int) + 1) (zl_sym A.2.2.2.1.length)) (zl_con k)) e1 :: B.2.2.2.2)
          | none => none) none
    | _ => none
theorem zt_irem3_ok {I : zz_W → Prop} {A A' : zk_A} {n : Nat} {hs : List (List Nat)} (h : zt_irem3 hs A = some A') : zk_S I (za_irem n) n A A' := by
  obtain ⟨L, T, F, B, C⟩ := A
  unfold zt_irem3 at h
  split at h
  · exact zt_irem2_ok h
  · rename_i k _
    split at h
    · rename_i k2 e2 k1 e1 r hT
      have hT : T = (0, k2, e2) :: (0, k1, e1) :: r := hT
      subst hT
      obtain ⟨hb, h⟩ := zz_cond h
      obtain ⟨hb1, hb2⟩ := zz_and hb
      obtain ⟨b1, b2⟩ := zz_and hb1
      obtain ⟨b3, b4⟩ := zz_and hb2
      split at h
      · rename_i A1 hA1
        cases h
        have hl := zk_new_len hA1
        refine ⟨hl, fun K s f hG => ?_⟩
        obtain ⟨p, lv, st, w⟩ := f
        obtain ⟨g1, g2, g3, g4, g5, g6⟩ := hG
        obtain ⟨y, st1, q1, q2, q3⟩ := zk_st_int g2 rfl
        obtain ⟨x, st2, q4, q5, q6⟩ := zk_st_int q3 rfl
        have hst : st = .int y :: .int x :: st2 := by rw [← q4]; exact q1
        subst hst
        have q5 : x.toInt = zl_ev s e1 := q5
        have q2 : y.toInt = zl_ev s e2 := q2
        have c1 := zl_en_ok g4 g5 b1
        have c2 := zl_en_ok g4 g5 b2
        have c3 := zl_en_ok g4 g5 b3
        rw [zl_sub_ev, zl_con_ev] at c1 c2
        generalize hc : (k : Int) + 1 = c at c1 c2 ⊢
        have h0 : 0 < c := by omega
        have hy : y.toInt = c := by omega
        have hyn : ¬ y = 0 := by
          intro e
          rw [e] at hy
          have : (0 : Int32).toInt = 0 := rfl
          omega
        have hq := zk_div (x := x) hy h0
        have hd : x.toInt.tdiv c * c + x.toInt.tmod c = x.toInt := Int.tdiv_mul_add_tmod x.toInt c
        have hm0 := Int.tmod_nonneg (a := x.toInt) c (by omega)
        have hm1 := Int.tmod_lt_of_pos x.toInt h0
        have hqn := Int.tdiv_nonneg (a := x.toInt) (b := c) (by omega) (Int.le_of_lt h0)
        have hm := zk_rem (x := x) (y := y) hy h0
        obtain ⟨-, s', hg, hs'⟩ := zk_new_ok (I := I) (x := x / y) (n := n) (w := w) (lv := lv) hA1 g1 q6 g3 g4 g5 g6 (by rw [hq]; exact hqn) (zk_hi _)
        obtain ⟨j1, j2, j3, j4, j5, j6⟩ := hg
        have hA1T : A1.2.1 = (0, 0, zl_sym B.length) :: r := by
          obtain ⟨-, hA1⟩ := zz_cond hA1
          cases hA1
          rfl
        rw [hA1T] at j2
        have hsym : (x / y).toInt = s' B.length := by
          obtain ⟨z, z1, z2⟩ := j2.1.1 rfl
          cases z1
          have z2 : (x / y).toInt = zl_ev s' (zl_sym B.length) := z2
          rw [zl_sym_ev] at z2
          exact z2
        have he1 : zl_ev s' e1 = x.toInt := by
          rw [zl_ev_eq (t := s) (n := B.length) (zz_ble b4) hs']
          exact q5.symm
        have hcm : c * s' B.length = x.toInt.tdiv c * c := by rw [← hsym, hq, Int.mul_comm]
        refine ⟨s', _, ze_irem hyn rfl, rfl, ⟨j1, ⟨zk_v_int ?_, j2.2⟩, j3, j4, fun e he => ?_, j6⟩, hs'⟩
        · rw [hm, zl_sub_ev, zl_mul_ev, zl_sym_ev, he1]
          show x.toInt.tmod c = x.toInt - c * s' B.length
          omega
        · rcases List.mem_cons.mp he with e0 | he
          · rw [e0, zl_sub_ev, zl_mul_ev, zl_sym_ev, he1]
            show 0 ≤ x.toInt - c * s' B.length
            omega
          · rcases List.mem_cons.mp he with e0 | he
            · rw [e0, zl_sub_ev, zl_add_ev, zl_mul_ev, zl_sym_ev, zl_con_ev, he1]
              show 0 ≤ c * s' B.length + (k : Int) - x.toInt
              omega
            · exact j5 e he
      · cases h
    · cases h
end
