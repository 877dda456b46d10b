/-! ABSTRACT FRAMES, on: rests and quotients by what is above 0 -/
noncomputable section
def zt_iremV (A : zk_A) : Option zk_A := match A.2.1 with
  | (0, _, e2) :: (0, _, e1) :: r => match zl_ub A.2.2.2.1 e2 with
    | some u => cond (zl_pos A.2.2.2.1 (zl_sub e2 (zl_con 1))) (zk_new A r (cond (zl_pos A.2.2.2.1 e1) 0 (1 - u)) (u - 1)) none
    | none => none
  | _ => none
theorem zt_iremV_ok {I : zz_W → Prop} {A A' : zk_A} {n : Nat} (h : zt_iremV A = some A') : zk_S I (za_irem n) n A A' := by
  obtain ⟨L, T, F, B, C⟩ := A
  unfold zt_iremV at h
  split at h
  · rename_i k2 e2 k1 e1 r hT
    have hT : T = (0, k2, e2) :: (0, k1, e1) :: r := hT
    subst hT
    split at h
    · rename_i u hu
      obtain ⟨h0, h⟩ := zz_cond h
      refine ⟨zk_new_len h, fun K s f hG => ?_⟩
      obtain ⟨p, lv, st, w⟩ := f
      obtain ⟨g1, g2, g3, g4, g5, g6⟩ := hG
      obtain ⟨y, st1, q1, q2, q3⟩ := zk_st_int g2 rfl
      obtain ⟨x, st2, q4, q5, q6⟩ := zk_st_int q3 rfl
      have hst : st = .int y :: .int x :: st2 := by rw [← q4]; exact q1
      subst hst
      have q2 : y.toInt = zl_ev s e2 := q2
      have hp := zl_pos_ok g4 h0
      rw [zl_sub_ev, zl_con_ev] at hp
      have hle := zl_ub_ok g4 hu
      have hc : 0 < y.toInt := by omega
      have hm := zk_rem (x := x) (y := y) rfl hc
      have hlt := Int.tmod_lt_of_pos x.toInt hc
      have hgt : -y.toInt < x.toInt.tmod y.toInt := by
        have h1 := Int.tmod_lt_of_pos (-x.toInt) hc
        rw [Int.neg_tmod] at h1
        omega
      have hy0 : ¬ y = 0 := by
        intro e
        rw [e] at hc
        have : (0 : Int32).toInt = 0 := rfl
        omega
      obtain ⟨-, s', hg, hs⟩ := zk_new_ok (I := I) (x := x - x / y * y) (n := n) (w := w) (lv := lv) h g1 q6 g3 g4 g5 g6 (by
        rw [hm]
        cases hq : zl_pos B e1 with
        | true =>
          have h1 := zl_pos_ok g4 hq
          have q5 : x.toInt = zl_ev s e1 := q5
          exact Int.tmod_nonneg _ (by omega)
        | false =>
          show 1 - u ≤ _
          omega) (by rw [hm]; omega)
      exact ⟨s', _, ze_irem hy0 rfl, rfl, hg, hs⟩
    · cases h
  · cases h
/-- by a number, else by what is above 0 -/
def zt_irem2 (A : zk_A) : Option zk_A := match zt_irem A with
  | some B => some B
  | none => zt_iremV A
theorem zt_irem2_ok {I : zz_W → Prop} {A A' : zk_A} {n : Nat} (h : zt_irem2 A = some A') : zk_S I (za_irem n) n A A' := by
  unfold zt_irem2 at h
  split at h
  · rename_i B hB
    cases h
    exact zt_irem_ok hB
  · exact zt_iremV_ok h
def zt_idivV (A : zk_A) : Option zk_A := match A.2.1 with
  | (0, _, e2) :: (0, _, _) :: r => cond (zl_pos A.2.2.2.1 (zl_sub e2 (zl_con 1))) (zk_new A r (-2147483648) 2147483647) none
  | _ => none
theorem zt_idivV_ok {I : zz_W → Prop} {A A' : zk_A} {n : Nat} (h : zt_idivV A = some A') : zk_S I (za_idiv n) n A A' := by
  obtain ⟨L, T, F, B, C⟩ := A
  unfold zt_idivV at h
  split at h
  · rename_i k2 e2 k1 e1 r hT
    have hT : T = (0, k2, e2) :: (0, k1, e1) :: r := hT
    subst hT
    obtain ⟨h0, h⟩ := zz_cond h
    refine ⟨zk_new_len h, fun K s f hG => ?_⟩
    obtain ⟨p, lv, st, w⟩ := f
    obtain ⟨g1, g2, g3, g4, g5, g6⟩ := hG
    obtain ⟨y, st1, q1, q2, q3⟩ := zk_st_int g2 rfl
    obtain ⟨x, st2, q4, q5, q6⟩ := zk_st_int q3 rfl
    have hst : st = .int y :: .int x :: st2 := by rw [← q4]; exact q1
    subst hst
    have q2 : y.toInt = zl_ev s e2 := q2
    have hp := zl_pos_ok g4 h0
    rw [zl_sub_ev, zl_con_ev] at hp
    have hy0 : ¬ y = 0 := by
      intro e
      rw [e] at q2
      have : (0 : Int32).toInt = 0 := rfl
      omega
    obtain ⟨-, s', hg, hs⟩ := zk_new_ok (I := I) (x := x / y) (n := n) (w := w) (lv := lv) h g1 q6 g3 g4 g5 g6 (zk_lo _) (zk_hi _)
    exact ⟨s', _, ze_idiv hy0 rfl, rfl, hg, hs⟩
  · cases h
def zt_idiv2 (A : zk_A) : Option zk_A := match zt_idiv A with
  | some B => some B
  | none => zt_idivV A
theorem zt_idiv2_ok {I : zz_W → Prop} {A A' : zk_A} {n : Nat} (h : zt_idiv2 A = some A') : zk_S I (za_idiv n) n A A' := by
  unfold zt_idiv2 at h
  split at h
  · rename_i B hB
    cases h
    exact zt_idiv_ok hB
  · exact zt_idivV_ok h
end
