/-! EDGES: a frame of A is one of D too, with sums of A's symbols for D's; calls: what comes in and what goes out -/
noncomputable section
/-- what the new symbols are -/
def zk_u (s : Nat → Int) (t : List zl_E) (j : Nat) : Int := match t[j]? with
  | some q => zl_ev s q
  | none => 0
theorem zk_u_at {s : Nat → Int} {t : List zl_E} (j : Nat) (q : zl_E) (h : t[j]? = some q) : zk_u s t j = zl_ev s q := by
  unfold zk_u
  rw [h]
/-- a value of A is one of D -/
def zk_veq (t : List zl_E) (d a : zk_V) : Bool := Nat.beq d.1 a.1 && (cond (Nat.beq d.1 0) (Nat.ble (zl_mx d.2.2.2) t.length && zl_nul (zl_sub (zl_subst t d.2.2) a.2.2)) (cond (Nat.beq d.1 2) (Nat.beq d.2.1 a.2.1) (Nat.ble d.1 3 && cond (Nat.beq d.2.1 1) (Nat.beq a.2.1 1 && (Nat.ble (zl_mx d.2.2.2) t.length && zl_nul (zl_sub (zl_subst t d.2.2) a.2.2))) true)))
theorem zk_veq_ev {s : Nat → Int} {t : List zl_E} {d a : zk_V} (h : zk_veq t d a = true) : d.1 = a.1 ∧ (d.1 = 0 → zl_ev (zk_u s t) d.2.2 = zl_ev s a.2.2) ∧ (d.1 = 2 → d.2.1 = a.2.1) ∧ (d.1 = 1 → d.2.1 = 1 → a.2.1 = 1 ∧ zl_ev (zk_u s t) d.2.2 = zl_ev s a.2.2) := by
  obtain ⟨b1, b2⟩ := zz_and h
  refine ⟨zz_beq b1, fun h0 => ?_, fun h2 => ?_, fun h1 h2 => ?_⟩
  · rw [h0] at b2
    obtain ⟨b3, b4⟩ := zz_and (show (Nat.ble (zl_mx d.2.2.2) t.length && zl_nul (zl_sub (zl_subst t d.2.2) a.2.2)) = true from b2)
    have h1 := zl_nul_ok (s := s) b4
    rw [zl_sub_ev, zl_subst_ev (u := zk_u s t) (zz_ble b3) zk_u_at] at h1
    omega
  · rw [h2] at b2
    exact zz_beq (show Nat.beq d.2.1 a.2.1 = true from b2)
  · rw [h1] at b2
    obtain ⟨-, b3⟩ := zz_and (show (Nat.ble 1 3 && cond (Nat.beq d.2.1 1) (Nat.beq a.2.1 1 && (Nat.ble (zl_mx d.2.2.2) t.length && zl_nul (zl_sub (zl_subst t d.2.2) a.2.2))) true) = true from b2)
    rw [h2] at b3
    obtain ⟨b4, b5⟩ := zz_and (show (Nat.beq a.2.1 1 && (Nat.ble (zl_mx d.2.2.2) t.length && zl_nul (zl_sub (zl_subst t d.2.2) a.2.2))) = true from b3)
    obtain ⟨b6, b7⟩ := zz_and b5
    have h3 := zl_nul_ok (s := s) b7
    rw [zl_sub_ev, zl_subst_ev (u := zk_u s t) (zz_ble b6) zk_u_at] at h3
    exact ⟨zz_beq b4, by omega⟩
theorem zk_veq_v {s : Nat → Int} {t : List zl_E} {d a : zk_V} {v : Value} (h : zk_veq t d a = true) (hv : zk_v s a v) : zk_v (zk_u s t) d v := by
  obtain ⟨e1, e2, e3, e4⟩ := zk_veq_ev (s := s) h
  refine ⟨fun h0 => ?_, fun h1 => ?_, fun h2 => ?_, fun h3 => hv.2.2.2 (e1.symm.trans h3)⟩
  · obtain ⟨x, x1, x2⟩ := hv.1 (e1.symm.trans h0)
    exact ⟨x, x1, by rw [x2, e2 h0]⟩
  · obtain ⟨x, x1, x2⟩ := hv.2.1 (e1.symm.trans h1)
    exact ⟨x, x1, fun h2 => by
      obtain ⟨e5, e6⟩ := e4 h1 h2
      rw [x2 e5, e6]⟩
  · rw [hv.2.2.1 (e1.symm.trans h2), e3 h2]
theorem zk_veq_n {s : Nat → Int} {t : List zl_E} {d a : zk_V} {n : Nat} (h : zk_veq t d a = true) (hv : zk_n s a n) : zk_n (zk_u s t) d n := by
  obtain ⟨e1, e2, e3, -⟩ := zk_veq_ev (s := s) h
  refine ⟨fun h0 => ?_, fun h2 => ?_, fun h3 => hv.2.2 (e1.symm.trans h3)⟩
  · rw [hv.1 (e1.symm.trans h0), e2 h0]
  · rw [hv.2.1 (e1.symm.trans h2), e3 h2]
def zk_teq (t : List zl_E) : List zk_V → List zk_V → Bool
  | [], [] => true
  | d :: ds, a :: as => zk_veq t d a && zk_teq t ds as
  | _, _ => false
theorem zk_teq_ok {s : Nat → Int} {t : List zl_E} : ∀ {D A : List zk_V} {st : List Value}, zk_teq t D A = true → zk_st s A st → zk_st (zk_u s t) D st
  | [], [], [], _, _ => trivial
  | [], [], _ :: _, _, h => h.elim
  | [], _ :: _, _, h, _ => by cases h
  | _ :: _, [], _, h, _ => by cases h
  | d :: ds, a :: as, [], _, h => h.elim
  | d :: ds, a :: as, v :: vs, h, h2 => by
    obtain ⟨b1, b2⟩ := zz_and h
    exact ⟨zk_veq_v b1 h2.1, zk_teq_ok b2 h2.2⟩
def zk_leq (t : List zl_E) (D A : List (Nat × zk_V)) : Bool := D.all (fun q => match zk_lk A q.1 with
  | some a => zk_veq t q.2 a
  | none => false)
def zk_feq (t : List zl_E) (D A : List ((Nat × Nat) × zk_V)) : Bool := D.all (fun q => match zk_fk A q.1.1 q.1.2 with
  | some a => zk_veq t q.2 a
  | none => false)
/-- the bounds: two hints each -/
def zk_bnd (B : List (Int × Int)) (C : List zl_E) : List (Int × Int) → List zl_E → List (List Nat) → Bool
  | [], [], _ => true
  | q :: qs, e :: es, h1 :: h2 :: hs => zl_en B C h1 (zl_sub e (zl_con q.1)) && (zl_en B C h2 (zl_sub (zl_con q.2) e) && zk_bnd B C qs es hs)
  | _, _, _ => false
theorem zk_bnd_ok {s : Nat → Int} {B : List (Int × Int)} {C : List zl_E} (hB : zl_in s B) (hC : zk_cs s C) : ∀ {Q : List (Int × Int)} {t : List zl_E} {hs : List (List Nat)}, zk_bnd B C Q t hs = true → Q.length = t.length ∧ ∀ (k : Nat) (q : Int × Int), Q[k]? = some q → q.1 ≤ zk_u s t k ∧ zk_u s t k ≤ q.2
  | [], [], _, _ => ⟨rfl, fun k q h => by cases h⟩
  | [], _ :: _, _, h => by cases h
  | _ :: _, [], _, h => by cases h
  | _ :: _, _ :: _, [], h => by cases h
  | _ :: _, _ :: _, [_], h => by cases h
  | q :: qs, e :: es, h1 :: h2 :: hs, h => by
    obtain ⟨b1, hb⟩ := zz_and h
    obtain ⟨b2, b3⟩ := zz_and hb
    have c1 := zl_en_ok hB hC b1
    have c2 := zl_en_ok hB hC b2
    rw [zl_sub_ev, zl_con_ev] at c1 c2
    obtain ⟨i1, i2⟩ := zk_bnd_ok hB hC b3
    refine ⟨by rw [List.length_cons, List.length_cons, i1], fun k q' hq => ?_⟩
    cases k with
    | zero =>
      cases hq
      show q.1 ≤ zl_ev s e ∧ zl_ev s e ≤ q.2
      constructor <;> omega
    | succ k => exact i2 k q' hq
/-- sums that are not below 0: a hint each -/
def zk_ens (B : List (Int × Int)) (C : List zl_E) (t : List zl_E) : List zl_E → List (List Nat) → Bool
  | [], _ => true
  | e :: es, h :: hs => Nat.ble (zl_mx e.2) t.length && (zl_en B C h (zl_subst t e) && zk_ens B C t es hs)
  | _, _ => false
theorem zk_ens_ok {s : Nat → Int} {B : List (Int × Int)} {C t : List zl_E} (hB : zl_in s B) (hC : zk_cs s C) : ∀ {E : List zl_E} {hs : List (List Nat)}, zk_ens B C t E hs = true → zk_cs (zk_u s t) E
  | [], _, _ => fun c hc => by cases hc
  | _ :: _, [], h => by cases h
  | e :: es, h1 :: hs, h => by
    obtain ⟨b1, hb⟩ := zz_and h
    obtain ⟨b2, b3⟩ := zz_and hb
    intro c hc
    rcases List.mem_cons.mp hc with hc | hc
    · subst hc
      have := zl_en_ok hB hC b2
      rw [zl_subst_ev (u := zk_u s t) (zz_ble b1) zk_u_at] at this
      exact this
    · exact zk_ens_ok hB hC b3 c hc
/-- hints of an edge: what D's symbols are, the bounds', the sums' -/
abbrev zk_Eh : Type := List zl_E × List (List Nat) × List (List Nat)
def zk_edge (A D : zk_A) (h : zk_Eh) : Bool :=
  zk_leq h.1 D.1 A.1 && (zk_teq h.1 D.2.1 A.2.1 && (zk_feq h.1 D.2.2.1 A.2.2.1 && (zk_bnd A.2.2.2.1 A.2.2.2.2 D.2.2.2.1 h.1 h.2.1 && zk_ens A.2.2.2.1 A.2.2.2.2 h.1 D.2.2.2.2 h.2.2)))
theorem zk_edge_ok {I : zz_W → Prop} {A D : zk_A} {h : zk_Eh} {s : Nat → Int} {f : zz_F} (he : zk_edge A D h = true) (hG : zk_G I s A f) : zk_G I (zk_u s h.1) D f ∧ D.2.2.2.1.length = h.1.length := by
  obtain ⟨b1, hb⟩ := zz_and he
  obtain ⟨b2, hb⟩ := zz_and hb
  obtain ⟨b3, hb⟩ := zz_and hb
  obtain ⟨b4, b5⟩ := zz_and hb
  obtain ⟨g1, g2, g3, g4, g5, g6⟩ := hG
  obtain ⟨i1, i2⟩ := zk_bnd_ok g4 g5 b4
  refine ⟨⟨fun q hq => ?_, zk_teq_ok b2 g2, fun q hq => ?_, i2, zk_ens_ok g4 g5 b5, g6⟩, i1⟩
  · have h1 := List.all_eq_true.mp b1 q hq
    split at h1
    · rename_i a ha
      obtain ⟨v, v1, v2⟩ := g1 _ (zk_lk_mem ha)
      exact ⟨v, v1, zk_veq_v h1 v2⟩
    · cases h1
  · have h1 := List.all_eq_true.mp b3 q hq
    split at h1
    · rename_i a ha
      exact zk_veq_n h1 (g3 _ (zk_fk_mem ha))
    · cases h1
/-- the first symbols stay -/
def zk_gh : Nat → Nat → List zl_E → Bool
  | 0, _, _ => true
  | m + 1, k, e :: es => zl_nul (zl_sub e (zl_sym k)) && zk_gh m (k + 1) es
  | _, _, _ => false
theorem zk_gh_ok {s : Nat → Int} : ∀ {m k : Nat} {t : List zl_E}, zk_gh m k t = true → ∀ j, j < m → zk_u s t j = s (k + j)
  | 0, _, _, _, j, hj => absurd hj (Nat.not_lt_zero _)
  | m + 1, k, [], h, _, _ => by cases h
  | m + 1, k, e :: es, h, j, hj => by
    obtain ⟨b1, b2⟩ := zz_and h
    have h1 := zl_nul_ok (s := s) b1
    rw [zl_sub_ev, zl_sym_ev] at h1
    cases j with
    | zero =>
      show zl_ev s e = s (k + 0)
      rw [Nat.add_zero]
      omega
    | succ j =>
      have := zk_gh_ok (s := s) b2 j (by omega)
      show zk_u s es j = s (k + (j + 1))
      rw [this]
      congr 1
      omega
end
