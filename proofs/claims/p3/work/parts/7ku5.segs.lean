/-! SEGMENTS of items (function 31): put together, an item more, what jumps -/
noncomputable section
def zg_S (f g h : Int → Int) (a b d u0 u1 l0 l1 x : Int) : Prop := 1 ≤ x ∨ 3200 ≤ b ∨ 749 ≤ l1 ∨ (a ≤ b ∧ ∀ i, a ≤ i → i < b → zg_it f g h a b d u0 u1 l0 l1 i)
theorem zg_it_m {f g h : Int → Int} {a b d u0 u1 l0 l1 a' b' d' u0' u1' l0' l1' j : Int} (ha : a' ≤ a) (hb : b ≤ b') (hd : d' ≤ d) (p0 : u0' ≤ u0) (p1 : u1 ≤ u1') (k0 : l0' ≤ l0) (k1 : l1 ≤ l1') (hi : zg_it f g h a b d u0 u1 l0 l1 j) : zg_it f g h a' b' d' u0' u1' l0' l1' j := by
  obtain ⟨h1, h2, h3, h4, h5, h6, h7, h8⟩ := hi
  refine ⟨by omega, fun c => ?_, fun c => ?_, fun c => ?_, fun c => ?_, fun c => ?_, fun c => ?_, h8⟩
  · obtain ⟨x1, x2, x3⟩ := h2 c
    exact ⟨by omega, by omega, x3⟩
  · obtain ⟨x1, x2, x3⟩ := h3 c
    exact ⟨by omega, by omega, x3⟩
  · obtain ⟨x1, x2, x3⟩ := h4 c
    exact ⟨by omega, by omega, x3⟩
  · obtain ⟨x1, x2, x3⟩ := h5 c
    exact ⟨by omega, x2, x3⟩
  · obtain ⟨x1, m, x2, x3, x4, x5, x6⟩ := h6 c
    exact ⟨x1, m, by omega, x3, x4, x5, x6⟩
  · obtain ⟨x1, x2, x3, x4, x5, x6⟩ := h7 c
    exact ⟨x1, by omega, by omega, by omega, by omega, x6⟩
theorem zg_x {w : zz_W} {j : Int} : zk_xe w 2000031 j = zh_b (zg_sg (zh_e w 61) (zh_e w 20) (zh_e w 22) j) := by
  rw [show (2000031 : Nat) = 2000000 + 31 from rfl, zk_xe_h]
  rfl
/-- a segment that is known: its digits -/
def zk_sgA (X : zk_St) (i : Nat) : Option (List zl_E) := match X.2.1[i]? with
  | some x => cond (Nat.beq x.1 2000031 && (zl_gq X.1.2.2.2.1 X.1.2.2.2.2 (zl_sub x.2.2 (zl_con 1)) && zl_gq X.1.2.2.2.1 X.1.2.2.2.2 (zl_sub (zl_con 1) x.2.2))) (zl_digs X.1.2.2.2.1 X.1.2.2.2.2 8 x.2.1) none
  | none => none
theorem zk_sgA_ok {X : zk_St} {i : Nat} {A : List zl_E} {s : Nat → Int} {w : zz_W} (h : zk_sgA X i = some A) (hB : zl_in s X.1.2.2.2.1) (hC : zk_cs s X.1.2.2.2.2) (hE : zk_eF s X.2.1 w) : zg_S (zh_e w 61) (zh_e w 20) (zh_e w 22) (zl_ev s (A.getD 0 (zl_con 0))) (zl_ev s (A.getD 1 (zl_con 0))) (zl_ev s (A.getD 2 (zl_con 0))) (zl_ev s (A.getD 3 (zl_con 0))) (zl_ev s (A.getD 4 (zl_con 0))) (zl_ev s (A.getD 5 (zl_con 0))) (zl_ev s (A.getD 6 (zl_con 0))) (zl_ev s (A.getD 7 (zl_con 0))) := by
  unfold zk_sgA at h
  split at h
  · rename_i x hx
    obtain ⟨hb, h⟩ := zz_cond h
    obtain ⟨b1, hb⟩ := zz_and hb
    obtain ⟨b2, b3⟩ := zz_and hb
    have c2 := zl_gq_ok hB hC b2
    have c3 := zl_gq_ok hB hC b3
    rw [zl_sub_ev, zl_con_ev] at c2 c3
    have h1 := (hE x (List.mem_of_getElem? hx)).2
    rw [zz_beq b1, zg_x, show zl_ev s x.2.2 = 1 by omega] at h1
    have h2 := zh_b1' h1
    have hd := zl_digs_ok hB hC h
    unfold zg_sg at h2
    rw [hd 0 (by decide), hd 1 (by decide), hd 2 (by decide), hd 3 (by decide), hd 4 (by decide), hd 5 (by decide), hd 6 (by decide), hd 7 (by decide)] at h2
    exact h2
  · cases h
/-- a segment is known from here on -/
def zk_sgp (X : zk_St) (j : zl_E) (b : Bool) : Option zk_St := cond (b && zl_gq X.1.2.2.2.1 X.1.2.2.2.2 j) (some (X.1, (2000031, j, zl_con 1) :: X.2.1, X.2.2)) none
theorem zk_sgp_ok {PT : Nat → zz_W → Prop} {I : zz_W → Prop} {X Y : zk_St} {j : zl_E} {b : Bool} {R : List zl_E} {s : Nat → Int} {f : zz_F} (h : zk_sgp X j b = some Y) (hR : zl_digs X.1.2.2.2.1 X.1.2.2.2.2 8 j = some R) (hG : zk_G2 PT I s X f) (hS : b = true → zg_S (zh_e f.2.2.2 61) (zh_e f.2.2.2 20) (zh_e f.2.2.2 22) (zl_ev s (R.getD 0 (zl_con 0))) (zl_ev s (R.getD 1 (zl_con 0))) (zl_ev s (R.getD 2 (zl_con 0))) (zl_ev s (R.getD 3 (zl_con 0))) (zl_ev s (R.getD 4 (zl_con 0))) (zl_ev s (R.getD 5 (zl_con 0))) (zl_ev s (R.getD 6 (zl_con 0))) (zl_ev s (R.getD 7 (zl_con 0)))) : zk_G2 PT I s Y f ∧ X.1.2.2.2.1.length ≤ Y.1.2.2.2.1.length := by
  unfold zk_sgp at h
  obtain ⟨hb, h⟩ := zz_cond h
  cases h
  obtain ⟨b1, b2⟩ := zz_and hb
  obtain ⟨⟨g1, g2, g3, g4, g5, g6⟩, k1, k2⟩ := hG
  have hd := zl_digs_ok g4 g5 hR
  have h0 := zl_gq_ok g4 g5 b2
  refine ⟨⟨⟨g1, g2, g3, g4, g5, g6⟩, fun x hx => ?_, k2⟩, Nat.le_refl _⟩
  rcases List.mem_cons.mp hx with e | hx
  · subst e
    show 0 ≤ zl_ev s j ∧ zk_xe f.2.2.2 2000031 (zl_ev s j) = zl_ev s (zl_con 1)
    rw [zg_x, zl_con_ev]
    refine ⟨h0, zh_b1 ?_⟩
    have h2 := hS b1
    unfold zg_sg
    rw [hd 0 (by decide), hd 1 (by decide), hd 2 (by decide), hd 3 (by decide), hd 4 (by decide), hd 5 (by decide), hd 6 (by decide), hd 7 (by decide)]
    exact h2
  · exact k1 x hx
/-- what A says is said wider by R (but for where it begins and ends) -/
def zk_sgi (B : List (Int × Int)) (C : List zl_E) (A R : List zl_E) : Bool := zl_gq B C (zl_sub (A.getD 2 (zl_con 0)) (R.getD 2 (zl_con 0))) && (zl_gq B C (zl_sub (A.getD 3 (zl_con 0)) (R.getD 3 (zl_con 0))) && (zl_gq B C (zl_sub (R.getD 4 (zl_con 0)) (A.getD 4 (zl_con 0))) && (zl_gq B C (zl_sub (A.getD 5 (zl_con 0)) (R.getD 5 (zl_con 0))) && (zl_gq B C (zl_sub (R.getD 6 (zl_con 0)) (A.getD 6 (zl_con 0))) && zl_gq B C (zl_sub (zl_mul 3001 (R.getD 7 (zl_con 0))) (A.getD 7 (zl_con 0)))))))
theorem zk_sgi_ok {B : List (Int × Int)} {C : List zl_E} {A R : List zl_E} {s : Nat → Int} (hB : zl_in s B) (hC : zk_cs s C) (h : zk_sgi B C A R = true) : (zl_ev s (R.getD 2 (zl_con 0))) ≤ (zl_ev s (A.getD 2 (zl_con 0))) ∧ (zl_ev s (R.getD 3 (zl_con 0))) ≤ (zl_ev s (A.getD 3 (zl_con 0))) ∧ (zl_ev s (A.getD 4 (zl_con 0))) ≤ (zl_ev s (R.getD 4 (zl_con 0))) ∧ (zl_ev s (R.getD 5 (zl_con 0))) ≤ (zl_ev s (A.getD 5 (zl_con 0))) ∧ (zl_ev s (A.getD 6 (zl_con 0))) ≤ (zl_ev s (R.getD 6 (zl_con 0))) ∧ (zl_ev s (A.getD 7 (zl_con 0))) ≤ 3001 * (zl_ev s (R.getD 7 (zl_con 0))) := by
  obtain ⟨h1, h⟩ := zz_and h
  obtain ⟨h2, h⟩ := zz_and h
  obtain ⟨h3, h⟩ := zz_and h
  obtain ⟨h4, h⟩ := zz_and h
  obtain ⟨h5, h6⟩ := zz_and h
  have c1 := zl_gq_ok hB hC h1
  have c2 := zl_gq_ok hB hC h2
  have c3 := zl_gq_ok hB hC h3
  have c4 := zl_gq_ok hB hC h4
  have c5 := zl_gq_ok hB hC h5
  have c6 := zl_gq_ok hB hC h6
  rw [zl_sub_ev] at c1 c2 c3 c4 c5 c6
  rw [zl_mul_ev] at c6
  omega
theorem zk_nul0 {s : Nat → Int} {a b : zl_E} (h : zl_nul (zl_sub a b) = true) : zl_ev s a = zl_ev s b := by
  have := zl_nul_ok (s := s) h
  rw [zl_sub_ev] at this
  omega
theorem zk_eke {s : Nat → Int} {w : zz_W} {E : List zk_E1} {r : Nat} {e v : zl_E} (hr : Nat.blt r 1000000 = true) (h : zk_ek E r e = some v) (hE : zk_eF s E w) : zh_e w r (zl_ev s e) = zl_ev s v := by
  have h1 := (zk_ek_ok h hE).2
  rw [zk_xe_r hr] at h1
  exact h1
/-- from nothing: empty, an excuse, all items are taken -/
def zk_sg5 (X : zk_St) (j : zl_E) : Option zk_St := match zl_digs X.1.2.2.2.1 X.1.2.2.2.2 8 j with
  | some R => zk_sgp X j (zl_nul (zl_sub (R.getD 1 (zl_con 0)) (R.getD 0 (zl_con 0))) || (zl_gq X.1.2.2.2.1 X.1.2.2.2.2 (zl_sub (R.getD 7 (zl_con 0)) (zl_con 1)) || (zl_gq X.1.2.2.2.1 X.1.2.2.2.2 (zl_sub (R.getD 1 (zl_con 0)) (zl_con 3200)) || zl_gq X.1.2.2.2.1 X.1.2.2.2.2 (zl_sub (R.getD 6 (zl_con 0)) (zl_con 749)))))
  | none => none
theorem zk_sg5_ok {PT : Nat → zz_W → Prop} {I : zz_W → Prop} {X Y : zk_St} {j : zl_E} {s : Nat → Int} {f : zz_F} (h : zk_sg5 X j = some Y) (hG : zk_G2 PT I s X f) : zk_G2 PT I s Y f ∧ X.1.2.2.2.1.length ≤ Y.1.2.2.2.1.length := by
  unfold zk_sg5 at h
  split at h
  · rename_i R hR
    refine zk_sgp_ok h hR hG (fun hb => ?_)
    obtain ⟨⟨g1, g2, g3, g4, g5, g6⟩, k1, k2⟩ := hG
    rcases Bool.or_eq_true_iff.mp hb with hb | hb
    · have e := zk_nul0 (s := s) hb
      exact Or.inr (Or.inr (Or.inr ⟨by omega, fun i i1 i2 => absurd i2 (by omega)⟩))
    · rcases Bool.or_eq_true_iff.mp hb with hb | hb
      · have := zl_gq_ok g4 g5 hb
        rw [zl_sub_ev, zl_con_ev] at this
        exact Or.inl (by omega)
      · rcases Bool.or_eq_true_iff.mp hb with hb | hb
        · have := zl_gq_ok g4 g5 hb
          rw [zl_sub_ev, zl_con_ev] at this
          exact Or.inr (Or.inl (by omega))
        · have := zl_gq_ok g4 g5 hb
          rw [zl_sub_ev, zl_con_ev] at this
          exact Or.inr (Or.inr (Or.inl (by omega)))
  · cases h
/-- a jump at p: its label's item is one of those from (R.getD 0 (zl_con 0)) up to (R.getD 1 (zl_con 0)) -/
def zk_sgj (X : zk_St) (R : List zl_E) (p : zl_E) : Bool := match zk_ek X.2.1 61 (zl_mul 2 p), zk_ek X.2.1 61 (zl_add (zl_mul 2 p) (zl_con 1)) with
  | some v, some o => match zk_ek X.2.1 22 o with
    | some t => match zk_ek X.2.1 61 (zl_mul 2 t) with
      | some m => (zl_nul (zl_sub v (zl_con 31)) || zl_nul (zl_sub v (zl_con 32))) && (zl_nul (zl_sub m (zl_con 33)) && (zl_gq X.1.2.2.2.1 X.1.2.2.2.2 (zl_sub t (R.getD 0 (zl_con 0))) && (zl_gq X.1.2.2.2.1 X.1.2.2.2.2 (zl_sub (zl_sub (R.getD 1 (zl_con 0)) (zl_con 1)) t) && (zl_gq X.1.2.2.2.1 X.1.2.2.2.2 (zl_sub o (R.getD 5 (zl_con 0))) && (zl_gq X.1.2.2.2.1 X.1.2.2.2.2 (zl_sub (zl_sub (R.getD 6 (zl_con 0)) (zl_con 1)) o) && zl_gq X.1.2.2.2.1 X.1.2.2.2.2 (zl_sub v (zl_mul 64 (R.getD 2 (zl_con 0)))))))))
      | none => false
    | none => false
  | _, _ => false
theorem zk_sgj_ok {X : zk_St} {R : List zl_E} {p : zl_E} {s : Nat → Int} {w : zz_W} (h : zk_sgj X R p = true) (hB : zl_in s X.1.2.2.2.1) (hC : zk_cs s X.1.2.2.2.2) (hE : zk_eF s X.2.1 w) : zg_it (zh_e w 61) (zh_e w 20) (zh_e w 22) (zl_ev s (R.getD 0 (zl_con 0))) (zl_ev s (R.getD 1 (zl_con 0))) (zl_ev s (R.getD 2 (zl_con 0))) (zl_ev s (R.getD 3 (zl_con 0))) (zl_ev s (R.getD 4 (zl_con 0))) (zl_ev s (R.getD 5 (zl_con 0))) (zl_ev s (R.getD 6 (zl_con 0))) (zl_ev s p) := by
  unfold zk_sgj at h
  split at h
  · rename_i v o hv ho
    split at h
    · rename_i t ht
      split at h
      · rename_i m hm
        obtain ⟨b1, h⟩ := zz_and h
        obtain ⟨b2, h⟩ := zz_and h
        obtain ⟨b3, h⟩ := zz_and h
        obtain ⟨b4, h⟩ := zz_and h
        obtain ⟨b5, h⟩ := zz_and h
        obtain ⟨b6, b7⟩ := zz_and h
        have hv := zk_eke rfl hv hE
        have ho := zk_eke rfl ho hE
        have ht := zk_eke rfl ht hE
        have hm := zk_eke rfl hm hE
        rw [zl_mul_ev] at hv hm
        rw [zl_add_ev, zl_mul_ev, zl_con_ev] at ho
        have c2 := zk_nul0 (s := s) b2
        rw [zl_con_ev] at c2
        have c3 := zl_gq_ok hB hC b3
        have c4 := zl_gq_ok hB hC b4
        have c5 := zl_gq_ok hB hC b5
        have c6 := zl_gq_ok hB hC b6
        have c7 := zl_gq_ok hB hC b7
        rw [zl_sub_ev] at c3 c4 c5 c6 c7
        rw [zl_sub_ev, zl_con_ev] at c4 c6
        rw [zl_mul_ev] at c7
        have hv3 : zl_ev s v = 31 ∨ zl_ev s v = 32 := by
          rcases Bool.or_eq_true_iff.mp b1 with b | b
          · have := zk_nul0 (s := s) b
            rw [zl_con_ev] at this
            exact Or.inl this
          · have := zk_nul0 (s := s) b
            rw [zl_con_ev] at this
            exact Or.inr this
        unfold zg_it
        rw [hv, ho, ht]
        refine ⟨by omega, fun c => absurd c (by omega), fun c => absurd c (by omega), fun c => absurd c (by omega), fun c => absurd c (by omega), fun c => absurd c (by omega), fun _ => ⟨by omega, by omega, by omega, by omega, by omega, by rw [hm]; exact c2⟩, fun c => absurd c (by omega)⟩
      · cases h
    · cases h
  · cases h
/-- pieces one behind the other: 0 a jump, i + 1 the segment i -/
def zk_sgc (X : zk_St) (R : List zl_E) : zl_E → List Nat → Bool
  | p, [] => zl_nul (zl_sub (R.getD 1 (zl_con 0)) p)
  | p, 0 :: l => zk_sgj X R p && zk_sgc X R (zl_add p (zl_con 1)) l
  | p, (i + 1) :: l => match zk_sgA X i with
    | some A => zl_nul (zl_sub (A.getD 0 (zl_con 0)) p) && (zk_sgi X.1.2.2.2.1 X.1.2.2.2.2 A R && zk_sgc X R (A.getD 1 (zl_con 0)) l)
    | none => false
theorem zk_sgc_ok {X : zk_St} {R : List zl_E} {s : Nat → Int} {w : zz_W} (hB : zl_in s X.1.2.2.2.1) (hC : zk_cs s X.1.2.2.2.2) (hE : zk_eF s X.2.1 w) (hx : (zl_ev s (R.getD 7 (zl_con 0))) = 0) (hr0 : (zl_ev s (R.getD 0 (zl_con 0))) ≤ 3200) : ∀ {l : List Nat} {p : zl_E}, zk_sgc X R p l = true → (zl_ev s (R.getD 0 (zl_con 0))) ≤ zl_ev s p → (3200 ≤ (zl_ev s (R.getD 1 (zl_con 0))) ∨ 749 ≤ (zl_ev s (R.getD 6 (zl_con 0)))) ∨ (zl_ev s p ≤ (zl_ev s (R.getD 1 (zl_con 0))) ∧ ∀ i, zl_ev s p ≤ i → i < (zl_ev s (R.getD 1 (zl_con 0))) → zg_it (zh_e w 61) (zh_e w 20) (zh_e w 22) (zl_ev s (R.getD 0 (zl_con 0))) (zl_ev s (R.getD 1 (zl_con 0))) (zl_ev s (R.getD 2 (zl_con 0))) (zl_ev s (R.getD 3 (zl_con 0))) (zl_ev s (R.getD 4 (zl_con 0))) (zl_ev s (R.getD 5 (zl_con 0))) (zl_ev s (R.getD 6 (zl_con 0))) i)
  | [], p, h, hp => by
    have e := zk_nul0 (s := s) h
    exact Or.inr ⟨by omega, fun i i1 i2 => absurd i2 (by omega)⟩
  | 0 :: l, p, h, hp => by
    obtain ⟨h1, h2⟩ := zz_and (show (zk_sgj X R p && zk_sgc X R (zl_add p (zl_con 1)) l) = true from h)
    have hj := zk_sgj_ok h1 hB hC hE
    have hr := zk_sgc_ok hB hC hE hx hr0 h2 (by rw [zl_add_ev, zl_con_ev]; omega)
    rw [zl_add_ev, zl_con_ev] at hr
    rcases hr with hr | ⟨r1, r2⟩
    · exact Or.inl hr
    · refine Or.inr ⟨by omega, fun i i1 i2 => ?_⟩
      by_cases e : i = zl_ev s p
      · rw [e]
        exact hj
      · exact r2 i (by omega) i2
  | (k + 1) :: l, p, h, hp => by
    have h : (match zk_sgA X k with
      | some A => zl_nul (zl_sub (A.getD 0 (zl_con 0)) p) && (zk_sgi X.1.2.2.2.1 X.1.2.2.2.2 A R && zk_sgc X R (A.getD 1 (zl_con 0)) l)
      | none => false) = true := h
    split at h
    · rename_i A hA
      obtain ⟨b1, h⟩ := zz_and h
      obtain ⟨b2, b3⟩ := zz_and h
      have e := zk_nul0 (s := s) b1
      obtain ⟨c2, c3, c4, c5, c6, c7⟩ := zk_sgi_ok hB hC b2
      rcases zk_sgA_ok hA hB hC hE with hS | hS | hS | ⟨s1, s2⟩
      · exact absurd hS (by omega)
      · rcases zk_sgc_ok hB hC hE hx hr0 b3 (by omega) with hr | ⟨r1, r2⟩
        · exact Or.inl hr
        · exact Or.inl (Or.inl (by omega))
      · exact Or.inl (Or.inr (by omega))
      · rcases zk_sgc_ok hB hC hE hx hr0 b3 (by omega) with hr | ⟨r1, r2⟩
        · exact Or.inl hr
        · refine Or.inr ⟨by omega, fun i i1 i2 => ?_⟩
          by_cases e2 : i < (zl_ev s (A.getD 1 (zl_con 0)))
          · exact zg_it_m (by omega) (by omega) c2 c3 c4 c5 c6 (s2 i (by omega) e2)
          · exact r2 i (by omega) i2
    · cases h
def zk_sg6 (X : zk_St) (l : List Nat) (j : zl_E) : Option zk_St := match zl_digs X.1.2.2.2.1 X.1.2.2.2.2 8 j with
  | some R => zk_sgp X j ((zl_gq X.1.2.2.2.1 X.1.2.2.2.2 (R.getD 7 (zl_con 0)) && zl_gq X.1.2.2.2.1 X.1.2.2.2.2 (zl_sub (zl_con 3200) (R.getD 0 (zl_con 0)))) && zk_sgc X R (R.getD 0 (zl_con 0)) l)
  | none => none
theorem zk_sg6_ok {PT : Nat → zz_W → Prop} {I : zz_W → Prop} {X Y : zk_St} {l : List Nat} {j : zl_E} {s : Nat → Int} {f : zz_F} (h : zk_sg6 X l j = some Y) (hG : zk_G2 PT I s X f) : zk_G2 PT I s Y f ∧ X.1.2.2.2.1.length ≤ Y.1.2.2.2.1.length := by
  unfold zk_sg6 at h
  split at h
  · rename_i R hR
    refine zk_sgp_ok h hR hG (fun hb => ?_)
    obtain ⟨⟨g1, g2, g3, g4, g5, g6⟩, k1, k2⟩ := hG
    obtain ⟨b1, b2⟩ := zz_and hb
    obtain ⟨b1, b3⟩ := zz_and b1
    have c1 := zl_gq_ok g4 g5 b1
    have c3 := zl_gq_ok g4 g5 b3
    rw [zl_sub_ev, zl_con_ev] at c3
    by_cases hx : (zl_ev s (R.getD 7 (zl_con 0))) = 0
    · rcases zk_sgc_ok g4 g5 k1 hx (by omega) b2 (Int.le_refl _) with (hr | hr) | hr
      · exact Or.inr (Or.inl hr)
      · exact Or.inr (Or.inr (Or.inl hr))
      · exact Or.inr (Or.inr (Or.inr hr))
    · exact Or.inl (by omega)
  · cases h
/-- an item more: i the segment, c what sort it is, q its depth -/
def zk_sgk (X : zk_St) (A R : List zl_E) (v o q : zl_E) (c : Nat) : Bool :=
  let gq := zl_gq X.1.2.2.2.1 X.1.2.2.2.2
  let k := zl_sub v (zl_mul 64 q)
  let rg := gq (zl_sub o (R.getD 3 (zl_con 0))) && gq (zl_sub (zl_sub (R.getD 4 (zl_con 0)) (zl_con 1)) o)
  cond (Nat.blt c 3) (gq (zl_sub k (zl_con (cond (Nat.beq c 0) 0 (cond (Nat.beq c 1) 12 34)))) && gq (zl_sub (zl_con (cond (Nat.beq c 0) 6 (cond (Nat.beq c 1) 28 63))) k))
  (cond (Nat.beq c 7) (zl_nul (zl_sub v (zl_con 33)))
  (match zk_ek X.2.1 20 (zl_add (zl_mul 6 o) (zl_con 2)) with
    | some u => rg && (
      cond (Nat.beq c 3) ((zl_nul (zl_sub k (zl_con 7)) || zl_nul (zl_sub k (zl_con 29))) && (gq (zl_sub u (zl_con 1)) && gq (zl_sub (zl_con 1) u)))
      (cond (Nat.beq c 4) ((zl_nul (zl_sub k (zl_con 10)) || zl_nul (zl_sub k (zl_con 11))) && gq (zl_sub u (zl_con 3)))
      (cond (Nat.beq c 5) (zl_nul (zl_sub k (zl_con 8)) && (gq (zl_sub u (zl_con 2)) && gq (zl_sub (zl_con 2) u)))
      (cond (Nat.beq c 6) (match zk_ek X.2.1 61 (zl_sub (zl_mul 2 (A.getD 1 (zl_con 0))) (zl_con 2)), zk_ek X.2.1 61 (zl_sub (zl_mul 2 (A.getD 1 (zl_con 0))) (zl_con 1)) with
        | some y, some z => (zl_nul (zl_sub k (zl_con 9)) && (gq (zl_sub u (zl_con 2)) && gq (zl_sub (zl_con 2) u))) && (zl_nul (zl_sub y (zl_sub v (zl_con 1))) && (zl_nul (zl_sub z o) && gq (zl_sub (zl_sub (A.getD 1 (zl_con 0)) (zl_con 1)) (A.getD 0 (zl_con 0)))))
        | _, _ => false) false))))
    | none => false))
theorem zk_sgk_ok {X : zk_St} {A R : List zl_E} {v o q : zl_E} {c : Nat} {s : Nat → Int} {w : zz_W} (h : zk_sgk X A R v o q c = true) (hB : zl_in s X.1.2.2.2.1) (hC : zk_cs s X.1.2.2.2.2) (hE : zk_eF s X.2.1 w) (hv : zh_e w 61 (2 * (zl_ev s (A.getD 1 (zl_con 0)))) = zl_ev s v) (ho : zh_e w 61 (2 * (zl_ev s (A.getD 1 (zl_con 0))) + 1) = zl_ev s o) (hd : 64 * (zl_ev s (R.getD 2 (zl_con 0))) ≤ zl_ev s v) (h0 : (zl_ev s (A.getD 0 (zl_con 0))) = (zl_ev s (R.getD 0 (zl_con 0)))) : zg_it (zh_e w 61) (zh_e w 20) (zh_e w 22) (zl_ev s (R.getD 0 (zl_con 0))) (zl_ev s (R.getD 1 (zl_con 0))) (zl_ev s (R.getD 2 (zl_con 0))) (zl_ev s (R.getD 3 (zl_con 0))) (zl_ev s (R.getD 4 (zl_con 0))) (zl_ev s (R.getD 5 (zl_con 0))) (zl_ev s (R.getD 6 (zl_con 0))) (zl_ev s (A.getD 1 (zl_con 0))) := by
  have gq : ∀ {x : zl_E}, zl_gq X.1.2.2.2.1 X.1.2.2.2.2 x = true → 0 ≤ zl_ev s x := fun h => zl_gq_ok hB hC h
  unfold zk_sgk at h
  unfold zg_it
  rw [hv, ho]
  cases hc : Nat.blt c 3 with
  | true =>
    rw [hc] at h
    obtain ⟨b1, b2⟩ := zz_and (show (_ && _) = true from h)
    have c1 := gq b1
    have c2 := gq b2
    rw [zl_sub_ev, zl_sub_ev, zl_mul_ev, zl_con_ev] at c1 c2
    have hc := zz_blt hc
    have hk : (0 ≤ zl_ev s v - 64 * zl_ev s q ∧ zl_ev s v - 64 * zl_ev s q ≤ 6) ∨ (12 ≤ zl_ev s v - 64 * zl_ev s q ∧ zl_ev s v - 64 * zl_ev s q ≤ 28) ∨ (34 ≤ zl_ev s v - 64 * zl_ev s q ∧ zl_ev s v - 64 * zl_ev s q ≤ 63) := by
      rcases (show c = 0 ∨ c = 1 ∨ c = 2 by omega) with e | e | e
      · subst e
        have c1 : 0 ≤ zl_ev s v - 64 * zl_ev s q - 0 := c1
        have c2 : 0 ≤ 6 - (zl_ev s v - 64 * zl_ev s q) := c2
        omega
      · subst e
        have c1 : 0 ≤ zl_ev s v - 64 * zl_ev s q - 12 := c1
        have c2 : 0 ≤ 28 - (zl_ev s v - 64 * zl_ev s q) := c2
        omega
      · subst e
        have c1 : 0 ≤ zl_ev s v - 64 * zl_ev s q - 34 := c1
        have c2 : 0 ≤ 63 - (zl_ev s v - 64 * zl_ev s q) := c2
        omega
    refine ⟨hd, fun c => absurd c (by omega), fun c => absurd c (by omega), fun c => absurd c (by omega), fun c => absurd c (by omega), fun c => absurd c (by omega), fun c => absurd c (by omega), fun c => absurd c (by omega)⟩
  | false =>
    rw [hc] at h
    cases h7 : Nat.beq c 7 with
    | true =>
      rw [h7] at h
      have e := zk_nul0 (s := s) (show zl_nul (zl_sub v (zl_con 33)) = true from h)
      rw [zl_con_ev] at e
      refine ⟨hd, fun c => absurd c (by omega), fun c => absurd c (by omega), fun c => absurd c (by omega), fun c => absurd c (by omega), fun c => absurd c (by omega), fun c => absurd c (by omega), fun _ => e⟩
    | false =>
      rw [h7] at h
      have h := (show (match zk_ek X.2.1 20 (zl_add (zl_mul 6 o) (zl_con 2)) with | some u => _ | none => false) = true from h)
      split at h
      · rename_i u hu
        obtain ⟨br, h⟩ := zz_and h
        obtain ⟨b1, b2⟩ := zz_and br
        have r1 := gq b1
        have r2 := gq b2
        rw [zl_sub_ev] at r1 r2
        rw [zl_sub_ev, zl_con_ev] at r2
        have hu := zk_eke rfl hu hE
        rw [zl_add_ev, zl_mul_ev, zl_con_ev] at hu
        cases h3 : Nat.beq c 3 with
        | true =>
          rw [h3] at h
          obtain ⟨k1, k2⟩ := zz_and (show (_ && _) = true from h)
          obtain ⟨k2, k3⟩ := zz_and k2
          have k2 := gq k2
          have k3 := gq k3
          rw [zl_sub_ev, zl_con_ev] at k2 k3
          have hk : zl_ev s v - 64 * zl_ev s q = 7 ∨ zl_ev s v - 64 * zl_ev s q = 29 := by
            rcases Bool.or_eq_true_iff.mp k1 with k | k
            · have e := zk_nul0 (s := s) k
              rw [zl_sub_ev, zl_mul_ev, zl_con_ev] at e
              exact Or.inl e
            · have e := zk_nul0 (s := s) k
              rw [zl_sub_ev, zl_mul_ev, zl_con_ev] at e
              exact Or.inr e
          refine ⟨hd, fun _ => ⟨by omega, by omega, by rw [hu]; omega⟩, fun c => absurd c (by omega), fun c => absurd c (by omega), fun c => absurd c (by omega), fun c => absurd c (by omega), fun c => absurd c (by omega), fun c => absurd c (by omega)⟩
        | false =>
          rw [h3] at h
          cases h4 : Nat.beq c 4 with
          | true =>
            rw [h4] at h
            obtain ⟨k1, k2⟩ := zz_and (show (_ && _) = true from h)
            have k2 := gq k2
            rw [zl_sub_ev, zl_con_ev] at k2
            have hk : zl_ev s v - 64 * zl_ev s q = 10 ∨ zl_ev s v - 64 * zl_ev s q = 11 := by
              rcases Bool.or_eq_true_iff.mp k1 with k | k
              · have e := zk_nul0 (s := s) k
                rw [zl_sub_ev, zl_mul_ev, zl_con_ev] at e
                exact Or.inl e
              · have e := zk_nul0 (s := s) k
                rw [zl_sub_ev, zl_mul_ev, zl_con_ev] at e
                exact Or.inr e
            refine ⟨hd, fun c => absurd c (by omega), fun _ => ⟨by omega, by omega, by rw [hu]; omega⟩, fun c => absurd c (by omega), fun c => absurd c (by omega), fun c => absurd c (by omega), fun c => absurd c (by omega), fun c => absurd c (by omega)⟩
          | false =>
            rw [h4] at h
            cases h5 : Nat.beq c 5 with
            | true =>
              rw [h5] at h
              obtain ⟨k1, k2⟩ := zz_and (show (_ && _) = true from h)
              obtain ⟨k2, k3⟩ := zz_and k2
              have k2 := gq k2
              have k3 := gq k3
              rw [zl_sub_ev, zl_con_ev] at k2 k3
              have e := zk_nul0 (s := s) k1
              rw [zl_sub_ev, zl_mul_ev, zl_con_ev] at e
              refine ⟨hd, fun c => absurd c (by omega), fun c => absurd c (by omega), fun _ => ⟨by omega, by omega, by rw [hu]; omega⟩, fun c => absurd c (by omega), fun c => absurd c (by omega), fun c => absurd c (by omega), fun c => absurd c (by omega)⟩
            | false =>
              rw [h5] at h
              cases h6 : Nat.beq c 6 with
              | true =>
                rw [h6] at h
                have h := (show (match zk_ek X.2.1 61 (zl_sub (zl_mul 2 (A.getD 1 (zl_con 0))) (zl_con 2)), zk_ek X.2.1 61 (zl_sub (zl_mul 2 (A.getD 1 (zl_con 0))) (zl_con 1)) with | some y, some z => _ | _, _ => false) = true from h)
                split at h
                · rename_i y z hy hz
                  obtain ⟨k1, k2⟩ := zz_and h
                  obtain ⟨k1, k3⟩ := zz_and k1
                  obtain ⟨k3, k4⟩ := zz_and k3
                  obtain ⟨k5, k6⟩ := zz_and k2
                  obtain ⟨k6, k7⟩ := zz_and k6
                  have k3 := gq k3
                  have k4 := gq k4
                  have k7 := gq k7
                  rw [zl_sub_ev, zl_con_ev] at k3 k4
                  rw [zl_sub_ev, zl_sub_ev, zl_con_ev] at k7
                  have e := zk_nul0 (s := s) k1
                  rw [zl_sub_ev, zl_mul_ev, zl_con_ev] at e
                  have e5 := zk_nul0 (s := s) k5
                  rw [zl_sub_ev, zl_con_ev] at e5
                  have e6 := zk_nul0 (s := s) k6
                  have hy := zk_eke rfl hy hE
                  have hz := zk_eke rfl hz hE
                  rw [zl_sub_ev, zl_mul_ev, zl_con_ev] at hy hz
                  refine ⟨hd, fun c => absurd c (by omega), fun c => absurd c (by omega), fun _ => ⟨by omega, by omega, by rw [hu]; omega⟩, fun _ => ⟨by omega, by rw [hy]; omega, by rw [hz]; omega⟩, fun c => absurd c (by omega), fun c => absurd c (by omega), fun c => absurd c (by omega)⟩
                · cases h
              | false =>
                rw [h6] at h
                cases h
      · cases h
def zk_sg7 (X : zk_St) (i c : Nat) (j q : zl_E) : Option zk_St := match zl_digs X.1.2.2.2.1 X.1.2.2.2.2 8 j, zk_sgA X i with
  | some R, some A => match zk_ek X.2.1 61 (zl_mul 2 (A.getD 1 (zl_con 0))), zk_ek X.2.1 61 (zl_add (zl_mul 2 (A.getD 1 (zl_con 0))) (zl_con 1)) with
    | some v, some o => zk_sgp X j ((zl_nul (zl_sub (R.getD 0 (zl_con 0)) (A.getD 0 (zl_con 0))) && zl_nul (zl_sub (R.getD 1 (zl_con 0)) (zl_add (A.getD 1 (zl_con 0)) (zl_con 1)))) && ((zl_gq X.1.2.2.2.1 X.1.2.2.2.2 (R.getD 7 (zl_con 0)) && zl_gq X.1.2.2.2.1 X.1.2.2.2.2 (zl_sub v (zl_mul 64 (R.getD 2 (zl_con 0))))) && (zk_sgi X.1.2.2.2.1 X.1.2.2.2.2 A R && zk_sgk X A R v o q c)))
    | _, _ => none
  | _, _ => none
theorem zk_sg7_ok {PT : Nat → zz_W → Prop} {I : zz_W → Prop} {X Y : zk_St} {i c : Nat} {j q : zl_E} {s : Nat → Int} {f : zz_F} (h : zk_sg7 X i c j q = some Y) (hG : zk_G2 PT I s X f) : zk_G2 PT I s Y f ∧ X.1.2.2.2.1.length ≤ Y.1.2.2.2.1.length := by
  unfold zk_sg7 at h
  split at h
  · rename_i R A hR hA
    split at h
    · rename_i v o hv ho
      refine zk_sgp_ok h hR hG (fun hb => ?_)
      obtain ⟨⟨g1, g2, g3, g4, g5, g6⟩, k1, k2⟩ := hG
      obtain ⟨b0, hb⟩ := zz_and hb
      obtain ⟨b0, b1⟩ := zz_and b0
      obtain ⟨b2, hb⟩ := zz_and hb
      obtain ⟨b2, b3⟩ := zz_and b2
      obtain ⟨b4, b5⟩ := zz_and hb
      have e0 := zk_nul0 (s := s) b0
      have e1 := zk_nul0 (s := s) b1
      rw [zl_add_ev, zl_con_ev] at e1
      have c2 := zl_gq_ok g4 g5 b2
      have c3 := zl_gq_ok g4 g5 b3
      rw [zl_sub_ev, zl_mul_ev] at c3
      obtain ⟨d2, d3, d4, d5, d6, d7⟩ := zk_sgi_ok g4 g5 b4
      have hv := zk_eke rfl hv k1
      have ho := zk_eke rfl ho k1
      rw [zl_mul_ev] at hv
      rw [zl_add_ev, zl_mul_ev, zl_con_ev] at ho
      have hk := zk_sgk_ok b5 g4 g5 k1 hv ho (by omega) (by omega)
      by_cases hx : (zl_ev s (R.getD 7 (zl_con 0))) = 0
      · rcases zk_sgA_ok hA g4 g5 k1 with hS | hS | hS | ⟨s1, s2⟩
        · exact absurd hS (by omega)
        · exact Or.inr (Or.inl (by omega))
        · exact Or.inr (Or.inr (Or.inl (by omega)))
        · refine Or.inr (Or.inr (Or.inr ⟨by omega, fun t t1 t2 => ?_⟩))
          by_cases e2 : t < (zl_ev s (A.getD 1 (zl_con 0)))
          · exact zg_it_m (by omega) (by omega) d2 d3 d4 d5 d6 (s2 t (by omega) e2)
          · rw [show t = (zl_ev s (A.getD 1 (zl_con 0))) by omega]
            exact hk
      · exact Or.inl (by omega)
    · cases h
  · cases h
/-- an array's element is set: the check, the value (deeper), the store -/
def zk_sg8 (X : zk_St) (i1 i2 : Nat) (j : zl_E) : Option zk_St := match zl_digs X.1.2.2.2.1 X.1.2.2.2.2 8 j, zk_sgA X i1, zk_sgA X i2 with
  | some R, some A, some D => match zk_ek X.2.1 61 (zl_sub (zl_mul 2 (A.getD 1 (zl_con 0))) (zl_con 2)), zk_ek X.2.1 61 (zl_sub (zl_mul 2 (A.getD 1 (zl_con 0))) (zl_con 1)), zk_ek X.2.1 61 (zl_mul 2 (D.getD 1 (zl_con 0))), zk_ek X.2.1 61 (zl_add (zl_mul 2 (D.getD 1 (zl_con 0))) (zl_con 1)) with
    | some y, some z, some v, some o => match zk_ek X.2.1 20 (zl_add (zl_mul 6 o) (zl_con 2)) with
      | some u =>
        let gq := zl_gq X.1.2.2.2.1 X.1.2.2.2.2
        zk_sgp X j (((zl_nul (zl_sub (R.getD 0 (zl_con 0)) (A.getD 0 (zl_con 0))) && zl_nul (zl_sub (R.getD 1 (zl_con 0)) (zl_add (D.getD 1 (zl_con 0)) (zl_con 1)))) && (zl_nul (zl_sub (D.getD 0 (zl_con 0)) (A.getD 1 (zl_con 0))) && (gq (R.getD 7 (zl_con 0)) && (gq (zl_sub (D.getD 2 (zl_con 0)) (zl_con 1)) && zl_nul (zl_sub (R.getD 2 (zl_con 0)) (zl_con 0)))))) && ((zk_sgi X.1.2.2.2.1 X.1.2.2.2.2 A R && zk_sgi X.1.2.2.2.1 X.1.2.2.2.2 D R) && ((zl_nul (zl_sub y (zl_con 8)) && (zl_nul (zl_sub z o) && zl_nul (zl_sub v (zl_con 30)))) && ((gq (zl_sub u (zl_con 2)) && gq (zl_sub (zl_con 2) u)) && ((gq (zl_sub o (R.getD 3 (zl_con 0))) && gq (zl_sub (zl_sub (R.getD 4 (zl_con 0)) (zl_con 1)) o)) && gq (zl_sub (zl_sub (A.getD 1 (zl_con 0)) (zl_con 1)) (A.getD 0 (zl_con 0))))))))
      | none => none
    | _, _, _, _ => none
  | _, _, _ => none
theorem zk_sg8_ok {PT : Nat → zz_W → Prop} {I : zz_W → Prop} {X Y : zk_St} {i1 i2 : Nat} {j : zl_E} {s : Nat → Int} {f : zz_F} (h : zk_sg8 X i1 i2 j = some Y) (hG : zk_G2 PT I s X f) : zk_G2 PT I s Y f ∧ X.1.2.2.2.1.length ≤ Y.1.2.2.2.1.length := by
  unfold zk_sg8 at h
  split at h
  · rename_i R A D hR hA hD
    split at h
    · rename_i y z v o hy hz hv ho
      split at h
      · rename_i u hu
        refine zk_sgp_ok h hR hG (fun hb => ?_)
        obtain ⟨⟨g1, g2, g3, g4, g5, g6⟩, k1, k2⟩ := hG
        obtain ⟨x1, x2⟩ := zz_and hb
        obtain ⟨x1, x3⟩ := zz_and x1
        obtain ⟨b0, b1⟩ := zz_and x1
        obtain ⟨b2, x3⟩ := zz_and x3
        obtain ⟨b3, x3⟩ := zz_and x3
        obtain ⟨b4, b5⟩ := zz_and x3
        obtain ⟨x4, x5⟩ := zz_and x2
        obtain ⟨b6, b7⟩ := zz_and x4
        obtain ⟨x6, x7⟩ := zz_and x5
        obtain ⟨b8, x6⟩ := zz_and x6
        obtain ⟨b9, b10⟩ := zz_and x6
        obtain ⟨x8, x9⟩ := zz_and x7
        obtain ⟨b11, b12⟩ := zz_and x8
        obtain ⟨x9, b15⟩ := zz_and x9
        obtain ⟨b13, b14⟩ := zz_and x9
        have e0 := zk_nul0 (s := s) b0
        have e1 := zk_nul0 (s := s) b1
        rw [zl_add_ev, zl_con_ev] at e1
        have e2 := zk_nul0 (s := s) b2
        have c3 := zl_gq_ok g4 g5 b3
        have c4 := zl_gq_ok g4 g5 b4
        rw [zl_sub_ev, zl_con_ev] at c4
        have e5 := zk_nul0 (s := s) b5
        rw [zl_con_ev] at e5
        obtain ⟨d2, d3, d4, d5, d6, d7⟩ := zk_sgi_ok g4 g5 b6
        obtain ⟨f2, f3, f4, f5, f6, f7⟩ := zk_sgi_ok g4 g5 b7
        have e8 := zk_nul0 (s := s) b8
        have e9 := zk_nul0 (s := s) b9
        have e10 := zk_nul0 (s := s) b10
        rw [zl_con_ev] at e8 e10
        have c11 := zl_gq_ok g4 g5 b11
        have c12 := zl_gq_ok g4 g5 b12
        have c13 := zl_gq_ok g4 g5 b13
        have c14 := zl_gq_ok g4 g5 b14
        have c15 := zl_gq_ok g4 g5 b15
        rw [zl_sub_ev] at c11 c12 c13 c14 c15
        rw [zl_con_ev] at c11 c12
        rw [zl_sub_ev, zl_con_ev] at c14 c15
        have hy := zk_eke rfl hy k1
        have hz := zk_eke rfl hz k1
        have hv := zk_eke rfl hv k1
        have ho := zk_eke rfl ho k1
        have hu := zk_eke rfl hu k1
        rw [zl_sub_ev, zl_mul_ev, zl_con_ev] at hy hz
        rw [zl_mul_ev] at hv
        rw [zl_add_ev, zl_mul_ev, zl_con_ev] at ho hu
        by_cases hx : (zl_ev s (R.getD 7 (zl_con 0))) = 0
        · rcases zk_sgA_ok hA g4 g5 k1 with hS | hS | hS | ⟨s1, s2⟩
          · exact absurd hS (by omega)
          · rcases zk_sgA_ok hD g4 g5 k1 with hT | hT | hT | ⟨t1, t2⟩
            · exact absurd hT (by omega)
            · exact Or.inr (Or.inl (by omega))
            · exact Or.inr (Or.inr (Or.inl (by omega)))
            · exact Or.inr (Or.inl (by omega))
          · exact Or.inr (Or.inr (Or.inl (by omega)))
          · rcases zk_sgA_ok hD g4 g5 k1 with hT | hT | hT | ⟨t1, t2⟩
            · exact absurd hT (by omega)
            · exact Or.inr (Or.inl (by omega))
            · exact Or.inr (Or.inr (Or.inl (by omega)))
            · refine Or.inr (Or.inr (Or.inr ⟨by omega, fun t z1 z2 => ?_⟩))
              by_cases y1 : t < (zl_ev s (A.getD 1 (zl_con 0)))
              · exact zg_it_m (by omega) (by omega) d2 d3 d4 d5 d6 (s2 t (by omega) y1)
              · by_cases y2 : t < (zl_ev s (D.getD 1 (zl_con 0)))
                · exact zg_it_m (by omega) (by omega) f2 f3 f4 f5 f6 (t2 t (by omega) y2)
                · have et : t = (zl_ev s (D.getD 1 (zl_con 0))) := by omega
                  rw [et]
                  unfold zg_it
                  rw [hv, ho]
                  refine ⟨by omega, fun c => absurd c (by omega), fun c => absurd c (by omega), fun _ => ⟨by omega, by omega, by rw [hu]; omega⟩, fun c => absurd c (by omega), fun _ => ⟨e10, (zl_ev s (A.getD 1 (zl_con 0))) - 1, by omega, by omega, ?_, ?_, fun i i1 i2 => ?_⟩, fun c => absurd c (by omega), fun c => absurd c (by omega)⟩
                  · rw [show 2 * ((zl_ev s (A.getD 1 (zl_con 0))) - 1) = 2 * (zl_ev s (A.getD 1 (zl_con 0))) - 2 by omega, hy]
                    exact e8
                  · rw [show 2 * ((zl_ev s (A.getD 1 (zl_con 0))) - 1) + 1 = 2 * (zl_ev s (A.getD 1 (zl_con 0))) - 1 by omega, hz]
                    exact e9
                  · have := (t2 i (by omega) i2).1
                    omega
        · exact Or.inl (by omega)
      · cases h
    · cases h
  · cases h
/-- all of them -/
def zk_sgx (X : zk_St) (l : List Nat) (es : List zl_E) : Option zk_St := cond (Nat.beq (l.getD 0 0) 5) (zk_sg5 X (es.getD 0 (zl_con 0))) (cond (Nat.beq (l.getD 0 0) 6) (zk_sg6 X (l.drop 1) (es.getD 0 (zl_con 0))) (cond (Nat.beq (l.getD 0 0) 7) (zk_sg7 X (l.getD 1 0) (l.getD 2 0) (es.getD 0 (zl_con 0)) (es.getD 1 (zl_con 0))) (cond (Nat.beq (l.getD 0 0) 8) (zk_sg8 X (l.getD 1 0) (l.getD 2 0) (es.getD 0 (zl_con 0))) none)))
theorem zk_sgx_ok {PT : Nat → zz_W → Prop} {I : zz_W → Prop} {X Y : zk_St} {l : List Nat} {es : List zl_E} {s : Nat → Int} {f : zz_F} (h : zk_sgx X l es = some Y) (hG : zk_G2 PT I s X f) : zk_G2 PT I s Y f ∧ X.1.2.2.2.1.length ≤ Y.1.2.2.2.1.length := by
  unfold zk_sgx at h
  cases h5 : Nat.beq (l.getD 0 0) 5 with
  | true =>
    rw [h5] at h
    exact zk_sg5_ok h hG
  | false =>
    rw [h5] at h
    cases h6 : Nat.beq (l.getD 0 0) 6 with
    | true =>
      rw [h6] at h
      exact zk_sg6_ok h hG
    | false =>
      rw [h6] at h
      cases h7 : Nat.beq (l.getD 0 0) 7 with
      | true =>
        rw [h7] at h
        exact zk_sg7_ok h hG
      | false =>
        rw [h7] at h
        cases h8 : Nat.beq (l.getD 0 0) 8 with
        | true =>
          rw [h8] at h
          exact zk_sg8_ok h hG
        | false =>
          rw [h8] at h
          cases h
end
