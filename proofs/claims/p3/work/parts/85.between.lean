/-! BETWEEN CALLS: worlds that hold a state, with the builder as it may be -/
noncomputable section
theorem zvk_3 {c : zz_C} {a b n M : Nat} (h : zk_k3 c = zk_k3 (a, b, n, M)) : c = (a, b, n, c.2.2.2) := by
  obtain ⟨a', b', n', N'⟩ := c
  have h1 : a' = a := zk_k3_1 h
  have h2 : b' = b := zk_k3_2 h
  have h3 : n' = n := zk_k3_3 h
  rw [h1, h2, h3]
/-- the builder: its row is cell 17 or one that came later -/
def zBi (w : zz_W) : Prop := ∃ v N M c, zBr w v N M c w ∧ zz_at 64 M 3 < 64
theorem zFc_I {w : zz_W} (hI : zk_I 64 zHX w) (h13 : zz_g w 13 = (0, 0, 64, zc_13)) (h14 : zz_g w 14 = (0, 0, 64, zc_14)) (h15 : zz_g w 15 = (0, 0, 32, zc_15)) : zFc w := by
  obtain ⟨-, -, -, hI⟩ := hI
  have e12 : zk_h zHX 12 = (3, 3, 5, 0, 0, [(2, 5, 0, 0), (2, 14, 0, 0), (2, 15, 0, 0), (2, 16, 0, 0), (2, 17, 0, 0)]) := rfl
  obtain ⟨l12, k1, k2, k3, -, -, k4, -⟩ := hI 12 (by rw [e12]; decide)
  rw [e12] at k1 k2 k3 k4
  have k4 := k4 rfl
  obtain ⟨l4, m1, m2, m3, -, -, m4, -⟩ := hI 4 (by show (3 : Nat) ≠ 9; decide)
  have m1 : (zz_g w 4).1 = 3 := m1
  have m2 : (zz_g w 4).2.1 = 9 := m2
  have m3 : (zz_g w 4).2.2.1 = 9 := m3
  obtain ⟨l5, n1, n2, n3, -, -, -, n4⟩ := hI 5 (by show (1 : Nat) ≠ 9; decide)
  have n1 : (zz_g w 5).1 = 1 := n1
  have n2 : (zz_g w 5).2.1 = 3 := n2
  have n3 : (zz_g w 5).2.2.1 = 4000 := n3
  have d5 : ∀ f, f < 125 → ((zk_h zHX 5).2.2.2.2.2[f]?).map (fun q => q.2.1) = some (zz_at 64 zc_5 f) := by decide +kernel
  refine ⟨⟨l12, by decide, ?_⟩, ⟨(k4 0 _ rfl).2 rfl, (k4 1 _ rfl).2 rfl, (k4 2 _ rfl).2 rfl, (k4 3 _ rfl).2 rfl, (k4 4 _ rfl).2 rfl⟩, ⟨(hI 13 (by show (0 : Nat) ≠ 9; decide)).1, by decide, h13⟩, ⟨by have := (hI 14 (by show (0 : Nat) ≠ 9; decide)).1; exact this, by decide, h14⟩, ⟨by have := (hI 15 (by show (0 : Nat) ≠ 9; decide)).1; exact this, by decide, h15⟩, ⟨⟨l4, by decide, ?_⟩, ?_⟩, ⟨l5, by decide, ?_⟩, fun f hf => ?_⟩
  · exact zvk_3 (a := 3) (b := 3) (n := 5) (M := 0) (by show ((zz_g w 12).1, (zz_g w 12).2.1, (zz_g w 12).2.2.1) = (3, 3, 5); rw [k1, k2, k3])
  · exact zvk_3 (a := 3) (b := 9) (n := 9) (M := 0) (by show ((zz_g w 4).1, (zz_g w 4).2.1, (zz_g w 4).2.2.1) = (3, 9, 9); rw [m1, m2, m3])
  · exact (m4 rfl 0 _ rfl).2 rfl
  · exact zvk_3 (a := 1) (b := 3) (n := 4000) (M := 0) (by show ((zz_g w 5).1, (zz_g w 5).2.1, (zz_g w 5).2.2.1) = (1, 3, 4000); rw [n1, n2, n3])
  · have h1 := d5 f hf
    cases hq : (zk_h zHX 5).2.2.2.2.2[f]? with
    | none => rw [hq] at h1; cases h1
    | some q =>
      rw [hq] at h1
      have h2 : q.2.1 = zz_at 64 zc_5 f := Option.some.inj h1
      rw [← h2]
      exact n4 rfl f q hq
theorem zBi_of {w w' : zz_W} (h : zBi w) (hs : zz_sh w') (h1 : w.1 ≤ w'.1) (h2 : w'.1 ≤ 1000) (h3 : zFc w') (k16 : zk_k3 (zz_g w' 16) = zk_k3 (zz_g w 16)) (f16 : ∀ k, k < 998 → zk_fd w' (16, k) = zk_fd w (16, k)) (hg : ∀ i, i = 17 ∨ 329 ≤ i → i < w.1 → (zz_g w i).1 ≠ 3 → zz_g w' i = zz_g w i) : zBi w' := by
  obtain ⟨v, N, M, c, ⟨a1, ⟨⟨a2, a3⟩, a4⟩, a5, a6, a7, a8, a9, ⟨a10, a11⟩, a12⟩, a13⟩ := h
  have e16 : (zz_g w 16) = (3, 13, 4, M) := a5.2.2
  have g16 : zz_g w' 16 = (3, 13, 4, (zz_g w' 16).2.2.2) := by rw [e16] at k16; exact zvk_3 k16
  have hv : v = 17 ∨ 329 ≤ v := by rcases a4 with ⟨-, b, -⟩ | ⟨-, b, -⟩ <;> omega
  have gv : zz_g w' v = (0, 1, c, N) := (hg v hv a6.1 (by rw [a6.2.2]; show (0 : Nat) ≠ 3; decide)).trans a6.2.2
  have fM : ∀ k, k < 4 → zz_at 64 (zz_g w' 16).2.2.2 k = zz_at 64 M k := fun k hk => by
    have h := f16 k (by omega)
    unfold zk_fd at h
    rw [e16] at h
    exact h
  refine ⟨v, N, (zz_g w' 16).2.2.2, c, ⟨hs, ⟨⟨by omega, h2⟩, ?_⟩, ⟨by have := a5.1; omega, by decide, g16⟩, ⟨by have := a6.1; omega, a6.2.1, gv⟩, (fM 1 (by decide)).trans a7, (fM 0 (by decide)).trans a8, a9, ⟨h3, by rw [fM 2 (by decide)]; exact a11⟩, fun _ _ _ _ => rfl⟩, by rw [fM 3 (by decide)]; exact a13⟩
  have := a6.1
  rcases a4 with ⟨b1, b2, -, -⟩ | ⟨b1, b2, b3, -, -, -⟩
  · exact Or.inl ⟨b1, b2, rfl, rfl⟩
  · exact Or.inr ⟨b1, b2, by omega, Nat.le_refl _, Nat.le_succ _, Nat.le_add_right _ _⟩
/-- rows 13 to 15 as they were at the beginning -/
def zKr (w : zz_W) : Prop := zz_g w 13 = (0, 0, 64, zc_13) ∧ zz_g w 14 = (0, 0, 64, zc_14) ∧ zz_g w 15 = (0, 0, 32, zc_15)
theorem zBi_kr {w : zz_W} (h : zBi w) : zKr w := by
  obtain ⟨v, N, M, c, ⟨-, -, -, -, -, -, -, ⟨⟨-, -, h13, h14, h15, -⟩, -⟩, -⟩, -⟩ := h
  exact ⟨h13.2.2, h14.2.2, h15.2.2⟩
theorem zBi_K {w w' : zz_W} (h : zBi w) (hI0 : zk_I 64 zHX w) (hK : zl_Kp w w') (hI : zk_I 64 zHX w') (h2 : w.1 ≤ 1000) : zBi w' := by
  obtain ⟨r13, r14, r15⟩ := zBi_kr h
  obtain ⟨k1, k2, k3, k4, k5⟩ := hK
  have hb := h
  obtain ⟨v, N, M, c, ⟨-, ⟨⟨a2, -⟩, -⟩, a5, -⟩, -⟩ := hb
  refine zBi_of h hI.1 (Nat.le_of_eq k1.symm) (by omega) (zFc_I hI ((k3 13 (Or.inl ⟨by decide, by decide⟩) (by omega) (by rw [r13]; decide)).trans r13) ((k3 14 (Or.inl ⟨by decide, by decide⟩) (by omega) (by rw [r14]; decide)).trans r14) ((k3 15 (Or.inl ⟨by decide, by decide⟩) (by omega) (by rw [r15]; decide)).trans r15)) (k5 16 (by omega)) (k4 (by omega) (by rw [a5.2.2])) (fun i hi => k3 i (Or.inr hi))
theorem zBi_up {w : zz_W} {N : Nat} (h : zBi w) (hI : zk_I 64 zHX (zz_up w 328 (1, 3, 1, N))) (h1 : w.1 ≤ 1000) : zBi (zz_up w 328 (1, 3, 1, N)) := by
  obtain ⟨r13, r14, r15⟩ := zBi_kr h
  have hb := h
  obtain ⟨v, N', M, c, ⟨hs, -⟩, -⟩ := hb
  have hne : ∀ j, j ≠ 328 → zz_g (zz_up w 328 (1, 3, 1, N)) j = zz_g w j := fun j hj => zz_up_ne hs (by decide) hj
  exact zBi_of h hI.1 (Nat.le_refl _) h1 (zFc_I hI ((hne 13 (by decide)).trans r13) ((hne 14 (by decide)).trans r14) ((hne 15 (by decide)).trans r15)) (by rw [hne 16 (by decide)]) (fun k _ => by unfold zk_fd; rw [hne 16 (by decide)]) (fun i hi _ _ => hne i (by omega))
theorem zBi_pu {w : zz_W} {ci : Nat} (h : zBi w) (hI : zk_I 64 zHX (zz_pu w (3, ci, 0, 0) 6)) (h1 : w.1 + 1 ≤ 1000) : zBi (zz_pu w (3, ci, 0, 0) 6) := by
  obtain ⟨r13, r14, r15⟩ := zBi_kr h
  have hb := h
  obtain ⟨v, N', M, c, ⟨hs, ⟨⟨a2, -⟩, -⟩, -⟩, -⟩ := hb
  have hne : ∀ j, j ≠ w.1 → zz_g (zz_pu w (3, ci, 0, 0) 6) j = zz_g w j := fun j hj => by rw [zz_pu_g hs (by omega), if_neg hj]
  exact zBi_of h hI.1 (Nat.le_succ _) h1 (zFc_I hI ((hne 13 (by omega)).trans r13) ((hne 14 (by omega)).trans r14) ((hne 15 (by omega)).trans r15)) (by rw [hne 16 (by omega)]) (fun k _ => by unfold zk_fd; rw [hne 16 (by omega)]) (fun i _ hl _ => hne i (by omega))
/-- the state X holds, n calls (and e halves) have been made -/
def zIv (X : zk_St) (n e : Nat) (w : zz_W) : Prop := (∃ s : Nat → Int, s 0 = (n : Int) ∧ zk_G2 zPT (zk_I 64 zHX) s X (0, [], [], w)) ∧ zBi w ∧ w.1 ≤ 329 + n + e ∧ w.2.1 ≤ 2300586 + 40 * (n + e)
/-- a state does not speak of the law's row -/
def zl_w9 (X : zk_St) : Bool := X.1.2.2.1.all (fun q => Nat.beq (zk_h zHX q.1.1).1 3) && (X.2.1.all (fun x => (zk_rws x.1).all (fun r => Nat.blt (zk_h zHX r).1 3 && !(Nat.beq r 328))) && X.2.2.all (fun t => (zk_sux zTL zTM zXS t).all (fun p => !(Nat.beq (zk_h zHX p.1).1 9) && !(Nat.beq p.1 328))))
theorem zG2_up {X : zk_St} {s : Nat → Int} {N : Nat} {st : List Value} {w : zz_W} (hX : zl_w9 X = true) (hI : zk_I 64 zHX (zz_up w 328 (1, 3, 1, N))) (h : zk_G2 zPT (zk_I 64 zHX) s X (0, [], st, w)) : zk_G2 zPT (zk_I 64 zHX) s X (0, [], st, zz_up w 328 (1, 3, 1, N)) := by
  obtain ⟨o1, o2⟩ := zz_and hX
  obtain ⟨o2, o3⟩ := zz_and o2
  obtain ⟨⟨g1, g2, g3, g4, g5, g6⟩, k1, k2⟩ := h
  have g6 : zk_I 64 zHX w := g6
  have hne : ∀ j, j ≠ 328 → zz_g (zz_up w 328 (1, 3, 1, N)) j = zz_g w j := fun j hj => zz_up_ne g6.1 (by decide) hj
  have h328 : (zk_h zHX 328).1 = 1 := rfl
  have hfd : ∀ q : Nat × Nat, q.1 ≠ 328 → zk_fd (zz_up w 328 (1, 3, 1, N)) q = zk_fd w q := fun q hq => by
    unfold zk_fd
    rw [hne _ hq]
  refine ⟨⟨g1, g2, fun q hq => ?_, g4, g5, hI⟩, fun y hy => ?_, fun t ht => ?_⟩
  · show zk_n s q.2 (zk_fd (zz_up w 328 (1, 3, 1, N)) q.1)
    have h1 := zz_beq (List.all_eq_true.mp o1 q hq)
    rw [hfd q.1 (fun e => by rw [e, h328] at h1; cases h1)]
    exact g3 q hq
  · have h1 := List.all_eq_true.mp o2 y hy
    show 0 ≤ zl_ev s y.2.1 ∧ zk_xe (zz_up w 328 (1, 3, 1, N)) y.1 (zl_ev s y.2.1) = zl_ev s y.2.2
    rw [zk_xe_g (fun r hr => hne r (zk_nbq (zz_and (List.all_eq_true.mp h1 r hr)).2))]
    exact k1 y hy
  · have h1 := List.all_eq_true.mp (List.all_eq_true.mp o3 t ht)
    have h2 : ∀ q ∈ zk_sux zTL zTM zXS t, q.1 ≠ 328 := fun q hq => zk_nbq (zz_and (h1 q hq)).2
    exact zTTx.1 t w (zz_up w 328 (1, 3, 1, N)) g6 hI (fun q hq _ => hfd q (h2 q hq)) (fun q hq _ => hne q.1 (h2 q hq)) (k2 t ht)
theorem zI_up {w : zz_W} {N : Nat} (h : zk_I 64 zHX w) : zk_I 64 zHX (zz_up w 328 (1, 3, 1, N)) :=
  zk_I_up h (h.2.2.2 328 (by show (1 : Nat) ≠ 9; decide)).1 (fun _ => ⟨rfl, rfl, rfl, fun e => absurd e (by decide), fun e => absurd e (by decide), fun e => absurd e (by decide), fun _ k q hq => by cases hq⟩)
theorem zIv_up {X : zk_St} {n e N : Nat} {w : zz_W} (hX : zl_w9 X = true) (h : zIv X n e w) (hn : 329 + n + e ≤ 1000) : zIv X n e (zz_up w 328 (1, 3, 1, N)) := by
  obtain ⟨⟨s, h1, h2⟩, h3, h4, h5⟩ := h
  have hI : zk_I 64 zHX w := h2.1.2.2.2.2.2
  exact ⟨⟨s, h1, zG2_up hX (zI_up hI) h2⟩, zBi_up h3 (zI_up hI) (by omega), h4, h5⟩
theorem zIv_pu {X : zk_St} {n ci : Nat} {w : zz_W} (hX : zkt_ok zHX (zk_sux zTL zTM zXS) X = true) (h : zIv X n 0 w) (hn : n ≤ 512) : zIv X n 1 (zz_pu w (3, ci, 0, 0) 6) := by
  obtain ⟨⟨s, h1, h2⟩, h3, h4, h5⟩ := h
  have hI : zk_I 64 zHX w := h2.1.2.2.2.2.2
  have hw : w.1 < 16 * 64 := by omega
  refine ⟨⟨s, h1, zkt_G2 zTTx hX hw (by decide) h2⟩, zBi_pu h3 (zkt_I hI hw (by decide)) (by omega), ?_, ?_⟩
  · show w.1 + 1 ≤ _
    omega
  · show w.2.1 + 6 ≤ _
    omega
theorem zIv_1 {X : zk_St} {n : Nat} {w : zz_W} (h : zIv X n 0 w) : zIv X n 1 w := ⟨h.1, h.2.1, by have := h.2.2.1; omega, by have := h.2.2.2; omega⟩
/-- the law's row is there -/
theorem zI_328 {w : zz_W} (h : zk_I 64 zHX w) : ∃ N, zz_has w 328 (1, 3, 1, N) := by
  obtain ⟨h1, k1, k2, k3, -⟩ := h.2.2.2 328 (by show (1 : Nat) ≠ 9; decide)
  have k1 : (zz_g w 328).1 = 1 := k1
  have k2 : (zz_g w 328).2.1 = 3 := k2
  have k3 : (zz_g w 328).2.2.1 = 1 := k3
  exact ⟨_, h1, by decide, zvk_3 (a := 1) (b := 3) (n := 1) (M := 0) (by show ((zz_g w 328).1, (zz_g w 328).2.1, (zz_g w 328).2.2.1) = (1, 3, 1); rw [k1, k2, k3])⟩
theorem zI_ic0 {w : zz_W} (h : zk_I 64 zHX w) : zz_ic w 0 1 = true := by
  obtain ⟨h1, k1, k2, -⟩ := h.2.2.2 0 (by show (3 : Nat) ≠ 9; decide)
  have k1 : (zz_g w 0).1 = 3 := k1
  have k2 : (zz_g w 0).2.1 = 1 := k2
  unfold zz_ic
  rw [k1, k2, Nat.blt_eq.mpr h1]
  rfl
theorem zI_ic171 {w : zz_W} (h : zk_I 64 zHX w) : zz_ic w 171 0 = true := by
  obtain ⟨h1, k1, k2, -⟩ := h.2.2.2 171 (by show (3 : Nat) ≠ 9; decide)
  have k1 : (zz_g w 171).1 = 3 := k1
  have k2 : (zz_g w 171).2.1 = 0 := k2
  unfold zz_ic
  rw [k1, k2, Nat.blt_eq.mpr h1]
  rfl
end
