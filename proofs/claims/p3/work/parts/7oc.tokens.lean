/-! TOKENS by a list of laws of rows -/
noncomputable section
def zk_su (p : zk_Sp) : List (Nat × Nat) := p.2.1 ++ p.1.map (fun r => (r, 999))
theorem zk_P_su {HT : List (List zk_H)} {p : zk_Sp} {w w' : zz_W} (h1 : ∀ q ∈ zk_su p, q.2 ≠ 999 → zk_fd w' q = zk_fd w q) (h2 : ∀ q ∈ zk_su p, q.2 = 999 → zz_g w' q.1 = zz_g w q.1) (h9 : p.2.1.all (fun q => !(Nat.beq q.2 999)) = true) (h : zk_P HT p w) : zk_P HT p w' := by
  intro j hj
  have e1 : zk_al w' p.1 p.2.1 j = zk_al w p.1 p.2.1 j := by
    unfold zk_al
    congr 2
    · refine List.map_congr_left (fun r hr => ?_)
      have := h2 (r, 999) (List.mem_append_right _ (List.mem_map.mpr ⟨r, hr, rfl⟩)) rfl
      unfold zk_el
      rw [this]
    · refine List.map_congr_left (fun q hq => ?_)
      rw [h1 q (List.mem_append_left _ hq) (zk_nbeq (List.all_eq_true.mp h9 q hq))]
  rw [e1]
  exact h j hj
/-- a law of two places speaks of the rows of both -/
def zk_su2 (p : zk_Sp) : List (Nat × Nat) := p.2.1 ++ ((zk_sp2 p.1).1.map (fun r => (r, 999)) ++ (zk_sp2 p.1).2.map (fun r => (r, 999)))
theorem zk_P2_su {HT : List (List zk_H)} {p : zk_Sp} {w w' : zz_W} (h1 : ∀ q ∈ zk_su2 p, q.2 ≠ 999 → zk_fd w' q = zk_fd w q) (h2 : ∀ q ∈ zk_su2 p, q.2 = 999 → zz_g w' q.1 = zz_g w q.1) (h9 : p.2.1.all (fun q => !(Nat.beq q.2 999)) = true) (h : zk_P2 HT p w) : zk_P2 HT p w' := by
  intro k j hk hj
  have e1 : zk_al2 w' (zk_sp2 p.1).1 (zk_sp2 p.1).2 p.2.1 k j = zk_al2 w (zk_sp2 p.1).1 (zk_sp2 p.1).2 p.2.1 k j := by
    unfold zk_al2 zk_a1
    congr 1
    · congr 1
      refine List.map_congr_left (fun r hr => ?_)
      have := h2 (r, 999) (List.mem_append_right _ (List.mem_append_left _ (List.mem_map.mpr ⟨r, hr, rfl⟩))) rfl
      unfold zk_el
      rw [this]
    · congr 1
      · congr 1
        refine List.map_congr_left (fun r hr => ?_)
        have := h2 (r, 999) (List.mem_append_right _ (List.mem_append_right _ (List.mem_map.mpr ⟨r, hr, rfl⟩))) rfl
        unfold zk_el
        rw [this]
      · refine List.map_congr_left (fun q hq => ?_)
        rw [h1 q (List.mem_append_left _ hq) (zk_nbeq (List.all_eq_true.mp h9 q hq))]
  rw [e1]
  exact h k j hk hj
/-- tokens: below 100 laws of one place, from 100 on laws of two -/
def zk_tsl (TL TM : List zk_Sp) (t : Nat) : Option zk_Sp := cond (Nat.blt t 100) TL[t]? (cond (Nat.blt 1099 t) TM[t - 1100]? none)
def zk_sul (TL TM : List zk_Sp) (t : Nat) : List (Nat × Nat) := cond (Nat.blt t 100) (match TL[t]? with
  | some p => zk_su p
  | none => []) (match TM[t - 100]? with
  | some p => zk_su2 p
  | none => [])
def zk_ptl (HT : List (List zk_H)) (TL TM : List zk_Sp) (t : Nat) (w : zz_W) : Prop := match Nat.blt t 100 with
  | true => (match TL[t]? with
    | some p => zk_P HT p w
    | none => True)
  | false => match TM[t - 100]? with
    | some p => zk_P2 HT p w
    | none => True
theorem zk_TTl3 {c : Nat} {HT : List (List zk_H)} {TL TM : List zk_Sp} (h : TL.all (fun p => p.2.1.all (fun q => !(Nat.beq q.2 999))) = true) (hM : TM.all (fun p => p.2.1.all (fun q => !(Nat.beq q.2 999))) = true) : (∀ t w w', zk_I c HT w → zk_I c HT w' → (∀ q ∈ zk_sul TL TM t, q.2 ≠ 999 → zk_fd w' q = zk_fd w q) → (∀ q ∈ zk_sul TL TM t, q.2 = 999 → zz_g w' q.1 = zz_g w q.1) → zk_ptl HT TL TM t w → zk_ptl HT TL TM t w') ∧ (∀ t p, t < 1000 → zk_tsl TL TM t = some p → ∀ w, zk_ptl HT TL TM t w ↔ zk_P HT p w) ∧ (∀ t p, zk_tsl TL TM (1000 + t) = some p → ∀ w, zk_ptl HT TL TM t w ↔ zk_P2 HT p w) := by
  refine ⟨fun t w w' _ _ h1 h2 hP => ?_, fun t p ht hp w => ?_, fun t p hp w => ?_⟩
  · unfold zk_ptl at hP ⊢
    unfold zk_sul at h1 h2
    cases hb : Nat.blt t 100 with
    | true =>
      rw [hb] at h1 h2 hP
      cases ht : TL[t]? with
      | none => trivial
      | some p =>
        simp only [ht] at h1 h2 hP
        exact zk_P_su h1 h2 (List.all_eq_true.mp h p (List.mem_of_getElem? ht)) hP
    | false =>
      rw [hb] at h1 h2 hP
      cases ht : TM[t - 100]? with
      | none => trivial
      | some p =>
        simp only [ht] at h1 h2 hP
        exact zk_P2_su h1 h2 (List.all_eq_true.mp hM p (List.mem_of_getElem? ht)) hP
  · unfold zk_tsl at hp
    unfold zk_ptl
    cases hb : Nat.blt t 100 with
    | true =>
      rw [hb] at hp
      have hp : TL[t]? = some p := hp
      simp only [hp]
    | false =>
      rw [hb] at hp
      have h2 : Nat.blt 1099 t = false := by
        cases h3 : Nat.blt 1099 t with
        | false => rfl
        | true => have := zz_blt h3; omega
      rw [h2] at hp
      cases hp
  · unfold zk_tsl at hp
    unfold zk_ptl
    have hb : Nat.blt (1000 + t) 100 = false := by
      cases h3 : Nat.blt (1000 + t) 100 with
      | false => rfl
      | true => have := zz_blt h3; omega
    rw [hb] at hp
    cases h2 : Nat.blt 1099 (1000 + t) with
    | false => rw [h2] at hp; cases hp
    | true =>
      rw [h2] at hp
      have h4 := zz_blt h2
      have hp : TM[1000 + t - 1100]? = some p := hp
      rw [show 1000 + t - 1100 = t - 100 by omega] at hp
      have hb2 : Nat.blt t 100 = false := by
        cases h3 : Nat.blt t 100 with
        | false => rfl
        | true => have := zz_blt h3; omega
      rw [hb2]
      simp only [hp]
/-- from 200 on: tokens of one's own -/
def zk_ptx (HT : List (List zk_H)) (TL TM : List zk_Sp) (XP : Nat → zz_W → Prop) (t : Nat) (w : zz_W) : Prop := match Nat.blt t 200 with
  | true => zk_ptl HT TL TM t w
  | false => XP t w
def zk_sux (TL TM : List zk_Sp) (XS : Nat → List (Nat × Nat)) (t : Nat) : List (Nat × Nat) := cond (Nat.blt t 200) (zk_sul TL TM t) (XS t)
theorem zk_TTx {c : Nat} {HT : List (List zk_H)} {TL TM : List zk_Sp} {XP : Nat → zz_W → Prop} {XS : Nat → List (Nat × Nat)} {WL : Nat → Option zx_W} {LL : Nat → Option zx_L} {VL : Nat → Option zx_V} (h : TL.all (fun p => p.2.1.all (fun q => !(Nat.beq q.2 999))) = true) (hM : TM.all (fun p => p.2.1.all (fun q => !(Nat.beq q.2 999))) = true) (hl : TM.length ≤ 100)
    (hX : ∀ t w w', zk_I c HT w → zk_I c HT w' → (∀ q ∈ XS t, q.2 ≠ 999 → zk_fd w' q = zk_fd w q) → (∀ q ∈ XS t, q.2 = 999 → zz_g w' q.1 = zz_g w q.1) → XP t w → XP t w') (hW : ∀ j y, WL j = some y → zx_Wok c HT (zk_ptx HT TL TM XP) y) (hL : ∀ j x, LL j = some x → zx_Lok c HT (zk_ptx HT TL TM XP) x) (hV : ∀ j y, VL j = some y → zx_Vok c HT (zk_ptx HT TL TM XP) y) : zk_TT c HT (zk_ptx HT TL TM XP) (zk_sux TL TM XS) (zk_tsl TL TM, WL, LL, VL) := by
  obtain ⟨h1, h2, h3⟩ := zk_TTl3 (c := c) (HT := HT) h hM
  refine ⟨fun t w w' a b hf hg hP => ?_, fun t p ht hp w => ?_, fun t p hp w => ?_, hW, hL, hV⟩
  · unfold zk_ptx at hP ⊢
    unfold zk_sux at hf hg
    cases hb : Nat.blt t 200 with
    | true =>
      rw [hb] at hf hg hP
      exact h1 t w w' a b hf hg hP
    | false =>
      rw [hb] at hf hg hP
      exact hX t w w' a b hf hg hP
  · have hp : zk_tsl TL TM t = some p := hp
    unfold zk_ptx
    cases hb : Nat.blt t 200 with
    | true => exact h2 t p ht hp w
    | false =>
      have h200 : ¬ t < 200 := fun hc => by rw [show Nat.blt t 200 = true from Nat.ble_eq.mpr hc] at hb; cases hb
      unfold zk_tsl at hp
      have b1 : Nat.blt t 100 = false := by
        cases h4 : Nat.blt t 100 with
        | false => rfl
        | true => have := zz_blt h4; omega
      have b2 : Nat.blt 1099 t = false := by
        cases h4 : Nat.blt 1099 t with
        | false => rfl
        | true => have := zz_blt h4; omega
      rw [b1, b2] at hp
      cases hp
  · have hp : zk_tsl TL TM (1000 + t) = some p := hp
    unfold zk_ptx
    cases hb : Nat.blt t 200 with
    | true => exact h3 t p hp w
    | false =>
      have h200 : ¬ t < 200 := fun hc => by rw [show Nat.blt t 200 = true from Nat.ble_eq.mpr hc] at hb; cases hb
      unfold zk_tsl at hp
      have b1 : Nat.blt (1000 + t) 100 = false := by
        cases h4 : Nat.blt (1000 + t) 100 with
        | false => rfl
        | true => have := zz_blt h4; omega
      have b2 : Nat.blt 1099 (1000 + t) = true := Nat.ble_eq.mpr (by omega)
      rw [b1, b2] at hp
      have hp : TM[1000 + t - 1100]? = some p := hp
      rw [List.getElem?_eq_none (by omega)] at hp
      cases hp
/-- no tokens of one's own -/
theorem zk_TTl {c : Nat} {HT : List (List zk_H)} {TL TM : List zk_Sp} (h : TL.all (fun p => p.2.1.all (fun q => !(Nat.beq q.2 999))) = true) (hM : TM.all (fun p => p.2.1.all (fun q => !(Nat.beq q.2 999))) = true) (hl : TM.length ≤ 100) : zk_TT c HT (zk_ptx HT TL TM (fun _ _ => True)) (zk_sux TL TM (fun _ => [])) (zk_tsl TL TM, fun _ => none, fun _ => none, fun _ => none) :=
  zk_TTx h hM hl (fun _ _ _ _ _ _ _ _ => trivial) (fun _ _ h => by cases h) (fun _ _ h => by cases h) (fun _ _ h => by cases h)
end
