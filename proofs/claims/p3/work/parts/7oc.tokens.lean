/-! TOKENS by a list of laws of rows -/
def zk_su (p : zk_Sp) : List (Nat × Nat) := p.2.1 ++ p.1.map (fun r => (r, 999))
theorem zk_P_su {HT : List (List zk_H)} {p : zk_Sp} {w w' : zz_W} (h1 : ∀ q ∈ zk_su p, q.2 ≠ 999 → zk_fd w' q = zk_fd w q) (h2 : ∀ q ∈ zk_su p, q.2 = 999 → zz_g w' q.1 = zz_g w q.1) (h9 : p.2.1.all (fun q => !(Nat.beq q.2 999)) = true) (h : zk_P HT p w) : zk_P HT p w' := by
  intro j hj
  have e1 : zk_al w' p.1 p.2.1 j = zk_al w p.1 p.2.1 j := by
    unfold zk_al
    congr 2
    · refine List.map_congr_left (fun r hr => ?_)
      have := h2 (r, 999) (List.mem_append_right _ (List.mem_map.mpr ⟨r, hr, rfl⟩)) rfl
      unfold zk_el
      rw [this]
    · refine List.map_congr_left (fun q hq => ?_)
      rw [h1 q (List.mem_append_left _ hq) (zk_nbeq (List.all_eq_true.mp h9 q hq))]
  rw [e1]
  exact h j hj
def zk_tsl (TL : List zk_Sp) (t : Nat) : Option zk_Sp := TL[t]?
def zk_sul (TL : List zk_Sp) (t : Nat) : List (Nat × Nat) := match TL[t]? with
  | some p => zk_su p
  | none => []
def zk_ptl (HT : List (List zk_H)) (TL : List zk_Sp) (t : Nat) (w : zz_W) : Prop := match TL[t]? with
  | some p => zk_P HT p w
  | none => True
theorem zk_TTl {c : Nat} {HT : List (List zk_H)} {TL : List zk_Sp} (h : TL.all (fun p => p.2.1.all (fun q => !(Nat.beq q.2 999))) = true) : zk_TT c HT (zk_ptl HT TL) (zk_sul TL) (zk_tsl TL) := by
  refine ⟨fun t w w' _ _ h1 h2 hP => ?_, fun t p hp w => ?_⟩
  · unfold zk_ptl at hP ⊢
    unfold zk_sul at h1 h2
    cases ht : TL[t]? with
    | none => trivial
    | some p =>
      rw [ht] at h1 h2 hP
      exact zk_P_su h1 h2 (List.all_eq_true.mp h p (List.mem_of_getElem? ht)) hP
  · unfold zk_tsl at hp
    unfold zk_ptl
    rw [hp]
