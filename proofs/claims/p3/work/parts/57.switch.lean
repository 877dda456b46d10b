/-! SWITCHES BY KEYS -/
def zz_lo (d : Nat) (l : List (Int × Nat)) (x : Int) : Option Nat := match l with
  | [] => some d
  | q :: r => if x = q.1 then some q.2 else zz_lo d r x
theorem zz_lo_ok0 {pc dt : Nat} {dflt : Int} (h1 : (pc : Int) + dflt = (dt : Int)) : ∀ (ps : List (Int × Int)) (l : List (Int × Nat)), ps.map (fun q => (q.1, (pc : Int) + q.2)) = l.map (fun q => (q.1, (q.2 : Int))) → ∀ x t, zz_lo dt l x = some t → (pc : Int) + Op.lookupswitch.offset ps dflt x = (t : Int)
  | [], [], _, x, t, h => by
    cases h
    exact h1
  | [], _ :: _, h, _, _, _ => by cases h
  | _ :: _, [], h, _, _, _ => by cases h
  | (a, o) :: ps, (b, u) :: l, h, x, t, hx => by
    simp only [List.map_cons, List.cons.injEq, Prod.mk.injEq] at h
    obtain ⟨⟨e1, e2⟩, e3⟩ := h
    unfold zz_lo at hx
    by_cases hc : x = b
    · rw [if_pos hc] at hx
      cases hx
      have : Op.lookupswitch.offset ((a, o) :: ps) dflt x = o := by
        rw [hc, ← e1]
        simp [Op.lookupswitch.offset]
      rw [this]
      exact e2
    · rw [if_neg hc] at hx
      have : Op.lookupswitch.offset ((a, o) :: ps) dflt x = Op.lookupswitch.offset ps dflt x := by
        have hn : ¬ a = x := fun q => hc (q ▸ e1)
        have hn2 : ¬ x = a := fun q => hn q.symm
        simp [Op.lookupswitch.offset, hn, hn2]
      rw [this]
      exact zz_lo_ok0 h1 ps l e3 x t hx
theorem zz_lo_ok {pc dt : Nat} {dflt : Int} {ps : Array (Int × Int)} {l : List (Int × Nat)} (h1 : (pc : Int) + dflt = (dt : Int)) (h2 : ps.toList.map (fun q => (q.1, (pc : Int) + q.2)) = l.map (fun q => (q.1, (q.2 : Int)))) : ∀ x t, zz_lo dt l x = some t → (pc : Int) + Op.lookupswitch.offset ps.toList dflt x = (t : Int) := zz_lo_ok0 h1 ps.toList l h2
