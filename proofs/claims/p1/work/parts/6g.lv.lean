/-! LOCALS in another order, some forgotten -/
section ZLV
variable {l : Launch} {Ts : List Cond} {D : va_G} {cl : List vw_C} {fk : Nat → Nat → Nat} {cy : Nat → ClassId} {z0 : Nat} {sp : Nat → Nat} {tys : List (ClassId × FieldType)} {G : State → Prop} {own mn : String} {nL : Nat} {cc : ByteArray} {d : Nat} {pc : Nat} {f : zz_F}
theorem zz_fl {lv lv' : List (Nat × Value)} {st : List Value} {w : zz_W} (b : zz_B l Ts D cl fk cy z0 sp tys G own mn nL cc d f (pc, lv, st, w)) (h : ∀ x ∈ lv', x ∈ lv) : zz_B l Ts D cl fk cy z0 sp tys G own mn nL cc d f (pc, lv', st, w) := by
  refine zz_B_tr b ⟨⟨Nat.le_refl _, Nat.le_refl _⟩, fun _ _ _ _ _ _ _ _ _ _ _ _ H locs _ _ _ ls hI hS hl _ _ _ _ kk => kk H locs ls hI hS ⟨hl.1, hl.2.1, fun q hq => ?_⟩⟩
  obtain ⟨x, hx, e⟩ := List.mem_map.mp hq
  exact hl.2.2 q (List.mem_map.mpr ⟨x, h x hx, e⟩)
end ZLV
theorem zz_mc {α : Type} {a : α} {l' l : List α} (h : a ∈ l) (t : ∀ x ∈ l', x ∈ l) : ∀ x ∈ a :: l', x ∈ l := List.forall_mem_cons.mpr ⟨h, t⟩
theorem zz_mn {α : Type} {l : List α} : ∀ x ∈ ([] : List α), x ∈ l := fun _ h => absurd h List.not_mem_nil
