/-! THE ABSTRACT MACHINE AND THE REAL ONE: what an abstract world says of a heap. Cell i stands at the address z0 + i, or, by another naming (sp 18446744073709551616 = k), the cells 58 to 74 change names with those 17 k on; numbers from 1000000 on are things that stood there before (texts, constant rows), at the addresses sp. -/
def zz_sw (k i : Nat) : Nat := if 58 ≤ i ∧ i < 75 then i + 17 * k else if 58 + 17 * k ≤ i ∧ i < 75 + 17 * k then i - 17 * k else i
theorem zz_sw_a {k i : Nat} (h : 58 ≤ i ∧ i < 75) : zz_sw k i = i + 17 * k := if_pos h
theorem zz_sw_b {k i : Nat} (h : ¬ (58 ≤ i ∧ i < 75)) (h2 : 58 + 17 * k ≤ i ∧ i < 75 + 17 * k) : zz_sw k i = i - 17 * k := by
  unfold zz_sw
  rw [if_neg h, if_pos h2]
theorem zz_sw_c {k i : Nat} (h : ¬ (58 ≤ i ∧ i < 75)) (h2 : ¬ (58 + 17 * k ≤ i ∧ i < 75 + 17 * k)) : zz_sw k i = i := by
  unfold zz_sw
  rw [if_neg h, if_neg h2]
theorem zz_sw_sw (k i : Nat) : zz_sw k (zz_sw k i) = i := by
  by_cases h1 : 58 ≤ i ∧ i < 75
  · rw [zz_sw_a h1]
    by_cases h2 : 58 ≤ i + 17 * k ∧ i + 17 * k < 75
    · rw [zz_sw_a h2]
      omega
    · rw [zz_sw_b h2 (by omega)]
      omega
  · by_cases h2 : 58 + 17 * k ≤ i ∧ i < 75 + 17 * k
    · rw [zz_sw_b h1 h2, zz_sw_a (by omega)]
      omega
    · rw [zz_sw_c h1 h2, zz_sw_c h1 h2]
theorem zz_sw_ne {k i j : Nat} (h : i ≠ j) : zz_sw k i ≠ zz_sw k j := fun e => h (by rw [← zz_sw_sw k i, e, zz_sw_sw])
theorem zz_sw_0 (i : Nat) : zz_sw 0 i = i := by
  by_cases h1 : 58 ≤ i ∧ i < 75
  · rw [zz_sw_a h1]
    omega
  · rw [zz_sw_c h1 (by omega)]
/-- the address of cell i -/
abbrev zz_ad (z0 : Nat) (sp : Nat → Nat) (i : Nat) : Nat := z0 + zz_sw (sp 18446744073709551616) i
theorem zz_ad_0 {z0 : Nat} {sp : Nat → Nat} (h : sp 18446744073709551616 = 0) (i : Nat) : zz_ad z0 sp i = z0 + i := by
  show z0 + zz_sw (sp 18446744073709551616) i = z0 + i
  rw [h, zz_sw_0]
theorem zz_ad_ne {z0 : Nat} {sp : Nat → Nat} {i j : Nat} (h : i ≠ j) : zz_ad z0 sp i ≠ zz_ad z0 sp j := fun e => zz_sw_ne (k := sp 18446744073709551616) h (Nat.add_left_cancel e)
def zz_r (z0 : Nat) (sp : Nat → Nat) (i : Nat) : Nat := if i < 1000000 then zz_ad z0 sp i else sp (i - 1000000)
def zz_v (z0 : Nat) (sp : Nat → Nat) (v : Value) : Value := match v with
  | .ref i => .ref (zz_r z0 sp i)
  | .retAddr _ => if sp 2000000 = 0 then .null else .ref (sp 2000000 - 1)
  | x => x
def zz_o (z0 : Nat) (sp : Nat → Nat) (n : Nat) : Option Nat := if n = 0 then none else some (zz_r z0 sp (n - 1))
/-- a field's number as a value: kinds 0 int, 1 long, others a reference -/
def zz_av (kd n : Nat) : Value := if kd = 0 then .int (Int32.ofNat n) else if kd = 1 then .long (Int64.ofNat n) else if n = 0 then .null else .ref (n - 1)
def zz_en (kd : Nat) (v : Value) : Option Nat := match v with
  | .int x => if kd = 0 then some (zz_nI x) else none
  | .long x => if kd = 1 then some (zz_nL x) else none
  | .null => if kd = 2 then some 0 else none
  | .ref i => if kd = 2 then (if i < 4000000 then some (i + 1) else none) else none
  | _ => none
theorem zz_en_ok {kd n : Nat} {v : Value} (h : zz_en kd v = some n) : n < 2 ^ 64 ∧ zz_av kd n = v := by
  cases v with
  | int x =>
    simp only [zz_en] at h
    split at h
    · rename_i hk
      cases h
      refine ⟨Nat.lt_of_lt_of_le (zz_nI_lt x) (Nat.pow_le_pow_right (by omega) (by omega)), ?_⟩
      rw [zz_av, if_pos hk, zz_nI_of]
    · cases h
  | long x =>
    simp only [zz_en] at h
    split at h
    · rename_i hk
      cases h
      refine ⟨zz_nL_lt x, ?_⟩
      rw [zz_av, if_neg (by omega), if_pos hk, zz_nL_of]
    · cases h
  | null =>
    simp only [zz_en] at h
    split at h
    · rename_i hk
      cases h
      refine ⟨by decide, ?_⟩
      rw [zz_av, if_neg (by omega), if_neg (by omega), if_pos rfl]
    · cases h
  | ref i =>
    simp only [zz_en] at h
    split at h
    · rename_i hk
      split at h
      · rename_i hi
        cases h
        refine ⟨Nat.lt_of_le_of_lt (Nat.succ_le_of_lt hi) (by decide), ?_⟩
        rw [zz_av, if_neg (by omega), if_neg (by omega), if_neg (by omega)]
        rfl
      · cases h
    · cases h
  | _ => cases h
def zz_e (fk : Nat → Nat → Nat) (cy : Nat → ClassId) (z0 : Nat) (sp : Nat → Nat) (c : zz_C) : va_E :=
  if c.1 = 0 then .inl (cy c.2.1, c.2.2.1, .inl (fun j => Int32.ofNat (zz_at 32 c.2.2.2 j)))
  else if c.1 = 1 then .inl (cy c.2.1, c.2.2.1, .inr (.inl (fun j => Int64.ofNat (zz_at 64 c.2.2.2 j))))
  else if c.1 = 2 then .inl (cy c.2.1, c.2.2.1, .inr (.inr (.inr (.inr (fun j => zz_o z0 sp (zz_at 32 c.2.2.2 j))))))
  else .inr (c.2.1, (List.range c.2.2.1).map (fun k => zz_v z0 sp (zz_av (fk c.2.1 k) (zz_at 64 c.2.2.2 k))))
def zz_ws (fk : Nat → Nat → Nat) (cy : Nat → ClassId) (z0 : Nat) (sp : Nat → Nat) (w : zz_W) : va_W := (List.range w.1).map (fun i => (zz_ad z0 sp i, zz_e fk cy z0 sp (zz_g w i)))
def zz_I (D : va_G) (cl : List vw_C) (fk : Nat → Nat → Nat) (cy : Nat → ClassId) (z0 : Nat) (sp : Nat → Nat) (w : zz_W) (H : Heap) : Prop := H.size = z0 + w.1 ∧ va_P D cl (zz_ws fk cy z0 sp w) H
section ZR
variable {D : va_G} {cl : List vw_C} {fk : Nat → Nat → Nat} {cy : Nat → ClassId} {z0 : Nat} {sp : Nat → Nat} {w w' : zz_W} {H H1 : Heap}
theorem zz_ws_get {i : Nat} (h : i < w.1) : (zz_ws fk cy z0 sp w)[i]? = some (zz_ad z0 sp i, zz_e fk cy z0 sp (zz_g w i)) := by
  unfold zz_ws
  rw [List.getElem?_map, List.getElem?_range h]
  rfl
theorem zz_ws_at {i : Nat} {q : Nat × va_E} (h : (zz_ws fk cy z0 sp w)[i]? = some q) : i < w.1 ∧ q = (zz_ad z0 sp i, zz_e fk cy z0 sp (zz_g w i)) := by
  have hl : i < w.1 := by
    have := (List.getElem?_eq_some_iff.mp h).1
    unfold zz_ws at this
    rw [List.length_map, List.length_range] at this
    exact this
  rw [zz_ws_get hl] at h
  exact ⟨hl, (Option.some.inj h).symm⟩
theorem zz_I_at (hI : zz_I D cl fk cy z0 sp w H) {i : Nat} (h : i < w.1) : va_at D cl (zz_ad z0 sp i, zz_e fk cy z0 sp (zz_g w i)) H := hI.2 i _ (zz_ws_get h)
theorem zz_ws_D : va_D (fun q : Nat => z0 ≤ q) (zz_ws fk cy z0 sp w) := by
  refine ⟨fun i j p q hi hj e => ?_, fun k q hk => ?_⟩
  · obtain ⟨-, rfl⟩ := zz_ws_at hi
    obtain ⟨-, rfl⟩ := zz_ws_at hj
    have e : zz_ad z0 sp i = zz_ad z0 sp j := e
    exact Classical.byContradiction (fun hn => zz_ad_ne hn e)
  · obtain ⟨-, rfl⟩ := zz_ws_at hk
    exact Nat.le_add_right _ _
theorem zz_I_set (hI : zz_I D cl fk cy z0 sp w H) {i : Nat} {c : zz_C} (hw : w'.1 = w.1) (hg : ∀ j, zz_g w' j = if j = i then c else zz_g w j) (ha : va_at D cl (zz_ad z0 sp i, zz_e fk cy z0 sp c) H1) (hz : H1.size = H.size) (ho : ∀ q : Nat, q ≠ zz_ad z0 sp i → H1[q]? = H[q]?) : zz_I D cl fk cy z0 sp w' H1 := by
  refine ⟨by rw [hz, hw]; exact hI.1, fun k q hk => ?_⟩
  obtain ⟨hl, rfl⟩ := zz_ws_at hk
  rw [hg k]
  by_cases hki : k = i
  · subst hki
    rw [if_pos rfl]
    exact ha
  · rw [if_neg hki]
    exact (zz_I_at hI (by rw [← hw]; exact hl)).kept (ho _ (zz_ad_ne hki))
theorem zz_I_push (hsp0 : sp 18446744073709551616 = 0) (hI : zz_I D cl fk cy z0 sp w H) {c : zz_C} (hw : w'.1 = w.1 + 1) (hg : ∀ j, zz_g w' j = if j = w.1 then c else zz_g w j) (ha : va_at D cl (z0 + w.1, zz_e fk cy z0 sp c) H1) (hz : H1.size = H.size + 1) (ho : ∀ q : Nat, q < H.size → H1[q]? = H[q]?) : zz_I D cl fk cy z0 sp w' H1 := by
  refine ⟨by rw [hz, hw, hI.1]; omega, fun k q hk => ?_⟩
  obtain ⟨hl, rfl⟩ := zz_ws_at hk
  rw [hg k]
  by_cases hki : k = w.1
  · subst hki
    rw [if_pos rfl, zz_ad_0 hsp0]
    exact ha
  · rw [if_neg hki]
    exact (zz_I_at hI (by omega)).kept (ho _ (by show zz_ad z0 sp k < H.size; rw [zz_ad_0 hsp0, hI.1]; omega))
/-- what has changed since H0, all above z0 -/
theorem zz_S_put {A : Nat → Prop} {H0 : Heap} {locs : List Loc} {a k : Nat} (h : va_S A H0 H locs) (z : H1.size = H.size) (oq : ∀ q : Nat, q ≠ a → H1[q]? = H[q]?) (ha : A a) : va_S A H0 H1 (locs ++ [⟨a, k⟩]) := h.put z oq ha
theorem zz_S_new {A : Nat → Prop} {H0 : Heap} {locs : List Loc} (h : va_S A H0 H locs) (z : H1.size = H.size + 1) (oq : ∀ q : Nat, q < H.size → H1[q]? = H[q]?) : va_S A H0 H1 locs :=
  ⟨by rw [z]; exact Nat.le_trans h.1 (Nat.le_succ _), fun q h1 h2 => (oq q (Nat.lt_of_lt_of_le h1 h.1)).trans (h.2.1 q h1 h2), h.2.2⟩
end ZR
/-- frames: pc, locals, operands, world; what calls answer; what an instruction does -/
abbrev zz_F : Type := Nat × List (Nat × Value) × List Value × zz_W
abbrev zz_K : Type := Nat → List Value → zz_W → Option (List Value × zz_W)
abbrev zz_A : Type := zz_K → zz_F → Option zz_F
def zz_lv (z0 : Nat) (sp : Nat → Nat) (l : List (Nat × Value)) : List (Nat × Value) := l.map (fun q => (q.1, zz_v z0 sp q.2))
def zz_sv (z0 : Nat) (sp : Nat → Nat) (l : List Value) : List Value := l.map (zz_v z0 sp)
theorem zz_v_cat (z0 : Nat) (sp : Nat → Nat) (v : Value) : (zz_v z0 sp v).category = v.category := by
  cases v with
  | retAddr n =>
    show (if sp 2000000 = 0 then Value.null else Value.ref (sp 2000000 - 1)).category = _
    split <;> rfl
  | _ => rfl
theorem zz_lv_filter (z0 : Nat) (sp : Nat → Nat) (two : Bool) (i : Nat) (l : List (Nat × Value)) : (zz_lv z0 sp l).filter (zz_lk two i) = zz_lv z0 sp (l.filter (zz_lk two i)) := by
  unfold zz_lv
  rw [List.filter_map]
  congr 1
  apply List.filter_congr
  intro q _
  simp only [Function.comp, zz_lk, zz_v_cat]
/-- the local at place i -/
def zz_lg (l : List (Nat × Value)) (i : Nat) : Option Value := match l with
  | [] => none
  | q :: r => if q.1 == i then some q.2 else zz_lg r i
theorem zz_lg_mem {i : Nat} {v : Value} : ∀ {l : List (Nat × Value)}, zz_lg l i = some v → (i, v) ∈ l
  | [], h => by cases h
  | q :: r, h => by
    unfold zz_lg at h
    split at h
    · rename_i hq
      cases h
      have : q.1 = i := by simpa using hq
      rw [← this]
      exact List.mem_cons_self
    · exact List.mem_cons_of_mem _ (zz_lg_mem h)
theorem zz_lg_at {ls : Array Slot} {nL : Nat} {z0 : Nat} {sp : Nat → Nat} {l : List (Nat × Value)} (h : lv_has ls nL (zz_lv z0 sp l)) {i : Nat} {v : Value} (hv : zz_lg l i = some v) : ls[i]? = some (.val (zz_v z0 sp v)) := by
  refine h.2.2 (i, zz_v z0 sp v) ?_
  exact List.mem_map.mpr ⟨(i, v), zz_lg_mem hv, rfl⟩
