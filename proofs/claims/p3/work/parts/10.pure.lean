section
/-! THE ABSTRACT MACHINE, PURE PART: arrays and fields as one number each, worlds as chunks of cells, strict updates that a kernel can run. -/
/-- element i of the row N, w bits each -/
def zz_at (w N i : Nat) : Nat := (N >>> (w * i)) % 2 ^ w
/-- the row N with element i made v -/
def zz_to (w N i v : Nat) : Nat := N ^^^ ((zz_at w N i ^^^ v) <<< (w * i))
theorem zz_at_lt (w N i : Nat) : zz_at w N i < 2 ^ w := Nat.mod_lt _ (Nat.two_pow_pos w)
theorem zz_at_bit (w N i b : Nat) : (zz_at w N i).testBit b = (decide (b < w) && N.testBit (w * i + b)) := by
  unfold zz_at
  rw [Nat.testBit_mod_two_pow, Nat.testBit_shiftRight]
theorem zz_at_0 (w i : Nat) : zz_at w 0 i = 0 := by
  unfold zz_at
  simp
theorem zz_at_to {w N i v : Nat} (hv : v < 2 ^ w) (j : Nat) : zz_at w (zz_to w N i v) j = if j = i then v else zz_at w N j := by
  have hd : zz_at w N i ^^^ v < 2 ^ w := Nat.xor_lt_two_pow (zz_at_lt w N i) hv
  apply Nat.eq_of_testBit_eq
  intro b
  rw [zz_at_bit]
  unfold zz_to
  rw [Nat.testBit_xor, Nat.testBit_shiftLeft]
  by_cases hb : b < w
  · by_cases hj : j = i
    · subst hj
      rw [if_pos rfl]
      have h1 : w * j ≤ w * j + b := Nat.le_add_right _ _
      have h2 : w * j + b - w * j = b := by omega
      rw [h2, Nat.testBit_xor, zz_at_bit]
      simp [hb]
    · rw [if_neg hj, zz_at_bit]
      by_cases hl : j < i
      · have h1 : ¬ w * j + b ≥ w * i := by
          have h3 : w * (j + 1) ≤ w * i := Nat.mul_le_mul_left w hl
          rw [Nat.mul_add, Nat.mul_one] at h3
          omega
        simp [hb, h1]
      · have hg : i < j := by omega
        have h3 : w * (i + 1) ≤ w * j := Nat.mul_le_mul_left w hg
        rw [Nat.mul_add, Nat.mul_one] at h3
        have h4 : w ≤ w * j + b - w * i := by omega
        have h5 : (zz_at w N i ^^^ v).testBit (w * j + b - w * i) = false := Nat.testBit_lt_two_pow (Nat.lt_of_lt_of_le hd (Nat.pow_le_pow_right (by omega) h4))
        simp [hb, h5]
  · have h6 : (if j = i then v else zz_at w N j) < 2 ^ w := by
      split
      · exact hv
      · exact zz_at_lt w N j
    have h7 : (if j = i then v else zz_at w N j).testBit b = false := Nat.testBit_lt_two_pow (Nat.lt_of_lt_of_le h6 (Nat.pow_le_pow_right (by omega) (by omega)))
    rw [h7]
    simp [hb]
/-- a number, worked out before it is handed on -/
noncomputable def zz_fN {β : Sort _} (n : Nat) (k : Nat → β) : β := Nat.casesOn n (k 0) (fun m => k (m + 1))
theorem zz_fN_eq {β : Sort _} (n : Nat) (k : Nat → β) : zz_fN n k = k n := by cases n <;> rfl
def zz_nI (x : Int32) : Nat := x.toBitVec.toNat
def zz_nL (x : Int64) : Nat := x.toBitVec.toNat
theorem zz_nI_lt (x : Int32) : zz_nI x < 2 ^ 32 := x.toBitVec.isLt
theorem zz_nL_lt (x : Int64) : zz_nL x < 2 ^ 64 := x.toBitVec.isLt
theorem zz_nI_of (x : Int32) : Int32.ofNat (zz_nI x) = x := by
  apply Int32.toBitVec_inj.mp
  show BitVec.ofNat 32 x.toBitVec.toNat = x.toBitVec
  simp
theorem zz_nL_of (x : Int64) : Int64.ofNat (zz_nL x) = x := by
  apply Int64.toBitVec_inj.mp
  show BitVec.ofNat 64 x.toBitVec.toNat = x.toBitVec
  simp
noncomputable def zz_fI {β : Sort _} (x : Int32) (k : Int32 → β) : β := zz_fN (zz_nI x) (fun n => k (Int32.ofNat n))
noncomputable def zz_fL {β : Sort _} (x : Int64) (k : Int64 → β) : β := zz_fN (zz_nL x) (fun n => k (Int64.ofNat n))
theorem zz_fI_eq {β : Sort _} (x : Int32) (k : Int32 → β) : zz_fI x k = k x := by unfold zz_fI; rw [zz_fN_eq, zz_nI_of]
theorem zz_fL_eq {β : Sort _} (x : Int64) (k : Int64 → β) : zz_fL x k = k x := by unfold zz_fL; rw [zz_fN_eq, zz_nL_of]
/-- a list with place i made v, worked out before it is handed on; bad if there is no such place -/
noncomputable def zz_ls {α : Type} {β : Sort _} (l : List α) (v : α) (bad : β) : Nat → (List α → β) → β :=
  List.rec (motive := fun _ => Nat → (List α → β) → β) (fun _ _ => bad) (fun x xs ih i k => Nat.casesOn i (k (v :: xs)) (fun n => ih n (fun r => k (x :: r)))) l
theorem zz_ls_eq {α : Type} {β : Sort _} (v : α) (bad : β) : ∀ (l : List α) (i : Nat) (k : List α → β), zz_ls l v bad i k = if i < l.length then k (l.set i v) else bad
  | [], i, k => by
    rw [if_neg (by simp)]
    rfl
  | x :: xs, 0, k => by
    rw [if_pos (by simp)]
    rfl
  | x :: xs, n + 1, k => by
    show zz_ls xs v bad n (fun r => k (x :: r)) = _
    rw [zz_ls_eq v bad xs n]
    simp [Nat.succ_lt_succ_iff]
/-- the locals but those that a store to i takes away (two: a long's store) -/
def zz_lk (two : Bool) (i : Nat) (q : Nat × Value) : Bool := !(q.1 == i) && (!(two && (q.1 == i + 1)) && !(q.1 + 1 == i && q.2.category == 2))
noncomputable def zz_lf {β : Sort _} (two : Bool) (i : Nat) (l : List (Nat × Value)) : (List (Nat × Value) → β) → β :=
  List.rec (motive := fun _ => (List (Nat × Value) → β) → β) (fun k => k []) (fun x _ ih k => Bool.casesOn (zz_lk two i x) (ih k) (ih (fun r => k (x :: r)))) l
theorem zz_lf_eq {β : Sort _} (two : Bool) (i : Nat) : ∀ (l : List (Nat × Value)) (k : List (Nat × Value) → β), zz_lf two i l k = k (l.filter (zz_lk two i))
  | [], k => rfl
  | x :: xs, k => by
    cases h : zz_lk two i x with
    | false =>
      rw [List.filter_cons_of_neg (by simp [h]), ← zz_lf_eq two i xs k]
      show Bool.rec (motive := fun _ => β) (zz_lf two i xs k) (zz_lf two i xs (fun r => k (x :: r))) (zz_lk two i x) = _
      rw [h]
    | true =>
      rw [List.filter_cons_of_pos h, ← zz_lf_eq two i xs (fun r => k (x :: r))]
      show Bool.rec (motive := fun _ => β) (zz_lf two i xs k) (zz_lf two i xs (fun r => k (x :: r))) (zz_lk two i x) = _
      rw [h]
/-- cells: (kind, element or class, length, content); kinds: 0 ints, 1 longs, 2 references, 3 an object -/
abbrev zz_C : Type := Nat × Nat × Nat × Nat
/-- worlds: cells, slots, the cells in chunks of 16 -/
abbrev zz_W : Type := Nat × Nat × List (List zz_C)
def zz_c0 : zz_C := (0, 0, 0, 0)
def zz_g (w : zz_W) (i : Nat) : zz_C := (w.2.2.getD (i / 16) []).getD (i % 16) zz_c0
/-- the world with cell i made c, worked out; bad if there is no such place -/
noncomputable def zz_st {β : Sort _} (w : zz_W) (i : Nat) (c : zz_C) (bad : β) (k : zz_W → β) : β :=
  zz_ls (w.2.2.getD (i / 16) []) c bad (i % 16) (fun r => zz_ls w.2.2 r bad (i / 16) (fun rr => k (w.1, w.2.1, rr)))
theorem zz_st_ok {β : Type} {w : zz_W} {i : Nat} {c : zz_C} {k : zz_W → Option β} {b : β} (h : zz_st w i c none k = some b) :
    ∃ w' : zz_W, k w' = some b ∧ w'.1 = w.1 ∧ w'.2.1 = w.2.1 ∧ ∀ j, zz_g w' j = if j = i then c else zz_g w j := by
  unfold zz_st at h
  rw [zz_ls_eq] at h
  split at h
  · rename_i h1
    rw [zz_ls_eq] at h
    split at h
    · rename_i h2
      refine ⟨_, h, rfl, rfl, fun j => ?_⟩
      unfold zz_g
      show ((w.2.2.set (i / 16) ((w.2.2.getD (i / 16) []).set (i % 16) c)).getD (j / 16) []).getD (j % 16) zz_c0 = _
      by_cases hj : j = i
      · subst hj
        rw [if_pos rfl]
        simp only [List.getD_eq_getElem?_getD, List.getElem?_set_self h2, Option.getD_some]
        simp only [List.getD_eq_getElem?_getD] at h1
        rw [List.getElem?_set_self h1]
        rfl
      · rw [if_neg hj]
        by_cases hq : j / 16 = i / 16
        · have hr : i % 16 ≠ j % 16 := by omega
          rw [hq]
          simp only [List.getD_eq_getElem?_getD, List.getElem?_set_self h2, Option.getD_some]
          rw [List.getElem?_set_ne hr]
        · simp only [List.getD_eq_getElem?_getD, List.getElem?_set_ne (Ne.symm hq)]
    · cases h
  · cases h
end
section
/-! THE ABSTRACT MACHINE AND THE REAL ONE: what an abstract world says of a heap. Cell i stands at the address z0 + i, or, by another naming (sp 18446744073709551616 = k), the cells 58 to 74 change names with those 17 k on; numbers from 1000000 on are things that stood there before (texts, constant rows), at the addresses sp. -/
def zz_sw (k i : Nat) : Nat := if 58 ≤ i ∧ i < 75 then i + 17 * k else if 58 + 17 * k ≤ i ∧ i < 75 + 17 * k then i - 17 * k else i
theorem zz_sw_a {k i : Nat} (h : 58 ≤ i ∧ i < 75) : zz_sw k i = i + 17 * k := if_pos h
theorem zz_sw_b {k i : Nat} (h : ¬ (58 ≤ i ∧ i < 75)) (h2 : 58 + 17 * k ≤ i ∧ i < 75 + 17 * k) : zz_sw k i = i - 17 * k := by
  unfold zz_sw
  rw [if_neg h, if_pos h2]
theorem zz_sw_c {k i : Nat} (h : ¬ (58 ≤ i ∧ i < 75)) (h2 : ¬ (58 + 17 * k ≤ i ∧ i < 75 + 17 * k)) : zz_sw k i = i := by
  unfold zz_sw
  rw [if_neg h, if_neg h2]
theorem zz_sw_sw (k i : Nat) : zz_sw k (zz_sw k i) = i := by
  by_cases h1 : 58 ≤ i ∧ i < 75
  · rw [zz_sw_a h1]
    by_cases h2 : 58 ≤ i + 17 * k ∧ i + 17 * k < 75
    · rw [zz_sw_a h2]
      omega
    · rw [zz_sw_b h2 (by omega)]
      omega
  · by_cases h2 : 58 + 17 * k ≤ i ∧ i < 75 + 17 * k
    · rw [zz_sw_b h1 h2, zz_sw_a (by omega)]
      omega
    · rw [zz_sw_c h1 h2, zz_sw_c h1 h2]
theorem zz_sw_ne {k i j : Nat} (h : i ≠ j) : zz_sw k i ≠ zz_sw k j := fun e => h (by rw [← zz_sw_sw k i, e, zz_sw_sw])
theorem zz_sw_0 (i : Nat) : zz_sw 0 i = i := by
  by_cases h1 : 58 ≤ i ∧ i < 75
  · rw [zz_sw_a h1]
    omega
  · rw [zz_sw_c h1 (by omega)]
/-- the address of cell i -/
abbrev zz_ad (z0 : Nat) (sp : Nat → Nat) (i : Nat) : Nat := z0 + zz_sw (sp 18446744073709551616) i
theorem zz_ad_0 {z0 : Nat} {sp : Nat → Nat} (h : sp 18446744073709551616 = 0) (i : Nat) : zz_ad z0 sp i = z0 + i := by
  show z0 + zz_sw (sp 18446744073709551616) i = z0 + i
  rw [h, zz_sw_0]
theorem zz_ad_ne {z0 : Nat} {sp : Nat → Nat} {i j : Nat} (h : i ≠ j) : zz_ad z0 sp i ≠ zz_ad z0 sp j := fun e => zz_sw_ne (k := sp 18446744073709551616) h (Nat.add_left_cancel e)
def zz_r (z0 : Nat) (sp : Nat → Nat) (i : Nat) : Nat := if i < 1000000 then zz_ad z0 sp i else sp (i - 1000000)
def zz_v (z0 : Nat) (sp : Nat → Nat) (v : Value) : Value := match v with
  | .ref i => .ref (zz_r z0 sp i)
  | .retAddr _ => if sp 2000000 = 0 then .null else .ref (sp 2000000 - 1)
  | x => x
def zz_o (z0 : Nat) (sp : Nat → Nat) (n : Nat) : Option Nat := if n = 0 then none else some (zz_r z0 sp (n - 1))
/-- a field's number as a value: kinds 0 int, 1 long, others a reference -/
def zz_av (kd n : Nat) : Value := if kd = 0 then .int (Int32.ofNat n) else if kd = 1 then .long (Int64.ofNat n) else if n = 0 then .null else .ref (n - 1)
def zz_en (kd : Nat) (v : Value) : Option Nat := match v with
  | .int x => if kd = 0 then some (zz_nI x) else none
  | .long x => if kd = 1 then some (zz_nL x) else none
  | .null => if kd = 2 then some 0 else none
  | .ref i => if kd = 2 then (if i < 4000000 then some (i + 1) else none) else none
  | _ => none
theorem zz_en_ok {kd n : Nat} {v : Value} (h : zz_en kd v = some n) : n < 2 ^ 64 ∧ zz_av kd n = v := by
  cases v with
  | int x =>
    simp only [zz_en] at h
    split at h
    · rename_i hk
      cases h
      refine ⟨Nat.lt_of_lt_of_le (zz_nI_lt x) (Nat.pow_le_pow_right (by omega) (by omega)), ?_⟩
      rw [zz_av, if_pos hk, zz_nI_of]
    · cases h
  | long x =>
    simp only [zz_en] at h
    split at h
    · rename_i hk
      cases h
      refine ⟨zz_nL_lt x, ?_⟩
      rw [zz_av, if_neg (by omega), if_pos hk, zz_nL_of]
    · cases h
  | null =>
    simp only [zz_en] at h
    split at h
    · rename_i hk
      cases h
      refine ⟨by decide, ?_⟩
      rw [zz_av, if_neg (by omega), if_neg (by omega), if_pos rfl]
    · cases h
  | ref i =>
    simp only [zz_en] at h
    split at h
    · rename_i hk
      split at h
      · rename_i hi
        cases h
        refine ⟨Nat.lt_of_le_of_lt (Nat.succ_le_of_lt hi) (by decide), ?_⟩
        rw [zz_av, if_neg (by omega), if_neg (by omega), if_neg (by omega)]
        rfl
      · cases h
    · cases h
  | _ => cases h
def zz_e (fk : Nat → Nat → Nat) (cy : Nat → ClassId) (z0 : Nat) (sp : Nat → Nat) (c : zz_C) : va_E :=
  if c.1 = 0 then .inl (cy c.2.1, c.2.2.1, .inl (fun j => Int32.ofNat (zz_at 32 c.2.2.2 j)))
  else if c.1 = 1 then .inl (cy c.2.1, c.2.2.1, .inr (.inl (fun j => Int64.ofNat (zz_at 64 c.2.2.2 j))))
  else if c.1 = 2 then .inl (cy c.2.1, c.2.2.1, .inr (.inr (.inr (.inr (fun j => zz_o z0 sp (zz_at 32 c.2.2.2 j))))))
  else .inr (c.2.1, (List.range c.2.2.1).map (fun k => zz_v z0 sp (zz_av (fk c.2.1 k) (zz_at 64 c.2.2.2 k))))
def zz_ws (fk : Nat → Nat → Nat) (cy : Nat → ClassId) (z0 : Nat) (sp : Nat → Nat) (w : zz_W) : va_W := (List.range w.1).map (fun i => (zz_ad z0 sp i, zz_e fk cy z0 sp (zz_g w i)))
def zz_I (D : va_G) (cl : List vw_C) (fk : Nat → Nat → Nat) (cy : Nat → ClassId) (z0 : Nat) (sp : Nat → Nat) (w : zz_W) (H : Heap) : Prop := H.size = z0 + w.1 ∧ va_P D cl (zz_ws fk cy z0 sp w) H
section ZR
variable {D : va_G} {cl : List vw_C} {fk : Nat → Nat → Nat} {cy : Nat → ClassId} {z0 : Nat} {sp : Nat → Nat} {w w' : zz_W} {H H1 : Heap}
theorem zz_ws_get {i : Nat} (h : i < w.1) : (zz_ws fk cy z0 sp w)[i]? = some (zz_ad z0 sp i, zz_e fk cy z0 sp (zz_g w i)) := by
  unfold zz_ws
  rw [List.getElem?_map, List.getElem?_range h]
  rfl
theorem zz_ws_at {i : Nat} {q : Nat × va_E} (h : (zz_ws fk cy z0 sp w)[i]? = some q) : i < w.1 ∧ q = (zz_ad z0 sp i, zz_e fk cy z0 sp (zz_g w i)) := by
  have hl : i < w.1 := by
    have := (List.getElem?_eq_some_iff.mp h).1
    unfold zz_ws at this
    rw [List.length_map, List.length_range] at this
    exact this
  rw [zz_ws_get hl] at h
  exact ⟨hl, (Option.some.inj h).symm⟩
theorem zz_I_at (hI : zz_I D cl fk cy z0 sp w H) {i : Nat} (h : i < w.1) : va_at D cl (zz_ad z0 sp i, zz_e fk cy z0 sp (zz_g w i)) H := hI.2 i _ (zz_ws_get h)
theorem zz_ws_D : va_D (fun q : Nat => z0 ≤ q) (zz_ws fk cy z0 sp w) := by
  refine ⟨fun i j p q hi hj e => ?_, fun k q hk => ?_⟩
  · obtain ⟨-, rfl⟩ := zz_ws_at hi
    obtain ⟨-, rfl⟩ := zz_ws_at hj
    have e : zz_ad z0 sp i = zz_ad z0 sp j := e
    exact Classical.byContradiction (fun hn => zz_ad_ne hn e)
  · obtain ⟨-, rfl⟩ := zz_ws_at hk
    exact Nat.le_add_right _ _
theorem zz_I_set (hI : zz_I D cl fk cy z0 sp w H) {i : Nat} {c : zz_C} (hw : w'.1 = w.1) (hg : ∀ j, zz_g w' j = if j = i then c else zz_g w j) (ha : va_at D cl (zz_ad z0 sp i, zz_e fk cy z0 sp c) H1) (hz : H1.size = H.size) (ho : ∀ q : Nat, q ≠ zz_ad z0 sp i → H1[q]? = H[q]?) : zz_I D cl fk cy z0 sp w' H1 := by
  refine ⟨by rw [hz, hw]; exact hI.1, fun k q hk => ?_⟩
  obtain ⟨hl, rfl⟩ := zz_ws_at hk
  rw [hg k]
  by_cases hki : k = i
  · subst hki
    rw [if_pos rfl]
    exact ha
  · rw [if_neg hki]
    exact (zz_I_at hI (by rw [← hw]; exact hl)).kept (ho _ (zz_ad_ne hki))
theorem zz_I_push (hsp0 : sp 18446744073709551616 = 0) (hI : zz_I D cl fk cy z0 sp w H) {c : zz_C} (hw : w'.1 = w.1 + 1) (hg : ∀ j, zz_g w' j = if j = w.1 then c else zz_g w j) (ha : va_at D cl (z0 + w.1, zz_e fk cy z0 sp c) H1) (hz : H1.size = H.size + 1) (ho : ∀ q : Nat, q < H.size → H1[q]? = H[q]?) : zz_I D cl fk cy z0 sp w' H1 := by
  refine ⟨by rw [hz, hw, hI.1]; omega, fun k q hk => ?_⟩
  obtain ⟨hl, rfl⟩ := zz_ws_at hk
  rw [hg k]
  by_cases hki : k = w.1
  · subst hki
    rw [if_pos rfl, zz_ad_0 hsp0]
    exact ha
  · rw [if_neg hki]
    exact (zz_I_at hI (by omega)).kept (ho _ (by show zz_ad z0 sp k < H.size; rw [zz_ad_0 hsp0, hI.1]; omega))
/-- what has changed since H0, all above z0 -/
theorem zz_S_put {A : Nat → Prop} {H0 : Heap} {locs : List Loc} {a k : Nat} (h : va_S A H0 H locs) (z : H1.size = H.size) (oq : ∀ q : Nat, q ≠ a → H1[q]? = H[q]?) (ha : A a) : va_S A H0 H1 (locs ++ [⟨a, k⟩]) := h.put z oq ha
theorem zz_S_new {A : Nat → Prop} {H0 : Heap} {locs : List Loc} (h : va_S A H0 H locs) (z : H1.size = H.size + 1) (oq : ∀ q : Nat, q < H.size → H1[q]? = H[q]?) : va_S A H0 H1 locs :=
  ⟨by rw [z]; exact Nat.le_trans h.1 (Nat.le_succ _), fun q h1 h2 => (oq q (Nat.lt_of_lt_of_le h1 h.1)).trans (h.2.1 q h1 h2), h.2.2⟩
end ZR
/-- frames: pc, locals, operands, world; what calls answer; what an instruction does -/
abbrev zz_F : Type := Nat × List (Nat × Value) × List Value × zz_W
abbrev zz_K : Type := Nat → List Value → zz_W → Option (List Value × zz_W)
abbrev zz_A : Type := zz_K → zz_F → Option zz_F
def zz_lv (z0 : Nat) (sp : Nat → Nat) (l : List (Nat × Value)) : List (Nat × Value) := l.map (fun q => (q.1, zz_v z0 sp q.2))
def zz_sv (z0 : Nat) (sp : Nat → Nat) (l : List Value) : List Value := l.map (zz_v z0 sp)
theorem zz_v_cat (z0 : Nat) (sp : Nat → Nat) (v : Value) : (zz_v z0 sp v).category = v.category := by
  cases v with
  | retAddr n =>
    show (if sp 2000000 = 0 then Value.null else Value.ref (sp 2000000 - 1)).category = _
    split <;> rfl
  | _ => rfl
theorem zz_lv_filter (z0 : Nat) (sp : Nat → Nat) (two : Bool) (i : Nat) (l : List (Nat × Value)) : (zz_lv z0 sp l).filter (zz_lk two i) = zz_lv z0 sp (l.filter (zz_lk two i)) := by
  unfold zz_lv
  rw [List.filter_map]
  congr 1
  apply List.filter_congr
  intro q _
  simp only [Function.comp, zz_lk, zz_v_cat]
/-- the local at place i -/
def zz_lg (l : List (Nat × Value)) (i : Nat) : Option Value := match l with
  | [] => none
  | q :: r => if q.1 == i then some q.2 else zz_lg r i
theorem zz_lg_mem {i : Nat} {v : Value} : ∀ {l : List (Nat × Value)}, zz_lg l i = some v → (i, v) ∈ l
  | [], h => by cases h
  | q :: r, h => by
    unfold zz_lg at h
    split at h
    · rename_i hq
      cases h
      have : q.1 = i := by simpa using hq
      rw [← this]
      exact List.mem_cons_self
    · exact List.mem_cons_of_mem _ (zz_lg_mem h)
theorem zz_lg_at {ls : Array Slot} {nL : Nat} {z0 : Nat} {sp : Nat → Nat} {l : List (Nat × Value)} (h : lv_has ls nL (zz_lv z0 sp l)) {i : Nat} {v : Value} (hv : zz_lg l i = some v) : ls[i]? = some (.val (zz_v z0 sp v)) := by
  refine h.2.2 (i, zz_v z0 sp v) ?_
  exact List.mem_map.mpr ⟨(i, v), zz_lg_mem hv, rfl⟩
end
section
/-! EACH INSTRUCTION OF THE ABSTRACT MACHINE IS SOUND: zz_O says so of what stands at pc: where the abstract one goes from f to f', the real one comes home from f if it does from f'. -/
def zz_X (Ts : List Cond) (D : va_G) (cl : List vw_C) (tys : List (ClassId × FieldType)) (G : State → Prop) (own mn : String) (nL : Nat) (cc : ByteArray) (p : Program) (s : State) (m : MethodId) (args : Array Value) (meth : Method) (c : Code) : Prop :=
  p.tables.exec = Jvm.exec ∧ c.code = cc ∧ c.maxLocals = nL ∧ s.vm.findClass own = some m.cls ∧ (∀ w ∈ Ts, w.before args s = true) ∧ va_K D cl tys s ∧ meth.locks = false ∧ meth.name = mn ∧ G s
def zz_O (l : Launch) (Ts : List Cond) (D : va_G) (cl : List vw_C) (fk : Nat → Nat → Nat) (cy : Nat → ClassId) (z0 : Nat) (sp : Nat → Nat) (tys : List (ClassId × FieldType)) (G : State → Prop) (own mn : String) (nL : Nat) (cc : ByteArray) (d : Nat) (K : zz_K) (pc : Nat) (act : zz_A) : Prop :=
  (∀ f f' : zz_F, act K f = some f' → f.2.2.2.1 ≤ f'.2.2.2.1 ∧ f.2.2.2.2.1 ≤ f'.2.2.2.2.1) ∧
  ∀ (p : Program) (e : Env) (R : Room) (s : State) (m : MethodId) (args : Array Value) (below : List Frame) (meth : Method) (c : Code), zz_X Ts D cl tys G own mn nL cc p s m args meth c → d + 1 ≤ R.frames → 64 * (d + 1) ≤ R.locals →
  ∀ (H : Heap) (locs : List Loc) (n0 s0 : Nat) (Q : State → Prop) (ls : Array Slot) (f f' : zz_F), f.1 = pc → act K f = some f' → zz_I D cl fk cy z0 sp f.2.2.2 H → va_S (fun q : Nat => z0 ≤ q) s.heap H locs → lv_has ls nL (zz_lv z0 sp f.2.1) →
    n0 ≤ f.2.2.2.1 → s0 ≤ f.2.2.2.2.1 → f'.2.2.2.1 - n0 ≤ R.cells → f'.2.2.2.2.1 - s0 ≤ R.slots →
    (∀ (H' : Heap) (locs' : List Loc) (ls' : Array Slot), zz_I D cl fk cy z0 sp f'.2.2.2 H' → va_S (fun q : Nat => z0 ≤ q) s.heap H' locs' → lv_has ls' nL (zz_lv z0 sp f'.2.1) → W p l e R s m args below meth c H' locs' (f'.2.2.2.1 - n0) (f'.2.2.2.2.1 - s0) Q (F0 m f'.1 ls' (zz_sv z0 sp f'.2.2.1))) →
    W p l e R s m args below meth c H locs (f.2.2.2.1 - n0) (f.2.2.2.2.1 - s0) Q (F0 m pc ls (zz_sv z0 sp f.2.2.1))
section ZS
variable {l : Launch} {Ts : List Cond} {D : va_G} {cl : List vw_C} {fk : Nat → Nat → Nat} {cy : Nat → ClassId} {z0 : Nat} {sp : Nat → Nat} {tys : List (ClassId × FieldType)} {G : State → Prop} {own mn : String} {nL : Nat} {cc : ByteArray} {d : Nat} {K : zz_K} {pc : Nat}
/-- an instruction that touches no cell -/
theorem zo_still {act : zz_A} (h : ∀ f f' : zz_F, f.1 = pc → act K f = some f' → f'.2.2.2 = f.2.2.2 ∧ ∀ (p : Program) (e : Env) (R : Room) (s : State) (m : MethodId) (args : Array Value) (below : List Frame) (meth : Method) (c : Code) (H : Heap) (locs : List Loc) (cells slots : Nat) (Q : State → Prop) (ls : Array Slot),
      zz_X Ts D cl tys G own mn nL cc p s m args meth c → va_S (fun q : Nat => z0 ≤ q) s.heap H locs → lv_has ls nL (zz_lv z0 sp f.2.1) → (∀ ls' : Array Slot, lv_has ls' nL (zz_lv z0 sp f'.2.1) → W p l e R s m args below meth c H locs cells slots Q (F0 m f'.1 ls' (zz_sv z0 sp f'.2.2.1))) → W p l e R s m args below meth c H locs cells slots Q (F0 m pc ls (zz_sv z0 sp f.2.2.1)))
    (h2 : ∀ f f' : zz_F, act K f = some f' → f'.2.2.2 = f.2.2.2) : zz_O l Ts D cl fk cy z0 sp tys G own mn nL cc d K pc act := by
  refine ⟨fun f f' hf => by rw [h2 f f' hf]; exact ⟨Nat.le_refl _, Nat.le_refl _⟩, ?_⟩
  intro p e R s m args below meth c X _ _ H locs n0 s0 Q ls f f' hpc hf hI hS hl _ _ _ _ kk
  obtain ⟨e1, h1⟩ := h f f' hpc hf
  refine h1 p e R s m args below meth c H locs _ _ Q ls X hS hl fun ls' hl' => ?_
  have k1 := kk H locs ls' (by rw [e1]; exact hI) hS hl'
  rw [e1] at k1
  exact k1
def za_const (v : Value) (n : Nat) : zz_A := fun _ f => some (n, f.2.1, v :: f.2.2.1, f.2.2.2)
theorem zz_lk1 {i : Nat} : zz_lk false i = (fun q : Nat × Value => !(q.1 == i) && !(q.1 + 1 == i && q.2.category == 2)) := by
  funext q
  simp [zz_lk]
theorem zz_lk2 {i : Nat} : zz_lk true i = (fun q : Nat × Value => !(q.1 == i) && (!(q.1 == i + 1) && !(q.1 + 1 == i && q.2.category == 2))) := by
  funext q
  simp [zz_lk]
theorem zz_lg_pl {l : List (Nat × Value)} {i : Nat} {v : Value} (h : zz_lg l i = some v) : ∃ j : Nat, (zz_lv z0 sp l)[j]? = some (i, zz_v z0 sp v) := by
  obtain ⟨j, hj⟩ := List.getElem?_of_mem (zz_lg_mem h)
  refine ⟨j, ?_⟩
  unfold zz_lv
  rw [List.getElem?_map, hj]
  rfl
noncomputable def za_iadd (n : Nat) : zz_A := fun _ f => match f.2.2.1 with
  | .int y :: .int x :: r => zz_fI (x + y) (fun z => some (n, f.2.1, .int z :: r, f.2.2.2))
  | _ => none
theorem zo_iadd (hd : decode cc pc = .ok (.iadd, 1)) : zz_O l Ts D cl fk cy z0 sp tys G own mn nL cc d K pc (za_iadd (pc + 1)) :=
  zo_still (fun f f' _ hf => by
    unfold za_iadd at hf
    split at hf
    · rename_i y x r hst
      rw [zz_fI_eq] at hf
      cases hf
      refine ⟨rfl, fun p e R s m args below meth c H locs cells slots Q ls X hS hl kk => ?_⟩
      rw [hst]
      exact lv_iadd X.1 X.2.1 hd (kk ls hl)
    · cases hf) (fun f f' hf => by
    unfold za_iadd at hf
    split at hf
    · rename_i y x r hst
      rw [zz_fI_eq] at hf
      cases hf
      rfl
    · cases hf)
noncomputable def za_isub (n : Nat) : zz_A := fun _ f => match f.2.2.1 with
  | .int y :: .int x :: r => zz_fI (x - y) (fun z => some (n, f.2.1, .int z :: r, f.2.2.2))
  | _ => none
theorem zo_isub (hd : decode cc pc = .ok (.isub, 1)) : zz_O l Ts D cl fk cy z0 sp tys G own mn nL cc d K pc (za_isub (pc + 1)) :=
  zo_still (fun f f' _ hf => by
    unfold za_isub at hf
    split at hf
    · rename_i y x r hst
      rw [zz_fI_eq] at hf
      cases hf
      refine ⟨rfl, fun p e R s m args below meth c H locs cells slots Q ls X hS hl kk => ?_⟩
      rw [hst]
      exact lv_isub X.1 X.2.1 hd (kk ls hl)
    · cases hf) (fun f f' hf => by
    unfold za_isub at hf
    split at hf
    · rename_i y x r hst
      rw [zz_fI_eq] at hf
      cases hf
      rfl
    · cases hf)
noncomputable def za_imul (n : Nat) : zz_A := fun _ f => match f.2.2.1 with
  | .int y :: .int x :: r => zz_fI (x * y) (fun z => some (n, f.2.1, .int z :: r, f.2.2.2))
  | _ => none
theorem zo_imul (hd : decode cc pc = .ok (.imul, 1)) : zz_O l Ts D cl fk cy z0 sp tys G own mn nL cc d K pc (za_imul (pc + 1)) :=
  zo_still (fun f f' _ hf => by
    unfold za_imul at hf
    split at hf
    · rename_i y x r hst
      rw [zz_fI_eq] at hf
      cases hf
      refine ⟨rfl, fun p e R s m args below meth c H locs cells slots Q ls X hS hl kk => ?_⟩
      rw [hst]
      exact lv_imul X.1 X.2.1 hd (kk ls hl)
    · cases hf) (fun f f' hf => by
    unfold za_imul at hf
    split at hf
    · rename_i y x r hst
      rw [zz_fI_eq] at hf
      cases hf
      rfl
    · cases hf)
noncomputable def za_iand (n : Nat) : zz_A := fun _ f => match f.2.2.1 with
  | .int y :: .int x :: r => zz_fI (x &&& y) (fun z => some (n, f.2.1, .int z :: r, f.2.2.2))
  | _ => none
theorem zo_iand (hd : decode cc pc = .ok (.iand, 1)) : zz_O l Ts D cl fk cy z0 sp tys G own mn nL cc d K pc (za_iand (pc + 1)) :=
  zo_still (fun f f' _ hf => by
    unfold za_iand at hf
    split at hf
    · rename_i y x r hst
      rw [zz_fI_eq] at hf
      cases hf
      refine ⟨rfl, fun p e R s m args below meth c H locs cells slots Q ls X hS hl kk => ?_⟩
      rw [hst]
      exact lv_iand X.1 X.2.1 hd (kk ls hl)
    · cases hf) (fun f f' hf => by
    unfold za_iand at hf
    split at hf
    · rename_i y x r hst
      rw [zz_fI_eq] at hf
      cases hf
      rfl
    · cases hf)
noncomputable def za_ior (n : Nat) : zz_A := fun _ f => match f.2.2.1 with
  | .int y :: .int x :: r => zz_fI (x ||| y) (fun z => some (n, f.2.1, .int z :: r, f.2.2.2))
  | _ => none
theorem zo_ior (hd : decode cc pc = .ok (.ior, 1)) : zz_O l Ts D cl fk cy z0 sp tys G own mn nL cc d K pc (za_ior (pc + 1)) :=
  zo_still (fun f f' _ hf => by
    unfold za_ior at hf
    split at hf
    · rename_i y x r hst
      rw [zz_fI_eq] at hf
      cases hf
      refine ⟨rfl, fun p e R s m args below meth c H locs cells slots Q ls X hS hl kk => ?_⟩
      rw [hst]
      exact lv_ior X.1 X.2.1 hd (kk ls hl)
    · cases hf) (fun f f' hf => by
    unfold za_ior at hf
    split at hf
    · rename_i y x r hst
      rw [zz_fI_eq] at hf
      cases hf
      rfl
    · cases hf)
noncomputable def za_ixor (n : Nat) : zz_A := fun _ f => match f.2.2.1 with
  | .int y :: .int x :: r => zz_fI (x ^^^ y) (fun z => some (n, f.2.1, .int z :: r, f.2.2.2))
  | _ => none
theorem zo_ixor (hd : decode cc pc = .ok (.ixor, 1)) : zz_O l Ts D cl fk cy z0 sp tys G own mn nL cc d K pc (za_ixor (pc + 1)) :=
  zo_still (fun f f' _ hf => by
    unfold za_ixor at hf
    split at hf
    · rename_i y x r hst
      rw [zz_fI_eq] at hf
      cases hf
      refine ⟨rfl, fun p e R s m args below meth c H locs cells slots Q ls X hS hl kk => ?_⟩
      rw [hst]
      exact lv_ixor X.1 X.2.1 hd (kk ls hl)
    · cases hf) (fun f f' hf => by
    unfold za_ixor at hf
    split at hf
    · rename_i y x r hst
      rw [zz_fI_eq] at hf
      cases hf
      rfl
    · cases hf)
noncomputable def za_ishl (n : Nat) : zz_A := fun _ f => match f.2.2.1 with
  | .int y :: .int x :: r => zz_fI (x <<< (y &&& 31)) (fun z => some (n, f.2.1, .int z :: r, f.2.2.2))
  | _ => none
theorem zo_ishl (hd : decode cc pc = .ok (.ishl, 1)) : zz_O l Ts D cl fk cy z0 sp tys G own mn nL cc d K pc (za_ishl (pc + 1)) :=
  zo_still (fun f f' _ hf => by
    unfold za_ishl at hf
    split at hf
    · rename_i y x r hst
      rw [zz_fI_eq] at hf
      cases hf
      refine ⟨rfl, fun p e R s m args below meth c H locs cells slots Q ls X hS hl kk => ?_⟩
      rw [hst]
      exact lv_ishl X.1 X.2.1 hd (kk ls hl)
    · cases hf) (fun f f' hf => by
    unfold za_ishl at hf
    split at hf
    · rename_i y x r hst
      rw [zz_fI_eq] at hf
      cases hf
      rfl
    · cases hf)
noncomputable def za_ishr (n : Nat) : zz_A := fun _ f => match f.2.2.1 with
  | .int y :: .int x :: r => zz_fI (x >>> (y &&& 31)) (fun z => some (n, f.2.1, .int z :: r, f.2.2.2))
  | _ => none
theorem zo_ishr (hd : decode cc pc = .ok (.ishr, 1)) : zz_O l Ts D cl fk cy z0 sp tys G own mn nL cc d K pc (za_ishr (pc + 1)) :=
  zo_still (fun f f' _ hf => by
    unfold za_ishr at hf
    split at hf
    · rename_i y x r hst
      rw [zz_fI_eq] at hf
      cases hf
      refine ⟨rfl, fun p e R s m args below meth c H locs cells slots Q ls X hS hl kk => ?_⟩
      rw [hst]
      exact lv_ishr X.1 X.2.1 hd (kk ls hl)
    · cases hf) (fun f f' hf => by
    unfold za_ishr at hf
    split at hf
    · rename_i y x r hst
      rw [zz_fI_eq] at hf
      cases hf
      rfl
    · cases hf)
noncomputable def za_iushr (n : Nat) : zz_A := fun _ f => match f.2.2.1 with
  | .int y :: .int x :: r => zz_fI ((x.toUInt32 >>> (y.toUInt32 &&& Int32.toUInt32 31)).toInt32) (fun z => some (n, f.2.1, .int z :: r, f.2.2.2))
  | _ => none
theorem zo_iushr (hd : decode cc pc = .ok (.iushr, 1)) : zz_O l Ts D cl fk cy z0 sp tys G own mn nL cc d K pc (za_iushr (pc + 1)) :=
  zo_still (fun f f' _ hf => by
    unfold za_iushr at hf
    split at hf
    · rename_i y x r hst
      rw [zz_fI_eq] at hf
      cases hf
      refine ⟨rfl, fun p e R s m args below meth c H locs cells slots Q ls X hS hl kk => ?_⟩
      rw [hst]
      exact lv_iushr X.1 X.2.1 hd rfl (kk ls hl)
    · cases hf) (fun f f' hf => by
    unfold za_iushr at hf
    split at hf
    · rename_i y x r hst
      rw [zz_fI_eq] at hf
      cases hf
      rfl
    · cases hf)
noncomputable def za_idiv (n : Nat) : zz_A := fun _ f => match f.2.2.1 with
  | .int y :: .int x :: r => if y = 0 then none else zz_fI (x / y) (fun z => some (n, f.2.1, .int z :: r, f.2.2.2))
  | _ => none
theorem zo_idiv (hd : decode cc pc = .ok (.idiv, 1)) : zz_O l Ts D cl fk cy z0 sp tys G own mn nL cc d K pc (za_idiv (pc + 1)) :=
  zo_still (fun f f' _ hf => by
    unfold za_idiv at hf
    split at hf
    · rename_i y x r hst
      split at hf
      · cases hf
      · rename_i hne
        rw [zz_fI_eq] at hf
        cases hf
        refine ⟨rfl, fun p e R s m args below meth c H locs cells slots Q ls X hS hl kk => ?_⟩
        rw [hst]
        exact lv_idiv X.1 X.2.1 hd hne (kk ls hl)
    · cases hf) (fun f f' hf => by
    unfold za_idiv at hf
    split at hf
    · rename_i y x r hst
      split at hf
      · cases hf
      · rename_i hne
        rw [zz_fI_eq] at hf
        cases hf
        rfl
    · cases hf)
noncomputable def za_irem (n : Nat) : zz_A := fun _ f => match f.2.2.1 with
  | .int y :: .int x :: r => if y = 0 then none else zz_fI (x - x / y * y) (fun z => some (n, f.2.1, .int z :: r, f.2.2.2))
  | _ => none
theorem zo_irem (hd : decode cc pc = .ok (.irem, 1)) : zz_O l Ts D cl fk cy z0 sp tys G own mn nL cc d K pc (za_irem (pc + 1)) :=
  zo_still (fun f f' _ hf => by
    unfold za_irem at hf
    split at hf
    · rename_i y x r hst
      split at hf
      · cases hf
      · rename_i hne
        rw [zz_fI_eq] at hf
        cases hf
        refine ⟨rfl, fun p e R s m args below meth c H locs cells slots Q ls X hS hl kk => ?_⟩
        rw [hst]
        exact lv_irem X.1 X.2.1 hd hne (kk ls hl)
    · cases hf) (fun f f' hf => by
    unfold za_irem at hf
    split at hf
    · rename_i y x r hst
      split at hf
      · cases hf
      · rename_i hne
        rw [zz_fI_eq] at hf
        cases hf
        rfl
    · cases hf)
noncomputable def za_ineg (n : Nat) : zz_A := fun _ f => match f.2.2.1 with
  | .int x :: r => zz_fI (-x) (fun z => some (n, f.2.1, .int z :: r, f.2.2.2))
  | _ => none
theorem zo_ineg (hd : decode cc pc = .ok (.ineg, 1)) : zz_O l Ts D cl fk cy z0 sp tys G own mn nL cc d K pc (za_ineg (pc + 1)) :=
  zo_still (fun f f' _ hf => by
    unfold za_ineg at hf
    split at hf
    · rename_i x r hst
      rw [zz_fI_eq] at hf
      cases hf
      refine ⟨rfl, fun p e R s m args below meth c H locs cells slots Q ls X hS hl kk => ?_⟩
      rw [hst]
      exact lv_ineg X.1 X.2.1 hd (kk ls hl)
    · cases hf) (fun f f' hf => by
    unfold za_ineg at hf
    split at hf
    · rename_i x r hst
      rw [zz_fI_eq] at hf
      cases hf
      rfl
    · cases hf)
noncomputable def za_i2b (n : Nat) : zz_A := fun _ f => match f.2.2.1 with
  | .int x :: r => zz_fI (x.toInt8.toInt32) (fun z => some (n, f.2.1, .int z :: r, f.2.2.2))
  | _ => none
theorem zo_i2b (hd : decode cc pc = .ok (.i2b, 1)) : zz_O l Ts D cl fk cy z0 sp tys G own mn nL cc d K pc (za_i2b (pc + 1)) :=
  zo_still (fun f f' _ hf => by
    unfold za_i2b at hf
    split at hf
    · rename_i x r hst
      rw [zz_fI_eq] at hf
      cases hf
      refine ⟨rfl, fun p e R s m args below meth c H locs cells slots Q ls X hS hl kk => ?_⟩
      rw [hst]
      exact lv_i2b X.1 X.2.1 hd rfl (kk ls hl)
    · cases hf) (fun f f' hf => by
    unfold za_i2b at hf
    split at hf
    · rename_i x r hst
      rw [zz_fI_eq] at hf
      cases hf
      rfl
    · cases hf)
noncomputable def za_i2s (n : Nat) : zz_A := fun _ f => match f.2.2.1 with
  | .int x :: r => zz_fI (x.toInt16.toInt32) (fun z => some (n, f.2.1, .int z :: r, f.2.2.2))
  | _ => none
theorem zo_i2s (hd : decode cc pc = .ok (.i2s, 1)) : zz_O l Ts D cl fk cy z0 sp tys G own mn nL cc d K pc (za_i2s (pc + 1)) :=
  zo_still (fun f f' _ hf => by
    unfold za_i2s at hf
    split at hf
    · rename_i x r hst
      rw [zz_fI_eq] at hf
      cases hf
      refine ⟨rfl, fun p e R s m args below meth c H locs cells slots Q ls X hS hl kk => ?_⟩
      rw [hst]
      exact lv_i2s X.1 X.2.1 hd rfl (kk ls hl)
    · cases hf) (fun f f' hf => by
    unfold za_i2s at hf
    split at hf
    · rename_i x r hst
      rw [zz_fI_eq] at hf
      cases hf
      rfl
    · cases hf)
noncomputable def za_i2c (n : Nat) : zz_A := fun _ f => match f.2.2.1 with
  | .int x :: r => zz_fI ((x.toUInt32 % 65536).toInt32) (fun z => some (n, f.2.1, .int z :: r, f.2.2.2))
  | _ => none
theorem zo_i2c (hd : decode cc pc = .ok (.i2c, 1)) : zz_O l Ts D cl fk cy z0 sp tys G own mn nL cc d K pc (za_i2c (pc + 1)) :=
  zo_still (fun f f' _ hf => by
    unfold za_i2c at hf
    split at hf
    · rename_i x r hst
      rw [zz_fI_eq] at hf
      cases hf
      refine ⟨rfl, fun p e R s m args below meth c H locs cells slots Q ls X hS hl kk => ?_⟩
      rw [hst]
      exact lv_i2c X.1 X.2.1 hd rfl (kk ls hl)
    · cases hf) (fun f f' hf => by
    unfold za_i2c at hf
    split at hf
    · rename_i x r hst
      rw [zz_fI_eq] at hf
      cases hf
      rfl
    · cases hf)
noncomputable def za_i2l (n : Nat) : zz_A := fun _ f => match f.2.2.1 with
  | .int x :: r => zz_fL (x.toInt64) (fun z => some (n, f.2.1, .long z :: r, f.2.2.2))
  | _ => none
theorem zo_i2l (hd : decode cc pc = .ok (.i2l, 1)) : zz_O l Ts D cl fk cy z0 sp tys G own mn nL cc d K pc (za_i2l (pc + 1)) :=
  zo_still (fun f f' _ hf => by
    unfold za_i2l at hf
    split at hf
    · rename_i x r hst
      rw [zz_fL_eq] at hf
      cases hf
      refine ⟨rfl, fun p e R s m args below meth c H locs cells slots Q ls X hS hl kk => ?_⟩
      rw [hst]
      exact lv_i2l X.1 X.2.1 hd rfl (kk ls hl)
    · cases hf) (fun f f' hf => by
    unfold za_i2l at hf
    split at hf
    · rename_i x r hst
      rw [zz_fL_eq] at hf
      cases hf
      rfl
    · cases hf)
noncomputable def za_l2i (n : Nat) : zz_A := fun _ f => match f.2.2.1 with
  | .long x :: r => zz_fI (x.toInt32) (fun z => some (n, f.2.1, .int z :: r, f.2.2.2))
  | _ => none
theorem zo_l2i (hd : decode cc pc = .ok (.l2i, 1)) : zz_O l Ts D cl fk cy z0 sp tys G own mn nL cc d K pc (za_l2i (pc + 1)) :=
  zo_still (fun f f' _ hf => by
    unfold za_l2i at hf
    split at hf
    · rename_i x r hst
      rw [zz_fI_eq] at hf
      cases hf
      refine ⟨rfl, fun p e R s m args below meth c H locs cells slots Q ls X hS hl kk => ?_⟩
      rw [hst]
      exact lv_l2i X.1 X.2.1 hd rfl (kk ls hl)
    · cases hf) (fun f f' hf => by
    unfold za_l2i at hf
    split at hf
    · rename_i x r hst
      rw [zz_fI_eq] at hf
      cases hf
      rfl
    · cases hf)
noncomputable def za_ladd (n : Nat) : zz_A := fun _ f => match f.2.2.1 with
  | .long y :: .long x :: r => zz_fL (x + y) (fun z => some (n, f.2.1, .long z :: r, f.2.2.2))
  | _ => none
theorem zo_ladd (hd : decode cc pc = .ok (.ladd, 1)) : zz_O l Ts D cl fk cy z0 sp tys G own mn nL cc d K pc (za_ladd (pc + 1)) :=
  zo_still (fun f f' _ hf => by
    unfold za_ladd at hf
    split at hf
    · rename_i y x r hst
      rw [zz_fL_eq] at hf
      cases hf
      refine ⟨rfl, fun p e R s m args below meth c H locs cells slots Q ls X hS hl kk => ?_⟩
      rw [hst]
      exact lv_ladd X.1 X.2.1 hd (kk ls hl)
    · cases hf) (fun f f' hf => by
    unfold za_ladd at hf
    split at hf
    · rename_i y x r hst
      rw [zz_fL_eq] at hf
      cases hf
      rfl
    · cases hf)
noncomputable def za_lsub (n : Nat) : zz_A := fun _ f => match f.2.2.1 with
  | .long y :: .long x :: r => zz_fL (x - y) (fun z => some (n, f.2.1, .long z :: r, f.2.2.2))
  | _ => none
theorem zo_lsub (hd : decode cc pc = .ok (.lsub, 1)) : zz_O l Ts D cl fk cy z0 sp tys G own mn nL cc d K pc (za_lsub (pc + 1)) :=
  zo_still (fun f f' _ hf => by
    unfold za_lsub at hf
    split at hf
    · rename_i y x r hst
      rw [zz_fL_eq] at hf
      cases hf
      refine ⟨rfl, fun p e R s m args below meth c H locs cells slots Q ls X hS hl kk => ?_⟩
      rw [hst]
      exact lv_lsub X.1 X.2.1 hd (kk ls hl)
    · cases hf) (fun f f' hf => by
    unfold za_lsub at hf
    split at hf
    · rename_i y x r hst
      rw [zz_fL_eq] at hf
      cases hf
      rfl
    · cases hf)
noncomputable def za_lmul (n : Nat) : zz_A := fun _ f => match f.2.2.1 with
  | .long y :: .long x :: r => zz_fL (x * y) (fun z => some (n, f.2.1, .long z :: r, f.2.2.2))
  | _ => none
theorem zo_lmul (hd : decode cc pc = .ok (.lmul, 1)) : zz_O l Ts D cl fk cy z0 sp tys G own mn nL cc d K pc (za_lmul (pc + 1)) :=
  zo_still (fun f f' _ hf => by
    unfold za_lmul at hf
    split at hf
    · rename_i y x r hst
      rw [zz_fL_eq] at hf
      cases hf
      refine ⟨rfl, fun p e R s m args below meth c H locs cells slots Q ls X hS hl kk => ?_⟩
      rw [hst]
      exact lv_lmul X.1 X.2.1 hd (kk ls hl)
    · cases hf) (fun f f' hf => by
    unfold za_lmul at hf
    split at hf
    · rename_i y x r hst
      rw [zz_fL_eq] at hf
      cases hf
      rfl
    · cases hf)
noncomputable def za_land (n : Nat) : zz_A := fun _ f => match f.2.2.1 with
  | .long y :: .long x :: r => zz_fL (x &&& y) (fun z => some (n, f.2.1, .long z :: r, f.2.2.2))
  | _ => none
theorem zo_land (hd : decode cc pc = .ok (.land, 1)) : zz_O l Ts D cl fk cy z0 sp tys G own mn nL cc d K pc (za_land (pc + 1)) :=
  zo_still (fun f f' _ hf => by
    unfold za_land at hf
    split at hf
    · rename_i y x r hst
      rw [zz_fL_eq] at hf
      cases hf
      refine ⟨rfl, fun p e R s m args below meth c H locs cells slots Q ls X hS hl kk => ?_⟩
      rw [hst]
      exact lv_land X.1 X.2.1 hd (kk ls hl)
    · cases hf) (fun f f' hf => by
    unfold za_land at hf
    split at hf
    · rename_i y x r hst
      rw [zz_fL_eq] at hf
      cases hf
      rfl
    · cases hf)
noncomputable def za_lor (n : Nat) : zz_A := fun _ f => match f.2.2.1 with
  | .long y :: .long x :: r => zz_fL (x ||| y) (fun z => some (n, f.2.1, .long z :: r, f.2.2.2))
  | _ => none
theorem zo_lor (hd : decode cc pc = .ok (.lor, 1)) : zz_O l Ts D cl fk cy z0 sp tys G own mn nL cc d K pc (za_lor (pc + 1)) :=
  zo_still (fun f f' _ hf => by
    unfold za_lor at hf
    split at hf
    · rename_i y x r hst
      rw [zz_fL_eq] at hf
      cases hf
      refine ⟨rfl, fun p e R s m args below meth c H locs cells slots Q ls X hS hl kk => ?_⟩
      rw [hst]
      exact lv_lor X.1 X.2.1 hd (kk ls hl)
    · cases hf) (fun f f' hf => by
    unfold za_lor at hf
    split at hf
    · rename_i y x r hst
      rw [zz_fL_eq] at hf
      cases hf
      rfl
    · cases hf)
noncomputable def za_lxor (n : Nat) : zz_A := fun _ f => match f.2.2.1 with
  | .long y :: .long x :: r => zz_fL (x ^^^ y) (fun z => some (n, f.2.1, .long z :: r, f.2.2.2))
  | _ => none
theorem zo_lxor (hd : decode cc pc = .ok (.lxor, 1)) : zz_O l Ts D cl fk cy z0 sp tys G own mn nL cc d K pc (za_lxor (pc + 1)) :=
  zo_still (fun f f' _ hf => by
    unfold za_lxor at hf
    split at hf
    · rename_i y x r hst
      rw [zz_fL_eq] at hf
      cases hf
      refine ⟨rfl, fun p e R s m args below meth c H locs cells slots Q ls X hS hl kk => ?_⟩
      rw [hst]
      exact lv_lxor X.1 X.2.1 hd (kk ls hl)
    · cases hf) (fun f f' hf => by
    unfold za_lxor at hf
    split at hf
    · rename_i y x r hst
      rw [zz_fL_eq] at hf
      cases hf
      rfl
    · cases hf)
noncomputable def za_ldiv (n : Nat) : zz_A := fun _ f => match f.2.2.1 with
  | .long y :: .long x :: r => if y = 0 then none else zz_fL (x / y) (fun z => some (n, f.2.1, .long z :: r, f.2.2.2))
  | _ => none
theorem zo_ldiv (hd : decode cc pc = .ok (.ldiv, 1)) : zz_O l Ts D cl fk cy z0 sp tys G own mn nL cc d K pc (za_ldiv (pc + 1)) :=
  zo_still (fun f f' _ hf => by
    unfold za_ldiv at hf
    split at hf
    · rename_i y x r hst
      split at hf
      · cases hf
      · rename_i hne
        rw [zz_fL_eq] at hf
        cases hf
        refine ⟨rfl, fun p e R s m args below meth c H locs cells slots Q ls X hS hl kk => ?_⟩
        rw [hst]
        exact lv_ldiv X.1 X.2.1 hd hne (kk ls hl)
    · cases hf) (fun f f' hf => by
    unfold za_ldiv at hf
    split at hf
    · rename_i y x r hst
      split at hf
      · cases hf
      · rename_i hne
        rw [zz_fL_eq] at hf
        cases hf
        rfl
    · cases hf)
noncomputable def za_lrem (n : Nat) : zz_A := fun _ f => match f.2.2.1 with
  | .long y :: .long x :: r => if y = 0 then none else zz_fL (x - x / y * y) (fun z => some (n, f.2.1, .long z :: r, f.2.2.2))
  | _ => none
theorem zo_lrem (hd : decode cc pc = .ok (.lrem, 1)) : zz_O l Ts D cl fk cy z0 sp tys G own mn nL cc d K pc (za_lrem (pc + 1)) :=
  zo_still (fun f f' _ hf => by
    unfold za_lrem at hf
    split at hf
    · rename_i y x r hst
      split at hf
      · cases hf
      · rename_i hne
        rw [zz_fL_eq] at hf
        cases hf
        refine ⟨rfl, fun p e R s m args below meth c H locs cells slots Q ls X hS hl kk => ?_⟩
        rw [hst]
        exact lv_lrem X.1 X.2.1 hd hne (kk ls hl)
    · cases hf) (fun f f' hf => by
    unfold za_lrem at hf
    split at hf
    · rename_i y x r hst
      split at hf
      · cases hf
      · rename_i hne
        rw [zz_fL_eq] at hf
        cases hf
        rfl
    · cases hf)
noncomputable def za_lneg (n : Nat) : zz_A := fun _ f => match f.2.2.1 with
  | .long x :: r => zz_fL (-x) (fun z => some (n, f.2.1, .long z :: r, f.2.2.2))
  | _ => none
theorem zo_lneg (hd : decode cc pc = .ok (.lneg, 1)) : zz_O l Ts D cl fk cy z0 sp tys G own mn nL cc d K pc (za_lneg (pc + 1)) :=
  zo_still (fun f f' _ hf => by
    unfold za_lneg at hf
    split at hf
    · rename_i x r hst
      rw [zz_fL_eq] at hf
      cases hf
      refine ⟨rfl, fun p e R s m args below meth c H locs cells slots Q ls X hS hl kk => ?_⟩
      rw [hst]
      exact lv_lneg X.1 X.2.1 hd (kk ls hl)
    · cases hf) (fun f f' hf => by
    unfold za_lneg at hf
    split at hf
    · rename_i x r hst
      rw [zz_fL_eq] at hf
      cases hf
      rfl
    · cases hf)
noncomputable def za_lshl (n : Nat) : zz_A := fun _ f => match f.2.2.1 with
  | .int y :: .long x :: r => zz_fL (x <<< (y.toInt64 &&& 63)) (fun z => some (n, f.2.1, .long z :: r, f.2.2.2))
  | _ => none
theorem zo_lshl (hd : decode cc pc = .ok (.lshl, 1)) : zz_O l Ts D cl fk cy z0 sp tys G own mn nL cc d K pc (za_lshl (pc + 1)) :=
  zo_still (fun f f' _ hf => by
    unfold za_lshl at hf
    split at hf
    · rename_i y x r hst
      rw [zz_fL_eq] at hf
      cases hf
      refine ⟨rfl, fun p e R s m args below meth c H locs cells slots Q ls X hS hl kk => ?_⟩
      rw [hst]
      exact lv_lshl X.1 X.2.1 hd rfl (kk ls hl)
    · cases hf) (fun f f' hf => by
    unfold za_lshl at hf
    split at hf
    · rename_i y x r hst
      rw [zz_fL_eq] at hf
      cases hf
      rfl
    · cases hf)
noncomputable def za_lshr (n : Nat) : zz_A := fun _ f => match f.2.2.1 with
  | .int y :: .long x :: r => zz_fL (x >>> (y.toInt64 &&& 63)) (fun z => some (n, f.2.1, .long z :: r, f.2.2.2))
  | _ => none
theorem zo_lshr (hd : decode cc pc = .ok (.lshr, 1)) : zz_O l Ts D cl fk cy z0 sp tys G own mn nL cc d K pc (za_lshr (pc + 1)) :=
  zo_still (fun f f' _ hf => by
    unfold za_lshr at hf
    split at hf
    · rename_i y x r hst
      rw [zz_fL_eq] at hf
      cases hf
      refine ⟨rfl, fun p e R s m args below meth c H locs cells slots Q ls X hS hl kk => ?_⟩
      rw [hst]
      exact lv_lshr X.1 X.2.1 hd rfl (kk ls hl)
    · cases hf) (fun f f' hf => by
    unfold za_lshr at hf
    split at hf
    · rename_i y x r hst
      rw [zz_fL_eq] at hf
      cases hf
      rfl
    · cases hf)
noncomputable def za_lushr (n : Nat) : zz_A := fun _ f => match f.2.2.1 with
  | .int y :: .long x :: r => zz_fL ((x.toUInt64 >>> (y.toInt64.toUInt64 &&& Int64.toUInt64 63)).toInt64) (fun z => some (n, f.2.1, .long z :: r, f.2.2.2))
  | _ => none
theorem zo_lushr (hd : decode cc pc = .ok (.lushr, 1)) : zz_O l Ts D cl fk cy z0 sp tys G own mn nL cc d K pc (za_lushr (pc + 1)) :=
  zo_still (fun f f' _ hf => by
    unfold za_lushr at hf
    split at hf
    · rename_i y x r hst
      rw [zz_fL_eq] at hf
      cases hf
      refine ⟨rfl, fun p e R s m args below meth c H locs cells slots Q ls X hS hl kk => ?_⟩
      rw [hst]
      exact lv_lushr X.1 X.2.1 hd rfl (kk ls hl)
    · cases hf) (fun f f' hf => by
    unfold za_lushr at hf
    split at hf
    · rename_i y x r hst
      rw [zz_fL_eq] at hf
      cases hf
      rfl
    · cases hf)
noncomputable def za_lcmp (n : Nat) : zz_A := fun _ f => match f.2.2.1 with
  | .long y :: .long x :: r => zz_fI (lg_cmp x y) (fun z => some (n, f.2.1, .int z :: r, f.2.2.2))
  | _ => none
theorem zo_lcmp (hd : decode cc pc = .ok (.lcmp, 1)) : zz_O l Ts D cl fk cy z0 sp tys G own mn nL cc d K pc (za_lcmp (pc + 1)) :=
  zo_still (fun f f' _ hf => by
    unfold za_lcmp at hf
    split at hf
    · rename_i y x r hst
      rw [zz_fI_eq] at hf
      cases hf
      refine ⟨rfl, fun p e R s m args below meth c H locs cells slots Q ls X hS hl kk => ?_⟩
      rw [hst]
      exact W.lcmp X.1 X.2.1 hd (kk ls hl)
    · cases hf) (fun f f' hf => by
    unfold za_lcmp at hf
    split at hf
    · rename_i y x r hst
      rw [zz_fI_eq] at hf
      cases hf
      rfl
    · cases hf)
def za_dup (n : Nat) : zz_A := fun _ f => match f.2.2.1 with
  | v :: r => if v.category = 1 then some (n, f.2.1, v :: v :: r, f.2.2.2) else none
  | _ => none
theorem zo_dup (hd : decode cc pc = .ok (.dup, 1)) : zz_O l Ts D cl fk cy z0 sp tys G own mn nL cc d K pc (za_dup (pc + 1)) :=
  zo_still (fun f f' _ hf => by
    unfold za_dup at hf
    split at hf
    · rename_i v r hst
      split at hf
      · rename_i hc
        cases hf
        refine ⟨rfl, fun p e R s m args below meth c H locs cells slots Q ls X hS hl kk => ?_⟩
        rw [hst]
        exact lv_dup X.1 X.2.1 hd (by rw [zz_v_cat]; exact hc) (kk ls hl)
      · cases hf
    · cases hf) (fun f f' hf => by
    unfold za_dup at hf
    split at hf
    · rename_i v r hst
      split at hf
      · rename_i hc
        cases hf
        rfl
      · cases hf
    · cases hf)
def za_pop (n : Nat) : zz_A := fun _ f => match f.2.2.1 with
  | v :: r => if v.category = 1 then some (n, f.2.1, r, f.2.2.2) else none
  | _ => none
theorem zo_pop (hd : decode cc pc = .ok (.pop, 1)) : zz_O l Ts D cl fk cy z0 sp tys G own mn nL cc d K pc (za_pop (pc + 1)) :=
  zo_still (fun f f' _ hf => by
    unfold za_pop at hf
    split at hf
    · rename_i v r hst
      split at hf
      · rename_i hc
        cases hf
        refine ⟨rfl, fun p e R s m args below meth c H locs cells slots Q ls X hS hl kk => ?_⟩
        rw [hst]
        exact lv_pop X.1 X.2.1 hd (by rw [zz_v_cat]; exact hc) (kk ls hl)
      · cases hf
    · cases hf) (fun f f' hf => by
    unfold za_pop at hf
    split at hf
    · rename_i v r hst
      split at hf
      · rename_i hc
        cases hf
        rfl
      · cases hf
    · cases hf)
def za_dup_x1 (n : Nat) : zz_A := fun _ f => match f.2.2.1 with
  | v :: u :: r => if v.category = 1 ∧ u.category = 1 then some (n, f.2.1, v :: u :: v :: r, f.2.2.2) else none
  | _ => none
theorem zo_dup_x1 (hd : decode cc pc = .ok (.dup_x1, 1)) : zz_O l Ts D cl fk cy z0 sp tys G own mn nL cc d K pc (za_dup_x1 (pc + 1)) :=
  zo_still (fun f f' _ hf => by
    unfold za_dup_x1 at hf
    split at hf
    · rename_i v u r hst
      split at hf
      · rename_i hc
        cases hf
        refine ⟨rfl, fun p e R s m args below meth c H locs cells slots Q ls X hS hl kk => ?_⟩
        rw [hst]
        exact lv_dup_x1 X.1 X.2.1 hd (by rw [zz_v_cat]; exact hc.1) (by rw [zz_v_cat]; exact hc.2) (kk ls hl)
      · cases hf
    · cases hf) (fun f f' hf => by
    unfold za_dup_x1 at hf
    split at hf
    · rename_i v u r hst
      split at hf
      · rename_i hc
        cases hf
        rfl
      · cases hf
    · cases hf)
def za_dup2_11 (n : Nat) : zz_A := fun _ f => match f.2.2.1 with
  | v :: u :: r => if v.category = 1 ∧ u.category = 1 then some (n, f.2.1, v :: u :: v :: u :: r, f.2.2.2) else none
  | _ => none
theorem zo_dup2_11 (hd : decode cc pc = .ok (.dup2, 1)) : zz_O l Ts D cl fk cy z0 sp tys G own mn nL cc d K pc (za_dup2_11 (pc + 1)) :=
  zo_still (fun f f' _ hf => by
    unfold za_dup2_11 at hf
    split at hf
    · rename_i v u r hst
      split at hf
      · rename_i hc
        cases hf
        refine ⟨rfl, fun p e R s m args below meth c H locs cells slots Q ls X hS hl kk => ?_⟩
        rw [hst]
        exact lv_dup2_11 X.1 X.2.1 hd (by rw [zz_v_cat]; exact hc.1) (by rw [zz_v_cat]; exact hc.2) (kk ls hl)
      · cases hf
    · cases hf) (fun f f' hf => by
    unfold za_dup2_11 at hf
    split at hf
    · rename_i v u r hst
      split at hf
      · rename_i hc
        cases hf
        rfl
      · cases hf
    · cases hf)
def za_dup2_2 (n : Nat) : zz_A := fun _ f => match f.2.2.1 with
  | v :: r => if v.category = 2 then some (n, f.2.1, v :: v :: r, f.2.2.2) else none
  | _ => none
theorem zo_dup2_2 (hd : decode cc pc = .ok (.dup2, 1)) : zz_O l Ts D cl fk cy z0 sp tys G own mn nL cc d K pc (za_dup2_2 (pc + 1)) :=
  zo_still (fun f f' _ hf => by
    unfold za_dup2_2 at hf
    split at hf
    · rename_i v r hst
      split at hf
      · rename_i hc
        cases hf
        refine ⟨rfl, fun p e R s m args below meth c H locs cells slots Q ls X hS hl kk => ?_⟩
        rw [hst]
        exact lv_dup2_2 X.1 X.2.1 hd (by rw [zz_v_cat]; exact hc) (kk ls hl)
      · cases hf
    · cases hf) (fun f f' hf => by
    unfold za_dup2_2 at hf
    split at hf
    · rename_i v r hst
      split at hf
      · rename_i hc
        cases hf
        rfl
      · cases hf
    · cases hf)
def za_pop2_2 (n : Nat) : zz_A := fun _ f => match f.2.2.1 with
  | v :: r => if v.category = 2 then some (n, f.2.1, r, f.2.2.2) else none
  | _ => none
theorem zo_pop2_2 (hd : decode cc pc = .ok (.pop2, 1)) : zz_O l Ts D cl fk cy z0 sp tys G own mn nL cc d K pc (za_pop2_2 (pc + 1)) :=
  zo_still (fun f f' _ hf => by
    unfold za_pop2_2 at hf
    split at hf
    · rename_i v r hst
      split at hf
      · rename_i hc
        cases hf
        refine ⟨rfl, fun p e R s m args below meth c H locs cells slots Q ls X hS hl kk => ?_⟩
        rw [hst]
        exact lv_pop2_2 X.1 X.2.1 hd (by rw [zz_v_cat]; exact hc) (kk ls hl)
      · cases hf
    · cases hf) (fun f f' hf => by
    unfold za_pop2_2 at hf
    split at hf
    · rename_i v r hst
      split at hf
      · rename_i hc
        cases hf
        rfl
      · cases hf
    · cases hf)
theorem zo_iconst {k : Int} {v : Int32} (hd : decode cc pc = .ok (.iconst k, 1)) (hv : Int32.ofInt k = v) : zz_O l Ts D cl fk cy z0 sp tys G own mn nL cc d K pc (za_const (.int v) (pc + 1)) :=
  zo_still (fun f f' _ hf => by
    cases hf
    refine ⟨rfl, fun p e R s m args below meth c H locs cells slots Q ls X hS hl kk => ?_⟩
    exact lv_iconst X.1 X.2.1 hd hv (kk ls hl)) (fun f f' hf => by cases hf; rfl)
theorem zo_bipush {k : Int} {v : Int32} (hd : decode cc pc = .ok (.bipush k, 2)) (hv : (Int8.ofInt k).toInt32 = v) : zz_O l Ts D cl fk cy z0 sp tys G own mn nL cc d K pc (za_const (.int v) (pc + 2)) :=
  zo_still (fun f f' _ hf => by
    cases hf
    refine ⟨rfl, fun p e R s m args below meth c H locs cells slots Q ls X hS hl kk => ?_⟩
    exact lv_bipush X.1 X.2.1 hd hv (kk ls hl)) (fun f f' hf => by cases hf; rfl)
theorem zo_sipush {k : Int} {v : Int32} (hd : decode cc pc = .ok (.sipush k, 3)) (hv : (Int16.ofInt k).toInt32 = v) : zz_O l Ts D cl fk cy z0 sp tys G own mn nL cc d K pc (za_const (.int v) (pc + 3)) :=
  zo_still (fun f f' _ hf => by
    cases hf
    refine ⟨rfl, fun p e R s m args below meth c H locs cells slots Q ls X hS hl kk => ?_⟩
    exact lv_sipush X.1 X.2.1 hd hv (kk ls hl)) (fun f f' hf => by cases hf; rfl)
theorem zo_lconst {k : Fin 2} {v : Int64} (hd : decode cc pc = .ok (.lconst k, 1)) (hv : Int64.ofNat (k : Nat) = v) : zz_O l Ts D cl fk cy z0 sp tys G own mn nL cc d K pc (za_const (.long v) (pc + 1)) :=
  zo_still (fun f f' _ hf => by
    cases hf
    refine ⟨rfl, fun p e R s m args below meth c H locs cells slots Q ls X hS hl kk => ?_⟩
    exact lv_lconst X.1 X.2.1 hd hv (kk ls hl)) (fun f f' hf => by cases hf; rfl)
theorem zo_null (hd : decode cc pc = .ok (.aconst_null, 1)) : zz_O l Ts D cl fk cy z0 sp tys G own mn nL cc d K pc (za_const (.null) (pc + 1)) :=
  zo_still (fun f f' _ hf => by
    cases hf
    refine ⟨rfl, fun p e R s m args below meth c H locs cells slots Q ls X hS hl kk => ?_⟩
    exact lv_null X.1 X.2.1 hd (kk ls hl)) (fun f f' hf => by cases hf; rfl)
theorem zo_ldc {i : Nat} {v : Int32} (hd : decode cc pc = .ok (.ldc i, 2)) (hw : Cond.constant own i v ∈ Ts) : zz_O l Ts D cl fk cy z0 sp tys G own mn nL cc d K pc (za_const (.int v) (pc + 2)) :=
  zo_still (fun f f' _ hf => by
    cases hf
    refine ⟨rfl, fun p e R s m args below meth c H locs cells slots Q ls X hS hl kk => ?_⟩
    exact lv_ldc X.1 X.2.1 X.2.2.2.1 (X.2.2.2.2.1 _ hw) hd (kk ls hl)) (fun f f' hf => by cases hf; rfl)
theorem zo_ldcw {i : Nat} {v : Int32} (hd : decode cc pc = .ok (.ldc_w i, 3)) (hw : Cond.constant own i v ∈ Ts) : zz_O l Ts D cl fk cy z0 sp tys G own mn nL cc d K pc (za_const (.int v) (pc + 3)) :=
  zo_still (fun f f' _ hf => by
    cases hf
    refine ⟨rfl, fun p e R s m args below meth c H locs cells slots Q ls X hS hl kk => ?_⟩
    exact lv_ldcw X.1 X.2.1 X.2.2.2.1 (X.2.2.2.2.1 _ hw) hd (kk ls hl)) (fun f f' hf => by cases hf; rfl)
theorem zo_ldc2 {i : Nat} {v : Int64} (hd : decode cc pc = .ok (.ldc2_w i, 3)) (hw : Cond.constantLong own i v ∈ Ts) : zz_O l Ts D cl fk cy z0 sp tys G own mn nL cc d K pc (za_const (.long v) (pc + 3)) :=
  zo_still (fun f f' _ hf => by
    cases hf
    refine ⟨rfl, fun p e R s m args below meth c H locs cells slots Q ls X hS hl kk => ?_⟩
    exact lv_ldc2 X.1 X.2.1 X.2.2.2.1 (X.2.2.2.2.1 _ hw) hd (kk ls hl)) (fun f f' hf => by cases hf; rfl)
def za_iload (i n : Nat) : zz_A := fun _ f => match zz_lg f.2.1 i with
  | some (.int v) => some (n, f.2.1, .int v :: f.2.2.1, f.2.2.2)
  | _ => none
def za_lload (i n : Nat) : zz_A := fun _ f => match zz_lg f.2.1 i with
  | some (.long v) => some (n, f.2.1, .long v :: f.2.2.1, f.2.2.2)
  | _ => none
def za_aload (i n : Nat) : zz_A := fun _ f => match zz_lg f.2.1 i with
  | some (.ref v) => some (n, f.2.1, .ref v :: f.2.2.1, f.2.2.2)
  | some .null => some (n, f.2.1, .null :: f.2.2.1, f.2.2.2)
  | _ => none
theorem zo_iload_n {k : Fin 4} {i : Nat} (hd : decode cc pc = .ok (.iload_n k, 1)) (hi : (k : Nat) = i) : zz_O l Ts D cl fk cy z0 sp tys G own mn nL cc d K pc (za_iload i (pc + 1)) :=
  zo_still (fun f f' _ hf => by
    unfold za_iload at hf
    split at hf
    · rename_i v hv
      cases hf
      refine ⟨rfl, fun p e R s m args below meth c H locs cells slots Q ls X hS hl kk => ?_⟩
      exact lv_iload_n X.1 X.2.1 hd hi (zz_lg_at hl hv) (kk ls hl)
    · cases hf) (fun f f' hf => by
    unfold za_iload at hf
    split at hf
    · rename_i v hv
      cases hf
      rfl
    · cases hf)
theorem zo_iload {i : Nat} (hd : decode cc pc = .ok (.iload i, 2)) : zz_O l Ts D cl fk cy z0 sp tys G own mn nL cc d K pc (za_iload i (pc + 2)) :=
  zo_still (fun f f' _ hf => by
    unfold za_iload at hf
    split at hf
    · rename_i v hv
      cases hf
      refine ⟨rfl, fun p e R s m args below meth c H locs cells slots Q ls X hS hl kk => ?_⟩
      exact lv_iload X.1 X.2.1 hd (zz_lg_at hl hv) (kk ls hl)
    · cases hf) (fun f f' hf => by
    unfold za_iload at hf
    split at hf
    · rename_i v hv
      cases hf
      rfl
    · cases hf)
theorem zo_lload_n {k : Fin 4} {i : Nat} (hd : decode cc pc = .ok (.lload_n k, 1)) (hi : (k : Nat) = i) : zz_O l Ts D cl fk cy z0 sp tys G own mn nL cc d K pc (za_lload i (pc + 1)) :=
  zo_still (fun f f' _ hf => by
    unfold za_lload at hf
    split at hf
    · rename_i v hv
      cases hf
      refine ⟨rfl, fun p e R s m args below meth c H locs cells slots Q ls X hS hl kk => ?_⟩
      exact lv_lload_n X.1 X.2.1 hd hi (zz_lg_at hl hv) (kk ls hl)
    · cases hf) (fun f f' hf => by
    unfold za_lload at hf
    split at hf
    · rename_i v hv
      cases hf
      rfl
    · cases hf)
theorem zo_lload {i : Nat} (hd : decode cc pc = .ok (.lload i, 2)) : zz_O l Ts D cl fk cy z0 sp tys G own mn nL cc d K pc (za_lload i (pc + 2)) :=
  zo_still (fun f f' _ hf => by
    unfold za_lload at hf
    split at hf
    · rename_i v hv
      cases hf
      refine ⟨rfl, fun p e R s m args below meth c H locs cells slots Q ls X hS hl kk => ?_⟩
      exact lv_lload X.1 X.2.1 hd (zz_lg_at hl hv) (kk ls hl)
    · cases hf) (fun f f' hf => by
    unfold za_lload at hf
    split at hf
    · rename_i v hv
      cases hf
      rfl
    · cases hf)
theorem zo_aload_n {k : Fin 4} {i : Nat} (hd : decode cc pc = .ok (.aload_n k, 1)) (hi : (k : Nat) = i) : zz_O l Ts D cl fk cy z0 sp tys G own mn nL cc d K pc (za_aload i (pc + 1)) :=
  zo_still (fun f f' _ hf => by
    unfold za_aload at hf
    split at hf
    · rename_i v hv
      cases hf
      refine ⟨rfl, fun p e R s m args below meth c H locs cells slots Q ls X hS hl kk => ?_⟩
      exact lv_aload_n X.1 X.2.1 hd hi (zz_lg_at hl hv) (kk ls hl)
    · rename_i hv
      cases hf
      refine ⟨rfl, fun p e R s m args below meth c H locs cells slots Q ls X hS hl kk => ?_⟩
      exact lv_aload_nN X.1 X.2.1 hd hi (zz_lg_at hl hv) (kk ls hl)
    · cases hf) (fun f f' hf => by
    unfold za_aload at hf
    split at hf
    · rename_i v hv
      cases hf
      rfl
    · rename_i hv
      cases hf
      rfl
    · cases hf)
theorem zo_aload {i : Nat} (hd : decode cc pc = .ok (.aload i, 2)) : zz_O l Ts D cl fk cy z0 sp tys G own mn nL cc d K pc (za_aload i (pc + 2)) :=
  zo_still (fun f f' _ hf => by
    unfold za_aload at hf
    split at hf
    · rename_i v hv
      cases hf
      refine ⟨rfl, fun p e R s m args below meth c H locs cells slots Q ls X hS hl kk => ?_⟩
      exact lv_aload X.1 X.2.1 hd (zz_lg_at hl hv) (kk ls hl)
    · rename_i hv
      cases hf
      refine ⟨rfl, fun p e R s m args below meth c H locs cells slots Q ls X hS hl kk => ?_⟩
      exact lv_aloadN X.1 X.2.1 hd (zz_lg_at hl hv) (kk ls hl)
    · cases hf) (fun f f' hf => by
    unfold za_aload at hf
    split at hf
    · rename_i v hv
      cases hf
      rfl
    · rename_i hv
      cases hf
      rfl
    · cases hf)
noncomputable def za_istore (i n : Nat) : zz_A := fun _ f => match f.2.2.1 with
  | .int v :: r => zz_lf false i f.2.1 (fun l => some (n, (i, .int v) :: l, r, f.2.2.2))
  | _ => none
noncomputable def za_lstore (i n : Nat) : zz_A := fun _ f => match f.2.2.1 with
  | .long v :: r => zz_lf true i f.2.1 (fun l => some (n, (i, .long v) :: l, r, f.2.2.2))
  | _ => none
noncomputable def za_astore (i n : Nat) : zz_A := fun _ f => match f.2.2.1 with
  | .ref v :: r => zz_lf false i f.2.1 (fun l => some (n, (i, .ref v) :: l, r, f.2.2.2))
  | .null :: r => zz_lf false i f.2.1 (fun l => some (n, (i, .null) :: l, r, f.2.2.2))
  | _ => none
theorem zo_istore_n {k : Fin 4} {i : Nat} (hd : decode cc pc = .ok (.istore_n k, 1)) (hi : (k : Nat) = i) (hn : i < nL) : zz_O l Ts D cl fk cy z0 sp tys G own mn nL cc d K pc (za_istore i (pc + 1)) :=
  zo_still (fun f f' _ hf => by
    unfold za_istore at hf
    split at hf
    · rename_i v r hst
      rw [zz_lf_eq] at hf
      cases hf
      refine ⟨rfl, fun p e R s m args below meth c H locs cells slots Q ls X hS hl kk => ?_⟩
      rw [hst]
      exact lv_istore_n X.1 X.2.1 hd hi hl hn (by rw [← zz_lk1, zz_lv_filter]; rfl) (fun ls' hl' => kk ls' hl')
    · cases hf) (fun f f' hf => by
    unfold za_istore at hf
    split at hf
    · rename_i v r hst
      rw [zz_lf_eq] at hf
      cases hf
      rfl
    · cases hf)
theorem zo_istore {i : Nat} (hd : decode cc pc = .ok (.istore i, 2)) (hn : i < nL) : zz_O l Ts D cl fk cy z0 sp tys G own mn nL cc d K pc (za_istore i (pc + 2)) :=
  zo_still (fun f f' _ hf => by
    unfold za_istore at hf
    split at hf
    · rename_i v r hst
      rw [zz_lf_eq] at hf
      cases hf
      refine ⟨rfl, fun p e R s m args below meth c H locs cells slots Q ls X hS hl kk => ?_⟩
      rw [hst]
      exact lv_istore X.1 X.2.1 hd hl hn (by rw [← zz_lk1, zz_lv_filter]; rfl) (fun ls' hl' => kk ls' hl')
    · cases hf) (fun f f' hf => by
    unfold za_istore at hf
    split at hf
    · rename_i v r hst
      rw [zz_lf_eq] at hf
      cases hf
      rfl
    · cases hf)
theorem zo_lstore_n {k : Fin 4} {i : Nat} (hd : decode cc pc = .ok (.lstore_n k, 1)) (hi : (k : Nat) = i) (hn : i + 1 < nL) : zz_O l Ts D cl fk cy z0 sp tys G own mn nL cc d K pc (za_lstore i (pc + 1)) :=
  zo_still (fun f f' _ hf => by
    unfold za_lstore at hf
    split at hf
    · rename_i v r hst
      rw [zz_lf_eq] at hf
      cases hf
      refine ⟨rfl, fun p e R s m args below meth c H locs cells slots Q ls X hS hl kk => ?_⟩
      rw [hst]
      exact lv_lstore_n X.1 X.2.1 hd hi hl hn (by rw [← zz_lk2, zz_lv_filter]; rfl) (fun ls' hl' => kk ls' hl')
    · cases hf) (fun f f' hf => by
    unfold za_lstore at hf
    split at hf
    · rename_i v r hst
      rw [zz_lf_eq] at hf
      cases hf
      rfl
    · cases hf)
theorem zo_lstore {i : Nat} (hd : decode cc pc = .ok (.lstore i, 2)) (hn : i + 1 < nL) : zz_O l Ts D cl fk cy z0 sp tys G own mn nL cc d K pc (za_lstore i (pc + 2)) :=
  zo_still (fun f f' _ hf => by
    unfold za_lstore at hf
    split at hf
    · rename_i v r hst
      rw [zz_lf_eq] at hf
      cases hf
      refine ⟨rfl, fun p e R s m args below meth c H locs cells slots Q ls X hS hl kk => ?_⟩
      rw [hst]
      exact lv_lstore X.1 X.2.1 hd hl hn (by rw [← zz_lk2, zz_lv_filter]; rfl) (fun ls' hl' => kk ls' hl')
    · cases hf) (fun f f' hf => by
    unfold za_lstore at hf
    split at hf
    · rename_i v r hst
      rw [zz_lf_eq] at hf
      cases hf
      rfl
    · cases hf)
theorem zo_astore_n {k : Fin 4} {i : Nat} (hd : decode cc pc = .ok (.astore_n k, 1)) (hi : (k : Nat) = i) (hn : i < nL) : zz_O l Ts D cl fk cy z0 sp tys G own mn nL cc d K pc (za_astore i (pc + 1)) :=
  zo_still (fun f f' _ hf => by
    unfold za_astore at hf
    split at hf
    · rename_i v r hst
      rw [zz_lf_eq] at hf
      cases hf
      refine ⟨rfl, fun p e R s m args below meth c H locs cells slots Q ls X hS hl kk => ?_⟩
      rw [hst]
      exact lv_astore_n X.1 X.2.1 hd hi hl hn (by rw [← zz_lk1, zz_lv_filter]; rfl) (fun ls' hl' => kk ls' hl')
    · rename_i r hst
      rw [zz_lf_eq] at hf
      cases hf
      refine ⟨rfl, fun p e R s m args below meth c H locs cells slots Q ls X hS hl kk => ?_⟩
      rw [hst]
      exact lv_astore_nN X.1 X.2.1 hd hi hl hn (by rw [← zz_lk1, zz_lv_filter]; rfl) (fun ls' hl' => kk ls' hl')
    · cases hf) (fun f f' hf => by
    unfold za_astore at hf
    split at hf
    · rename_i v r hst
      rw [zz_lf_eq] at hf
      cases hf
      rfl
    · rename_i r hst
      rw [zz_lf_eq] at hf
      cases hf
      rfl
    · cases hf)
theorem zo_astore {i : Nat} (hd : decode cc pc = .ok (.astore i, 2)) (hn : i < nL) : zz_O l Ts D cl fk cy z0 sp tys G own mn nL cc d K pc (za_astore i (pc + 2)) :=
  zo_still (fun f f' _ hf => by
    unfold za_astore at hf
    split at hf
    · rename_i v r hst
      rw [zz_lf_eq] at hf
      cases hf
      refine ⟨rfl, fun p e R s m args below meth c H locs cells slots Q ls X hS hl kk => ?_⟩
      rw [hst]
      exact lv_astore X.1 X.2.1 hd hl hn (by rw [← zz_lk1, zz_lv_filter]; rfl) (fun ls' hl' => kk ls' hl')
    · rename_i r hst
      rw [zz_lf_eq] at hf
      cases hf
      refine ⟨rfl, fun p e R s m args below meth c H locs cells slots Q ls X hS hl kk => ?_⟩
      rw [hst]
      exact lv_astoreN X.1 X.2.1 hd hl hn (by rw [← zz_lk1, zz_lv_filter]; rfl) (fun ls' hl' => kk ls' hl')
    · cases hf) (fun f f' hf => by
    unfold za_astore at hf
    split at hf
    · rename_i v r hst
      rw [zz_lf_eq] at hf
      cases hf
      rfl
    · rename_i r hst
      rw [zz_lf_eq] at hf
      cases hf
      rfl
    · cases hf)
noncomputable def za_iinc (i : Nat) (v : Int32) (n : Nat) : zz_A := fun _ f => match zz_lg f.2.1 i with
  | some (.int x) => zz_fI (x + v) (fun z => zz_lf false i f.2.1 (fun l => some (n, (i, .int z) :: l, f.2.2.1, f.2.2.2)))
  | _ => none
theorem zo_iinc {i : Nat} {k : Int} {v : Int32} (hd : decode cc pc = .ok (.iinc i k, 3)) (hv : Int32.ofInt k = v) (hn : i < nL) : zz_O l Ts D cl fk cy z0 sp tys G own mn nL cc d K pc (za_iinc i v (pc + 3)) :=
  zo_still (fun f f' _ hf => by
    unfold za_iinc at hf
    split at hf
    · rename_i x hx
      rw [zz_fI_eq, zz_lf_eq] at hf
      cases hf
      refine ⟨rfl, fun p e R s m args below meth c H locs cells slots Q ls X hS hl kk => ?_⟩
      obtain ⟨j, hj⟩ := zz_lg_pl (z0 := z0) (sp := sp) hx
      exact lv_iinc X.1 X.2.1 hd hl hj (by rw [hv]) hn (by rw [← zz_lk1, zz_lv_filter]; rfl) (fun ls' hl' => kk ls' hl')
    · cases hf) (fun f f' hf => by
    unfold za_iinc at hf
    split at hf
    · rw [zz_fI_eq, zz_lf_eq] at hf
      cases hf
      rfl
    · cases hf)
noncomputable def za_goto (n : Nat) : zz_A := fun _ f => some (n, f.2.1, f.2.2.1, f.2.2.2)
theorem zo_goto {off : Int} {n : Nat} (hd : decode cc pc = .ok (.goto off, 3)) (ht : (pc : Int) + off = (n : Int)) : zz_O l Ts D cl fk cy z0 sp tys G own mn nL cc d K pc (za_goto n) :=
  zo_still (fun f f' _ hf => by
    cases hf
    refine ⟨rfl, fun p e R s m args below meth c H locs cells slots Q ls X hS hl kk => ?_⟩
    exact lv_goto X.1 X.2.1 hd ht (kk ls hl)) (fun f f' hf => by cases hf; rfl)
def za_if_eq (t n : Nat) : zz_A := fun _ f => match f.2.2.1 with
  | .int x :: r => if x = 0 then some (t, f.2.1, r, f.2.2.2) else some (n, f.2.1, r, f.2.2.2)
  | _ => none
theorem zo_if_eq {off : Int} {t : Nat} (hd : decode cc pc = .ok (.ifCond .eq off, 3)) (ht : (pc : Int) + off = (t : Int)) : zz_O l Ts D cl fk cy z0 sp tys G own mn nL cc d K pc (za_if_eq t (pc + 3)) :=
  zo_still (fun f f' _ hf => by
    unfold za_if_eq at hf
    split at hf
    · rename_i x r hst
      split at hf
      · rename_i hc
        cases hf
        refine ⟨rfl, fun p e R s m args below meth c H locs cells slots Q ls X hS hl kk => ?_⟩
        rw [hst]
        exact lv_if_eq X.1 X.2.1 hd ht (fun _ => kk ls hl) (fun h => absurd hc h)
      · rename_i hc
        cases hf
        refine ⟨rfl, fun p e R s m args below meth c H locs cells slots Q ls X hS hl kk => ?_⟩
        rw [hst]
        exact lv_if_eq X.1 X.2.1 hd ht (fun h => absurd h hc) (fun _ => kk ls hl)
    · cases hf) (fun f f' hf => by
    unfold za_if_eq at hf
    split at hf
    · rename_i x r hst
      split at hf
      · rename_i hc
        cases hf
        rfl
      · rename_i hc
        cases hf
        rfl
    · cases hf)
def za_if_ne (t n : Nat) : zz_A := fun _ f => match f.2.2.1 with
  | .int x :: r => if ¬ x = 0 then some (t, f.2.1, r, f.2.2.2) else some (n, f.2.1, r, f.2.2.2)
  | _ => none
theorem zo_if_ne {off : Int} {t : Nat} (hd : decode cc pc = .ok (.ifCond .ne off, 3)) (ht : (pc : Int) + off = (t : Int)) : zz_O l Ts D cl fk cy z0 sp tys G own mn nL cc d K pc (za_if_ne t (pc + 3)) :=
  zo_still (fun f f' _ hf => by
    unfold za_if_ne at hf
    split at hf
    · rename_i x r hst
      split at hf
      · rename_i hc
        cases hf
        refine ⟨rfl, fun p e R s m args below meth c H locs cells slots Q ls X hS hl kk => ?_⟩
        rw [hst]
        exact lv_if_ne X.1 X.2.1 hd ht (fun _ => kk ls hl) (fun h => absurd h hc)
      · rename_i hc
        cases hf
        refine ⟨rfl, fun p e R s m args below meth c H locs cells slots Q ls X hS hl kk => ?_⟩
        rw [hst]
        exact lv_if_ne X.1 X.2.1 hd ht (fun h => absurd h hc) (fun _ => kk ls hl)
    · cases hf) (fun f f' hf => by
    unfold za_if_ne at hf
    split at hf
    · rename_i x r hst
      split at hf
      · rename_i hc
        cases hf
        rfl
      · rename_i hc
        cases hf
        rfl
    · cases hf)
def za_if_lt (t n : Nat) : zz_A := fun _ f => match f.2.2.1 with
  | .int x :: r => if x < 0 then some (t, f.2.1, r, f.2.2.2) else some (n, f.2.1, r, f.2.2.2)
  | _ => none
theorem zo_if_lt {off : Int} {t : Nat} (hd : decode cc pc = .ok (.ifCond .lt off, 3)) (ht : (pc : Int) + off = (t : Int)) : zz_O l Ts D cl fk cy z0 sp tys G own mn nL cc d K pc (za_if_lt t (pc + 3)) :=
  zo_still (fun f f' _ hf => by
    unfold za_if_lt at hf
    split at hf
    · rename_i x r hst
      split at hf
      · rename_i hc
        cases hf
        refine ⟨rfl, fun p e R s m args below meth c H locs cells slots Q ls X hS hl kk => ?_⟩
        rw [hst]
        exact lv_if_lt X.1 X.2.1 hd ht (fun _ => kk ls hl) (fun h => absurd hc h)
      · rename_i hc
        cases hf
        refine ⟨rfl, fun p e R s m args below meth c H locs cells slots Q ls X hS hl kk => ?_⟩
        rw [hst]
        exact lv_if_lt X.1 X.2.1 hd ht (fun h => absurd h hc) (fun _ => kk ls hl)
    · cases hf) (fun f f' hf => by
    unfold za_if_lt at hf
    split at hf
    · rename_i x r hst
      split at hf
      · rename_i hc
        cases hf
        rfl
      · rename_i hc
        cases hf
        rfl
    · cases hf)
def za_if_ge (t n : Nat) : zz_A := fun _ f => match f.2.2.1 with
  | .int x :: r => if 0 ≤ x then some (t, f.2.1, r, f.2.2.2) else some (n, f.2.1, r, f.2.2.2)
  | _ => none
theorem zo_if_ge {off : Int} {t : Nat} (hd : decode cc pc = .ok (.ifCond .ge off, 3)) (ht : (pc : Int) + off = (t : Int)) : zz_O l Ts D cl fk cy z0 sp tys G own mn nL cc d K pc (za_if_ge t (pc + 3)) :=
  zo_still (fun f f' _ hf => by
    unfold za_if_ge at hf
    split at hf
    · rename_i x r hst
      split at hf
      · rename_i hc
        cases hf
        refine ⟨rfl, fun p e R s m args below meth c H locs cells slots Q ls X hS hl kk => ?_⟩
        rw [hst]
        exact lv_if_ge X.1 X.2.1 hd ht (fun _ => kk ls hl) (fun h => absurd hc h)
      · rename_i hc
        cases hf
        refine ⟨rfl, fun p e R s m args below meth c H locs cells slots Q ls X hS hl kk => ?_⟩
        rw [hst]
        exact lv_if_ge X.1 X.2.1 hd ht (fun h => absurd h hc) (fun _ => kk ls hl)
    · cases hf) (fun f f' hf => by
    unfold za_if_ge at hf
    split at hf
    · rename_i x r hst
      split at hf
      · rename_i hc
        cases hf
        rfl
      · rename_i hc
        cases hf
        rfl
    · cases hf)
def za_if_gt (t n : Nat) : zz_A := fun _ f => match f.2.2.1 with
  | .int x :: r => if 0 < x then some (t, f.2.1, r, f.2.2.2) else some (n, f.2.1, r, f.2.2.2)
  | _ => none
theorem zo_if_gt {off : Int} {t : Nat} (hd : decode cc pc = .ok (.ifCond .gt off, 3)) (ht : (pc : Int) + off = (t : Int)) : zz_O l Ts D cl fk cy z0 sp tys G own mn nL cc d K pc (za_if_gt t (pc + 3)) :=
  zo_still (fun f f' _ hf => by
    unfold za_if_gt at hf
    split at hf
    · rename_i x r hst
      split at hf
      · rename_i hc
        cases hf
        refine ⟨rfl, fun p e R s m args below meth c H locs cells slots Q ls X hS hl kk => ?_⟩
        rw [hst]
        exact lv_if_gt X.1 X.2.1 hd ht (fun _ => kk ls hl) (fun h => absurd hc h)
      · rename_i hc
        cases hf
        refine ⟨rfl, fun p e R s m args below meth c H locs cells slots Q ls X hS hl kk => ?_⟩
        rw [hst]
        exact lv_if_gt X.1 X.2.1 hd ht (fun h => absurd h hc) (fun _ => kk ls hl)
    · cases hf) (fun f f' hf => by
    unfold za_if_gt at hf
    split at hf
    · rename_i x r hst
      split at hf
      · rename_i hc
        cases hf
        rfl
      · rename_i hc
        cases hf
        rfl
    · cases hf)
def za_if_le (t n : Nat) : zz_A := fun _ f => match f.2.2.1 with
  | .int x :: r => if x ≤ 0 then some (t, f.2.1, r, f.2.2.2) else some (n, f.2.1, r, f.2.2.2)
  | _ => none
theorem zo_if_le {off : Int} {t : Nat} (hd : decode cc pc = .ok (.ifCond .le off, 3)) (ht : (pc : Int) + off = (t : Int)) : zz_O l Ts D cl fk cy z0 sp tys G own mn nL cc d K pc (za_if_le t (pc + 3)) :=
  zo_still (fun f f' _ hf => by
    unfold za_if_le at hf
    split at hf
    · rename_i x r hst
      split at hf
      · rename_i hc
        cases hf
        refine ⟨rfl, fun p e R s m args below meth c H locs cells slots Q ls X hS hl kk => ?_⟩
        rw [hst]
        exact lv_if_le X.1 X.2.1 hd ht (fun _ => kk ls hl) (fun h => absurd hc h)
      · rename_i hc
        cases hf
        refine ⟨rfl, fun p e R s m args below meth c H locs cells slots Q ls X hS hl kk => ?_⟩
        rw [hst]
        exact lv_if_le X.1 X.2.1 hd ht (fun h => absurd h hc) (fun _ => kk ls hl)
    · cases hf) (fun f f' hf => by
    unfold za_if_le at hf
    split at hf
    · rename_i x r hst
      split at hf
      · rename_i hc
        cases hf
        rfl
      · rename_i hc
        cases hf
        rfl
    · cases hf)
def za_icmp_eq (t n : Nat) : zz_A := fun _ f => match f.2.2.1 with
  | .int y :: .int x :: r => if x = y then some (t, f.2.1, r, f.2.2.2) else some (n, f.2.1, r, f.2.2.2)
  | _ => none
theorem zo_icmp_eq {off : Int} {t : Nat} (hd : decode cc pc = .ok (.if_icmp .eq off, 3)) (ht : (pc : Int) + off = (t : Int)) : zz_O l Ts D cl fk cy z0 sp tys G own mn nL cc d K pc (za_icmp_eq t (pc + 3)) :=
  zo_still (fun f f' _ hf => by
    unfold za_icmp_eq at hf
    split at hf
    · rename_i y x r hst
      split at hf
      · rename_i hc
        cases hf
        refine ⟨rfl, fun p e R s m args below meth c H locs cells slots Q ls X hS hl kk => ?_⟩
        rw [hst]
        exact lv_icmp_eq X.1 X.2.1 hd ht (fun _ => kk ls hl) (fun h => absurd hc h)
      · rename_i hc
        cases hf
        refine ⟨rfl, fun p e R s m args below meth c H locs cells slots Q ls X hS hl kk => ?_⟩
        rw [hst]
        exact lv_icmp_eq X.1 X.2.1 hd ht (fun h => absurd h hc) (fun _ => kk ls hl)
    · cases hf) (fun f f' hf => by
    unfold za_icmp_eq at hf
    split at hf
    · rename_i y x r hst
      split at hf
      · rename_i hc
        cases hf
        rfl
      · rename_i hc
        cases hf
        rfl
    · cases hf)
def za_icmp_ne (t n : Nat) : zz_A := fun _ f => match f.2.2.1 with
  | .int y :: .int x :: r => if ¬ x = y then some (t, f.2.1, r, f.2.2.2) else some (n, f.2.1, r, f.2.2.2)
  | _ => none
theorem zo_icmp_ne {off : Int} {t : Nat} (hd : decode cc pc = .ok (.if_icmp .ne off, 3)) (ht : (pc : Int) + off = (t : Int)) : zz_O l Ts D cl fk cy z0 sp tys G own mn nL cc d K pc (za_icmp_ne t (pc + 3)) :=
  zo_still (fun f f' _ hf => by
    unfold za_icmp_ne at hf
    split at hf
    · rename_i y x r hst
      split at hf
      · rename_i hc
        cases hf
        refine ⟨rfl, fun p e R s m args below meth c H locs cells slots Q ls X hS hl kk => ?_⟩
        rw [hst]
        exact lv_icmp_ne X.1 X.2.1 hd ht (fun _ => kk ls hl) (fun h => absurd h hc)
      · rename_i hc
        cases hf
        refine ⟨rfl, fun p e R s m args below meth c H locs cells slots Q ls X hS hl kk => ?_⟩
        rw [hst]
        exact lv_icmp_ne X.1 X.2.1 hd ht (fun h => absurd h hc) (fun _ => kk ls hl)
    · cases hf) (fun f f' hf => by
    unfold za_icmp_ne at hf
    split at hf
    · rename_i y x r hst
      split at hf
      · rename_i hc
        cases hf
        rfl
      · rename_i hc
        cases hf
        rfl
    · cases hf)
def za_icmp_lt (t n : Nat) : zz_A := fun _ f => match f.2.2.1 with
  | .int y :: .int x :: r => if x < y then some (t, f.2.1, r, f.2.2.2) else some (n, f.2.1, r, f.2.2.2)
  | _ => none
theorem zo_icmp_lt {off : Int} {t : Nat} (hd : decode cc pc = .ok (.if_icmp .lt off, 3)) (ht : (pc : Int) + off = (t : Int)) : zz_O l Ts D cl fk cy z0 sp tys G own mn nL cc d K pc (za_icmp_lt t (pc + 3)) :=
  zo_still (fun f f' _ hf => by
    unfold za_icmp_lt at hf
    split at hf
    · rename_i y x r hst
      split at hf
      · rename_i hc
        cases hf
        refine ⟨rfl, fun p e R s m args below meth c H locs cells slots Q ls X hS hl kk => ?_⟩
        rw [hst]
        exact lv_icmp_lt X.1 X.2.1 hd ht (fun _ => kk ls hl) (fun h => absurd hc h)
      · rename_i hc
        cases hf
        refine ⟨rfl, fun p e R s m args below meth c H locs cells slots Q ls X hS hl kk => ?_⟩
        rw [hst]
        exact lv_icmp_lt X.1 X.2.1 hd ht (fun h => absurd h hc) (fun _ => kk ls hl)
    · cases hf) (fun f f' hf => by
    unfold za_icmp_lt at hf
    split at hf
    · rename_i y x r hst
      split at hf
      · rename_i hc
        cases hf
        rfl
      · rename_i hc
        cases hf
        rfl
    · cases hf)
def za_icmp_ge (t n : Nat) : zz_A := fun _ f => match f.2.2.1 with
  | .int y :: .int x :: r => if y ≤ x then some (t, f.2.1, r, f.2.2.2) else some (n, f.2.1, r, f.2.2.2)
  | _ => none
theorem zo_icmp_ge {off : Int} {t : Nat} (hd : decode cc pc = .ok (.if_icmp .ge off, 3)) (ht : (pc : Int) + off = (t : Int)) : zz_O l Ts D cl fk cy z0 sp tys G own mn nL cc d K pc (za_icmp_ge t (pc + 3)) :=
  zo_still (fun f f' _ hf => by
    unfold za_icmp_ge at hf
    split at hf
    · rename_i y x r hst
      split at hf
      · rename_i hc
        cases hf
        refine ⟨rfl, fun p e R s m args below meth c H locs cells slots Q ls X hS hl kk => ?_⟩
        rw [hst]
        exact lv_icmp_ge X.1 X.2.1 hd ht (fun _ => kk ls hl) (fun h => absurd hc h)
      · rename_i hc
        cases hf
        refine ⟨rfl, fun p e R s m args below meth c H locs cells slots Q ls X hS hl kk => ?_⟩
        rw [hst]
        exact lv_icmp_ge X.1 X.2.1 hd ht (fun h => absurd h hc) (fun _ => kk ls hl)
    · cases hf) (fun f f' hf => by
    unfold za_icmp_ge at hf
    split at hf
    · rename_i y x r hst
      split at hf
      · rename_i hc
        cases hf
        rfl
      · rename_i hc
        cases hf
        rfl
    · cases hf)
def za_icmp_gt (t n : Nat) : zz_A := fun _ f => match f.2.2.1 with
  | .int y :: .int x :: r => if y < x then some (t, f.2.1, r, f.2.2.2) else some (n, f.2.1, r, f.2.2.2)
  | _ => none
theorem zo_icmp_gt {off : Int} {t : Nat} (hd : decode cc pc = .ok (.if_icmp .gt off, 3)) (ht : (pc : Int) + off = (t : Int)) : zz_O l Ts D cl fk cy z0 sp tys G own mn nL cc d K pc (za_icmp_gt t (pc + 3)) :=
  zo_still (fun f f' _ hf => by
    unfold za_icmp_gt at hf
    split at hf
    · rename_i y x r hst
      split at hf
      · rename_i hc
        cases hf
        refine ⟨rfl, fun p e R s m args below meth c H locs cells slots Q ls X hS hl kk => ?_⟩
        rw [hst]
        exact lv_icmp_gt X.1 X.2.1 hd ht (fun _ => kk ls hl) (fun h => absurd hc h)
      · rename_i hc
        cases hf
        refine ⟨rfl, fun p e R s m args below meth c H locs cells slots Q ls X hS hl kk => ?_⟩
        rw [hst]
        exact lv_icmp_gt X.1 X.2.1 hd ht (fun h => absurd h hc) (fun _ => kk ls hl)
    · cases hf) (fun f f' hf => by
    unfold za_icmp_gt at hf
    split at hf
    · rename_i y x r hst
      split at hf
      · rename_i hc
        cases hf
        rfl
      · rename_i hc
        cases hf
        rfl
    · cases hf)
def za_icmp_le (t n : Nat) : zz_A := fun _ f => match f.2.2.1 with
  | .int y :: .int x :: r => if x ≤ y then some (t, f.2.1, r, f.2.2.2) else some (n, f.2.1, r, f.2.2.2)
  | _ => none
theorem zo_icmp_le {off : Int} {t : Nat} (hd : decode cc pc = .ok (.if_icmp .le off, 3)) (ht : (pc : Int) + off = (t : Int)) : zz_O l Ts D cl fk cy z0 sp tys G own mn nL cc d K pc (za_icmp_le t (pc + 3)) :=
  zo_still (fun f f' _ hf => by
    unfold za_icmp_le at hf
    split at hf
    · rename_i y x r hst
      split at hf
      · rename_i hc
        cases hf
        refine ⟨rfl, fun p e R s m args below meth c H locs cells slots Q ls X hS hl kk => ?_⟩
        rw [hst]
        exact lv_icmp_le X.1 X.2.1 hd ht (fun _ => kk ls hl) (fun h => absurd hc h)
      · rename_i hc
        cases hf
        refine ⟨rfl, fun p e R s m args below meth c H locs cells slots Q ls X hS hl kk => ?_⟩
        rw [hst]
        exact lv_icmp_le X.1 X.2.1 hd ht (fun h => absurd h hc) (fun _ => kk ls hl)
    · cases hf) (fun f f' hf => by
    unfold za_icmp_le at hf
    split at hf
    · rename_i y x r hst
      split at hf
      · rename_i hc
        cases hf
        rfl
      · rename_i hc
        cases hf
        rfl
    · cases hf)
def za_ifnull (t n : Nat) : zz_A := fun _ f => match f.2.2.1 with
  | .ref _ :: r => some (n, f.2.1, r, f.2.2.2)
  | .null :: r => some (t, f.2.1, r, f.2.2.2)
  | _ => none
theorem zo_ifnull {off : Int} {t : Nat} (hd : decode cc pc = .ok (.ifnull off, 3)) (ht : (pc : Int) + off = (t : Int)) : zz_O l Ts D cl fk cy z0 sp tys G own mn nL cc d K pc (za_ifnull t (pc + 3)) :=
  zo_still (fun f f' _ hf => by
    unfold za_ifnull at hf
    split at hf
    · rename_i x r hst
      cases hf
      refine ⟨rfl, fun p e R s m args below meth c H locs cells slots Q ls X hS hl kk => ?_⟩
      rw [hst]
      exact lv_ifnull X.1 X.2.1 hd (kk ls hl)
    · rename_i r hst
      cases hf
      refine ⟨rfl, fun p e R s m args below meth c H locs cells slots Q ls X hS hl kk => ?_⟩
      rw [hst]
      exact lv_ifnullN X.1 X.2.1 hd ht (kk ls hl)
    · cases hf) (fun f f' hf => by
    unfold za_ifnull at hf
    split at hf
    · rename_i x r hst
      cases hf
      rfl
    · rename_i r hst
      cases hf
      rfl
    · cases hf)
def za_ifnonnull (t n : Nat) : zz_A := fun _ f => match f.2.2.1 with
  | .ref _ :: r => some (t, f.2.1, r, f.2.2.2)
  | .null :: r => some (n, f.2.1, r, f.2.2.2)
  | _ => none
theorem zo_ifnonnull {off : Int} {t : Nat} (hd : decode cc pc = .ok (.ifnonnull off, 3)) (ht : (pc : Int) + off = (t : Int)) : zz_O l Ts D cl fk cy z0 sp tys G own mn nL cc d K pc (za_ifnonnull t (pc + 3)) :=
  zo_still (fun f f' _ hf => by
    unfold za_ifnonnull at hf
    split at hf
    · rename_i x r hst
      cases hf
      refine ⟨rfl, fun p e R s m args below meth c H locs cells slots Q ls X hS hl kk => ?_⟩
      rw [hst]
      exact lv_ifnonnull X.1 X.2.1 hd ht (kk ls hl)
    · rename_i r hst
      cases hf
      refine ⟨rfl, fun p e R s m args below meth c H locs cells slots Q ls X hS hl kk => ?_⟩
      rw [hst]
      exact lv_ifnonnullN X.1 X.2.1 hd (kk ls hl)
    · cases hf) (fun f f' hf => by
    unfold za_ifnonnull at hf
    split at hf
    · rename_i x r hst
      cases hf
      rfl
    · rename_i r hst
      cases hf
      rfl
    · cases hf)
end ZS
end
section
/-! FIELDS, ROWS, NEW CELLS: the instructions that touch cells are sound. -/
theorem zz_cond {α : Type} {b : Bool} {x : Option α} {y : α} (h : cond b x none = some y) : b = true ∧ x = some y := by
  cases b with
  | false => cases h
  | true => exact ⟨rfl, h⟩
theorem zz_and {a b : Bool} (h : (a && b) = true) : a = true ∧ b = true := by
  cases a <;> cases b <;> first | exact ⟨rfl, rfl⟩ | cases h
theorem zz_blt {a b : Nat} (h : Nat.blt a b = true) : a < b := Nat.le_of_ble_eq_true h
theorem zz_ble {a b : Nat} (h : Nat.ble a b = true) : a ≤ b := Nat.le_of_ble_eq_true h
theorem zz_beq {a b : Nat} (h : Nat.beq a b = true) : a = b := Nat.eq_of_beq_eq_true h
theorem zz_idx {j : Int32} {n : Nat} (h : zz_nI j < n) (hn : n ≤ 2147483648) : vp_in j n ∧ j.toNatClampNeg = zz_nI j := by
  have h1 : zz_nI j < 2 ^ 31 := by omega
  have e : j = nI (zz_nI j) := (zz_nI_of j).symm
  have h2 : j.toNatClampNeg = zz_nI j := by
    conv => lhs; rw [e]
    exact nI_clamp h1
  refine ⟨?_, h2⟩
  unfold vp_in
  rw [h2]
  intro q
  rcases q with q | q
  · rw [e] at q
    exact nI_pos h1 q
  · omega
theorem zz_rm {z0 : Nat} {sp : Nat → Nat} {i : Nat} (h : i < 1000000) : zz_r z0 sp i = zz_ad z0 sp i := if_pos h
theorem zz_v_ref {z0 : Nat} {sp : Nat → Nat} {i : Nat} (h : i < 1000000) : zz_v z0 sp (.ref i) = .ref (zz_ad z0 sp i) := by
  show Value.ref (zz_r z0 sp i) = _
  rw [zz_rm h]
theorem zz_v_av (z0 : Nat) (sp : Nat → Nat) (n : Nat) : zz_v z0 sp (zz_av 2 n) = va_rf (zz_o z0 sp n) := by
  unfold zz_av zz_o
  rw [if_neg (by decide), if_neg (by decide)]
  by_cases h : n = 0
  · rw [if_pos h, if_pos h]; rfl
  · rw [if_neg h, if_neg h]; rfl
theorem zz_rng_get {n k : Nat} {g : Nat → Value} (h : k < n) : ((List.range n).map g)[k]? = some (g k) := by
  rw [List.getElem?_map, List.getElem?_range h]; rfl
theorem zz_rng_set {n k : Nat} {g g' : Nat → Value} (h : ∀ j, j ≠ k → g' j = g j) : (List.range n).map g' = ((List.range n).map g).set k (g' k) := by
  apply List.ext_getElem?
  intro j
  by_cases hj : j < n
  · rw [zz_rng_get hj]
    by_cases hk : j = k
    · subst hk
      rw [List.getElem?_set_self (by simpa using hj)]
    · rw [List.getElem?_set_ne (Ne.symm hk), zz_rng_get hj, h j hk]
  · rw [List.getElem?_eq_none (by simpa using hj), List.getElem?_eq_none (by simpa using hj)]
/-- of what kind a cell is: an object of class ci that has a field k -/
def zz_io (w : zz_W) (i ci k : Nat) : Bool := Nat.blt i w.1 && (Nat.blt i 1000000 && (Nat.beq (zz_g w i).1 3 && (Nat.beq (zz_g w i).2.1 ci && Nat.blt k (zz_g w i).2.2.1)))
theorem zz_io_ok {w : zz_W} {i ci k : Nat} (h : zz_io w i ci k = true) : i < w.1 ∧ i < 1000000 ∧ (zz_g w i).1 = 3 ∧ (zz_g w i).2.1 = ci ∧ k < (zz_g w i).2.2.1 := by
  unfold zz_io at h
  obtain ⟨h1, h⟩ := zz_and h
  obtain ⟨h2, h⟩ := zz_and h
  obtain ⟨h3, h⟩ := zz_and h
  obtain ⟨h4, h5⟩ := zz_and h
  exact ⟨zz_blt h1, zz_blt h2, zz_beq h3, zz_beq h4, zz_blt h5⟩
/-- a row of kind kd, of elements t, that has a place j -/
def zz_ir (w : zz_W) (i kd t j : Nat) : Bool := Nat.blt i w.1 && (Nat.blt i 1000000 && (Nat.beq (zz_g w i).1 kd && (Nat.beq (zz_g w i).2.1 t && (Nat.blt j (zz_g w i).2.2.1 && Nat.ble (zz_g w i).2.2.1 2147483648))))
theorem zz_ir_ok {w : zz_W} {i kd t j : Nat} (h : zz_ir w i kd t j = true) : i < w.1 ∧ i < 1000000 ∧ (zz_g w i).1 = kd ∧ (zz_g w i).2.1 = t ∧ j < (zz_g w i).2.2.1 ∧ (zz_g w i).2.2.1 ≤ 2147483648 := by
  unfold zz_ir at h
  obtain ⟨h1, h⟩ := zz_and h
  obtain ⟨h2, h⟩ := zz_and h
  obtain ⟨h3, h⟩ := zz_and h
  obtain ⟨h4, h⟩ := zz_and h
  obtain ⟨h5, h6⟩ := zz_and h
  exact ⟨zz_blt h1, zz_blt h2, zz_beq h3, zz_beq h4, zz_blt h5, zz_ble h6⟩
section ZC
variable {l : Launch} {Ts : List Cond} {D : va_G} {cl : List vw_C} {fk : Nat → Nat → Nat} {cy : Nat → ClassId} {z0 : Nat} {sp : Nat → Nat} {tys : List (ClassId × FieldType)} {G : State → Prop} {own mn : String} {nL : Nat} {cc : ByteArray} {d : Nat} {K : zz_K} {pc : Nat}
theorem zz_e_o {c : zz_C} {ci : Nat} (h : c.1 = 3) (hc : c.2.1 = ci) : zz_e fk cy z0 sp c = .inr (ci, (List.range c.2.2.1).map (fun k => zz_v z0 sp (zz_av (fk ci k) (zz_at 64 c.2.2.2 k)))) := by
  subst hc
  unfold zz_e
  rw [if_neg (by omega), if_neg (by omega), if_neg (by omega)]
theorem zz_e_i {c : zz_C} {t : Nat} (h : c.1 = 0) (hc : c.2.1 = t) : zz_e fk cy z0 sp c = .inl (cy t, c.2.2.1, .inl (fun j => Int32.ofNat (zz_at 32 c.2.2.2 j))) := by
  subst hc
  unfold zz_e
  rw [if_pos h]
theorem zz_e_l {c : zz_C} {t : Nat} (h : c.1 = 1) (hc : c.2.1 = t) : zz_e fk cy z0 sp c = .inl (cy t, c.2.2.1, .inr (.inl (fun j => Int64.ofNat (zz_at 64 c.2.2.2 j)))) := by
  subst hc
  unfold zz_e
  rw [if_neg (by omega), if_pos h]
theorem zz_e_q {c : zz_C} {t : Nat} (h : c.1 = 2) (hc : c.2.1 = t) : zz_e fk cy z0 sp c = .inl (cy t, c.2.2.1, .inr (.inr (.inr (.inr (fun j => zz_o z0 sp (zz_at 32 c.2.2.2 j)))))) := by
  subst hc
  unfold zz_e
  rw [if_neg (by omega), if_neg (by omega), if_pos h]
/-- an instruction that reads cells alone -/
theorem zo_read {act : zz_A} (h : ∀ f f' : zz_F, f.1 = pc → act K f = some f' → f'.2.2.2 = f.2.2.2 ∧ ∀ (p : Program) (e : Env) (R : Room) (s : State) (m : MethodId) (args : Array Value) (below : List Frame) (meth : Method) (c : Code) (H : Heap) (locs : List Loc) (cells slots : Nat) (Q : State → Prop) (ls : Array Slot),
      zz_X Ts D cl tys G own mn nL cc p s m args meth c → zz_I D cl fk cy z0 sp f.2.2.2 H → va_S (fun q : Nat => z0 ≤ q) s.heap H locs → lv_has ls nL (zz_lv z0 sp f.2.1) → (∀ ls' : Array Slot, lv_has ls' nL (zz_lv z0 sp f'.2.1) → W p l e R s m args below meth c H locs cells slots Q (F0 m f'.1 ls' (zz_sv z0 sp f'.2.2.1))) → W p l e R s m args below meth c H locs cells slots Q (F0 m pc ls (zz_sv z0 sp f.2.2.1)))
    (h2 : ∀ f f' : zz_F, act K f = some f' → f'.2.2.2 = f.2.2.2) : zz_O l Ts D cl fk cy z0 sp tys G own mn nL cc d K pc act := by
  refine ⟨fun f f' hf => by rw [h2 f f' hf]; exact ⟨Nat.le_refl _, Nat.le_refl _⟩, ?_⟩
  intro p e R s m args below meth c X _ _ H locs n0 s0 Q ls f f' hpc hf hI hS hl _ _ _ _ kk
  obtain ⟨e1, h1⟩ := h f f' hpc hf
  refine h1 p e R s m args below meth c H locs _ _ Q ls X hI hS hl fun ls' hl' => ?_
  have k1 := kk H locs ls' (by rw [e1]; exact hI) hS hl'
  rw [e1] at k1
  exact k1
/-- an instruction that changes one cell -/
theorem zo_write {act : zz_A} (h : ∀ f f' : zz_F, f.1 = pc → act K f = some f' → f'.2.2.2.1 = f.2.2.2.1 ∧ f'.2.2.2.2.1 = f.2.2.2.2.1 ∧ f'.2.1 = f.2.1 ∧ ∀ (p : Program) (e : Env) (R : Room) (s : State) (m : MethodId) (args : Array Value) (below : List Frame) (meth : Method) (c : Code) (H : Heap) (locs : List Loc) (cells slots : Nat) (Q : State → Prop) (ls : Array Slot),
      zz_X Ts D cl tys G own mn nL cc p s m args meth c → zz_I D cl fk cy z0 sp f.2.2.2 H → (∀ (H1 : Heap) (a k : Nat), z0 ≤ a → H1.size = H.size → (∀ q : Nat, q ≠ a → H1[q]? = H[q]?) → zz_I D cl fk cy z0 sp f'.2.2.2 H1 → W p l e R s m args below meth c H1 (locs ++ [⟨a, k⟩]) cells slots Q (F0 m f'.1 ls (zz_sv z0 sp f'.2.2.1))) → W p l e R s m args below meth c H locs cells slots Q (F0 m pc ls (zz_sv z0 sp f.2.2.1)))
    (h2 : ∀ f f' : zz_F, act K f = some f' → f'.2.2.2.1 = f.2.2.2.1 ∧ f'.2.2.2.2.1 = f.2.2.2.2.1) : zz_O l Ts D cl fk cy z0 sp tys G own mn nL cc d K pc act := by
  refine ⟨fun f f' hf => by rw [(h2 f f' hf).1, (h2 f f' hf).2]; exact ⟨Nat.le_refl _, Nat.le_refl _⟩, ?_⟩
  intro p e R s m args below meth c X _ _ H locs n0 s0 Q ls f f' hpc hf hI hS hl _ _ _ _ kk
  obtain ⟨e1, e2, e3, h1⟩ := h f f' hpc hf
  refine h1 p e R s m args below meth c H locs _ _ Q ls X hI fun H1 a k ha hz ho hI1 => ?_
  have k1 := kk H1 (locs ++ [⟨a, k⟩]) ls hI1 (hS.put hz ho ha) (by rw [e3]; exact hl)
  rw [e1, e2] at k1
  exact k1
/-- getfield -/
noncomputable def za_getI (ci k n : Nat) : zz_A := fun _ f => match f.2.2.1 with
  | .ref i :: r => cond (zz_io f.2.2.2 i ci k) (zz_fN (zz_at 64 (zz_g f.2.2.2 i).2.2.2 k) (fun v => some (n, f.2.1, .int (Int32.ofNat v) :: r, f.2.2.2))) none
  | _ => none
noncomputable def za_getL (ci k n : Nat) : zz_A := fun _ f => match f.2.2.1 with
  | .ref i :: r => cond (zz_io f.2.2.2 i ci k) (zz_fN (zz_at 64 (zz_g f.2.2.2 i).2.2.2 k) (fun v => some (n, f.2.1, .long (Int64.ofNat v) :: r, f.2.2.2))) none
  | _ => none
noncomputable def za_getA (ci k n : Nat) : zz_A := fun _ f => match f.2.2.1 with
  | .ref i :: r => cond (zz_io f.2.2.2 i ci k) (Nat.casesOn (zz_at 64 (zz_g f.2.2.2 i).2.2.2 k) (some (n, f.2.1, .null :: r, f.2.2.2)) (fun v => some (n, f.2.1, .ref v :: r, f.2.2.2))) none
  | _ => none
/-- what getfield's road is, for a field's value v of the abstract cell -/
theorem zz_get_row {C : String} {T : u_T} {N ci k index : Nat} (hc : cl[ci]? = some (C, T, N)) (hk : k < N) (hu : ∀ w ∈ u_ws C T N, w ∈ Ts) (hw : Cond.fieldLink own index (T k).1 (T k).2.1 (T k).2.2.1 ∈ Ts) (hd : decode cc pc = .ok (.getfield index, 3))
    {w : zz_W} {i : Nat} (hi : zz_io w i ci k = true) {p : Program} {e : Env} {R : Room} {s : State} {m : MethodId} {args : Array Value} {below : List Frame} {meth : Method} {c : Code} {H : Heap} {locs : List Loc} {cells slots : Nat} {Q : State → Prop} {ls : Array Slot} {rest : List Value}
    (X : zz_X Ts D cl tys G own mn nL cc p s m args meth c) (hI : zz_I D cl fk cy z0 sp w H)
    (kk : W p l e R s m args below meth c H locs cells slots Q (F0 m (pc + 3) ls (zz_v z0 sp (zz_av (fk ci k) (zz_at 64 (zz_g w i).2.2.2 k)) :: rest))) : W p l e R s m args below meth c H locs cells slots Q (F0 m pc ls (zz_v z0 sp (.ref i) :: rest)) := by
  obtain ⟨h1, h2, h3, h4, h5⟩ := zz_io_ok hi
  rw [zz_v_ref h2]
  have he := zz_ws_get (fk := fk) (cy := cy) (z0 := z0) (sp := sp) h1
  rw [zz_e_o h3 h4] at he
  exact va_get X.1 X.2.1 X.2.2.2.2.1 hu X.2.2.2.1 X.2.2.2.2.2.1 hI.2 i he hc k hk (X.2.2.2.2.1 _ hw) (fun _ h => h) (zz_rng_get h5) hd kk
theorem zo_getI {C : String} {T : u_T} {N ci k index : Nat} (hd : decode cc pc = .ok (.getfield index, 3)) (hf0 : fk ci k = 0) (hc : cl[ci]? = some (C, T, N)) (hk : k < N) (hu : ∀ w ∈ u_ws C T N, w ∈ Ts) (hw : Cond.fieldLink own index (T k).1 (T k).2.1 (T k).2.2.1 ∈ Ts) : zz_O l Ts D cl fk cy z0 sp tys G own mn nL cc d K pc (za_getI ci k (pc + 3)) :=
  zo_read (fun f f' _ hf => by
    unfold za_getI at hf
    split at hf
    · rename_i i r hst
      obtain ⟨hi, hf⟩ := zz_cond hf
      rw [zz_fN_eq] at hf
      cases hf
      refine ⟨rfl, fun p e R s m args below meth c H locs cells slots Q ls X hI hS hl kk => ?_⟩
      rw [hst]
      refine zz_get_row (fk := fk) (cy := cy) hc hk hu hw hd hi X hI ?_
      rw [hf0]
      exact kk ls hl
    · cases hf) (fun f f' hf => by
    unfold za_getI at hf
    split at hf
    · obtain ⟨hi, hf⟩ := zz_cond hf
      rw [zz_fN_eq] at hf
      cases hf
      rfl
    · cases hf)
theorem zo_getL {C : String} {T : u_T} {N ci k index : Nat} (hd : decode cc pc = .ok (.getfield index, 3)) (hf0 : fk ci k = 1) (hc : cl[ci]? = some (C, T, N)) (hk : k < N) (hu : ∀ w ∈ u_ws C T N, w ∈ Ts) (hw : Cond.fieldLink own index (T k).1 (T k).2.1 (T k).2.2.1 ∈ Ts) : zz_O l Ts D cl fk cy z0 sp tys G own mn nL cc d K pc (za_getL ci k (pc + 3)) :=
  zo_read (fun f f' _ hf => by
    unfold za_getL at hf
    split at hf
    · rename_i i r hst
      obtain ⟨hi, hf⟩ := zz_cond hf
      rw [zz_fN_eq] at hf
      cases hf
      refine ⟨rfl, fun p e R s m args below meth c H locs cells slots Q ls X hI hS hl kk => ?_⟩
      rw [hst]
      refine zz_get_row (fk := fk) (cy := cy) hc hk hu hw hd hi X hI ?_
      rw [hf0]
      exact kk ls hl
    · cases hf) (fun f f' hf => by
    unfold za_getL at hf
    split at hf
    · obtain ⟨hi, hf⟩ := zz_cond hf
      rw [zz_fN_eq] at hf
      cases hf
      rfl
    · cases hf)
theorem zo_getA {C : String} {T : u_T} {N ci k index : Nat} (hd : decode cc pc = .ok (.getfield index, 3)) (hf0 : fk ci k = 2) (hc : cl[ci]? = some (C, T, N)) (hk : k < N) (hu : ∀ w ∈ u_ws C T N, w ∈ Ts) (hw : Cond.fieldLink own index (T k).1 (T k).2.1 (T k).2.2.1 ∈ Ts) : zz_O l Ts D cl fk cy z0 sp tys G own mn nL cc d K pc (za_getA ci k (pc + 3)) :=
  zo_read (fun f f' _ hf => by
    unfold za_getA at hf
    split at hf
    · rename_i i r hst
      obtain ⟨hi, hf⟩ := zz_cond hf
      cases hv : zz_at 64 (zz_g f.2.2.2 i).2.2.2 k with
      | zero =>
        rw [hv] at hf
        cases hf
        refine ⟨rfl, fun p e R s m args below meth c H locs cells slots Q ls X hI hS hl kk => ?_⟩
        rw [hst]
        refine zz_get_row (fk := fk) (cy := cy) hc hk hu hw hd hi X hI ?_
        rw [hf0, hv]
        exact kk ls hl
      | succ v =>
        rw [hv] at hf
        cases hf
        refine ⟨rfl, fun p e R s m args below meth c H locs cells slots Q ls X hI hS hl kk => ?_⟩
        rw [hst]
        refine zz_get_row (fk := fk) (cy := cy) hc hk hu hw hd hi X hI ?_
        rw [hf0, hv]
        exact kk ls hl
    · cases hf) (fun f f' hf => by
    unfold za_getA at hf
    split at hf
    · rename_i i r hst
      obtain ⟨hi, hf⟩ := zz_cond hf
      cases hv : zz_at 64 (zz_g f.2.2.2 i).2.2.2 k with
      | zero =>
        rw [hv] at hf
        cases hf
        rfl
      | succ v =>
        rw [hv] at hf
        cases hf
        rfl
    · cases hf)
end ZC
end
section
/-! PUTFIELD, ROWS, NEW -/
section ZP
variable {p : Program} {l : Launch} {e : Env} {R : Room} {s : State} {m : MethodId} {args : Array Value} {below : List Frame} {meth : Method} {c : Code} {H : Heap} {locs : List Loc} {cells slots : Nat} {Q : State → Prop}
variable {cc : ByteArray} {pc : Nat} {ls : Array Slot} {rest : List Value} {D : va_G} {cl : List vw_C} {a : Nat} {tys : List (ClassId × FieldType)}
/-- putfield, with the heap's size kept -/
theorem zv_put (hexec : p.tables.exec = Jvm.exec) (hb : c.code = cc) {own C : String} {T : u_T} {N ci index : Nat} {Ts : List Cond} (hts : ∀ w ∈ Ts, w.before args s = true) (hin : ∀ w ∈ u_ws C T N, w ∈ Ts) (ty0 : Nat → FieldType) (hty : ∀ k, k < N → parseFieldDescriptor (T k).2.2.1 = some (ty0 k)) (hnm : ∀ a, a < N → ∀ b, b < N → a ≠ b → (T a).2.1 ≠ (T b).2.1) (hown : s.vm.findClass own = some m.cls) (hK : va_K D cl tys s) {fs : List Value} (he : va_at D cl (a, .inr (ci, fs)) H) (hc : cl[ci]? = some (C, T, N)) (k : Nat) (hk : k < N) (hlink : (Cond.fieldLink own index (T k).1 (T k).2.1 (T k).2.2.1).before args s = true) (hfin : (T k).2.2.2 = false ∨ ((T k).2.2.2 = true ∧ meth.name = "<init>" ∧ (T k).1 = own)) {ty : FieldType} {v : Value} (hd : parseFieldDescriptor (T k).2.2.1 = some ty) (hn : narrow ty v = v) (hfit : fits ty v = true) (hl : k < fs.length)
    (hdg : decode cc pc = .ok (.putfield index, 3)) (kk : ∀ (H1 : Heap) (j : Nat), va_at D cl (a, .inr (ci, fs.set k v)) H1 → H1.size = H.size → (∀ q : Nat, q ≠ a → H1[q]? = H[q]?) → W p l e R s m args below meth c H1 (locs ++ [⟨a, j⟩]) cells slots Q (F0 m (pc + 3) ls rest)) : W p l e R s m args below meth c H locs cells slots Q (F0 m pc ls (v :: .ref a :: rest)) := by
  have hap := va_apart (own := own) hts hin ty0 hty hnm hK hc
  obtain ⟨r, h1, cell, q1, q2, q3, q4⟩ := he
  have hr : r = (C, T, N) := Option.some.inj (h1.symm.trans hc)
  subst hr
  obtain ⟨hS, hfc, kC, hkC, hkind⟩ := hK.1 ci _ hc
  obtain ⟨cf, kf, fi, f, hi, hsl⟩ := hS k hk
  have hlay := hts _ (hin _ (u_in_lay hk))
  unfold u_lay at hlay
  have hst := (u_facts hfc hkC (u_lays hts hin hk) hi).1
  rcases hfin with hfin | ⟨hfin, hin2, hdecl⟩
  · rw [if_neg (by rw [hfin]; decide)] at hlay
    have h6 := u_store hfc hkC hkind hlay hi hd hn hfit
    refine W.putK hexec hb (f := f) ⟨hown, hlink, ⟨_, _, _, hi⟩, hst⟩ (by rw [q2]; exact h6) q1 q3 (by rw [hsl]; exact k2_hasslot (q4 k hk)) rfl rfl hdg fun H' e1 e2 e3 => ?_
    rw [hsl] at e1
    exact kk H' _ ⟨_, hc, t_OB.to (V := updV (vp_V fs) k v) ⟨_, e1, q2, q3, t_set q4 hap hk v⟩ (fun j _ => vp_updV_set hl v j)⟩ e2 e3
  · rw [if_pos hfin] at hlay
    have hcf : m.cls = cf := by
      obtain ⟨_, _, c', _, _, _, -, -, hf', -, -, -, hown2, -⟩ := Cond.laysFinal_spec hlay
      have e1 : c' = cf := by have := hi.symm.trans hf'; simp at this; exact this.1.symm
      rw [hdecl] at hown2
      rw [← e1]; exact Option.some.inj (hown.symm.trans hown2)
    have h6 := u_fits hfc hkC hkind (Or.inr hlay) hi hd hn hfit
    refine W.putFinK hexec hb hown hlink hi hst hcf hin2 (by rw [q2]; exact h6) q1 q3 (by rw [hsl]; exact k2_hasslot (q4 k hk)) rfl rfl hdg fun H' e1 e2 e3 => ?_
    rw [hsl] at e1
    exact kk H' _ ⟨_, hc, t_OB.to (V := updV (vp_V fs) k v) ⟨_, e1, q2, q3, t_set q4 hap hk v⟩ (fun j _ => vp_updV_set hl v j)⟩ e2 e3
end ZP
section ZQ
variable {l : Launch} {Ts : List Cond} {D : va_G} {cl : List vw_C} {fk : Nat → Nat → Nat} {cy : Nat → ClassId} {z0 : Nat} {sp : Nat → Nat} {tys : List (ClassId × FieldType)} {G : State → Prop} {own mn : String} {nL : Nat} {cc : ByteArray} {d : Nat} {K : zz_K} {pc : Nat}
noncomputable def zz_pf (w : zz_W) (i ci k x : Nat) (kk : zz_W → Option zz_F) : Option zz_F :=
  cond (zz_io w i ci k) (zz_fN (zz_to 64 (zz_g w i).2.2.2 k x) (fun N => zz_st w i (3, ci, (zz_g w i).2.2.1, N) none kk)) none
noncomputable def za_putI (ci k n : Nat) : zz_A := fun _ f => match f.2.2.1 with
  | .int x :: .ref i :: r => zz_pf f.2.2.2 i ci k (zz_nI x) (fun w => some (n, f.2.1, r, w))
  | _ => none
noncomputable def za_putZ (ci k n : Nat) : zz_A := fun _ f => match f.2.2.1 with
  | .int x :: .ref i :: r => cond (Nat.blt (zz_nI x) 2) (zz_pf f.2.2.2 i ci k (zz_nI x) (fun w => some (n, f.2.1, r, w))) none
  | _ => none
noncomputable def za_putL (ci k n : Nat) : zz_A := fun _ f => match f.2.2.1 with
  | .long x :: .ref i :: r => zz_pf f.2.2.2 i ci k (zz_nL x) (fun w => some (n, f.2.1, r, w))
  | _ => none
noncomputable def za_putA (ci k n : Nat) : zz_A := fun _ f => match f.2.2.1 with
  | .ref x :: .ref i :: r => cond (Nat.blt x 4000000) (zz_pf f.2.2.2 i ci k (x + 1) (fun w => some (n, f.2.1, r, w))) none
  | .null :: .ref i :: r => zz_pf f.2.2.2 i ci k 0 (fun w => some (n, f.2.1, r, w))
  | _ => none
theorem zz_pf_ok {w : zz_W} {i ci k x : Nat} {kk : zz_W → Option zz_F} {f' : zz_F} (h : zz_pf w i ci k x kk = some f') : zz_io w i ci k = true ∧ ∃ w' : zz_W, kk w' = some f' ∧ w'.1 = w.1 ∧ w'.2.1 = w.2.1 ∧ ∀ j, zz_g w' j = if j = i then (3, ci, (zz_g w i).2.2.1, zz_to 64 (zz_g w i).2.2.2 k x) else zz_g w j := by
  unfold zz_pf at h
  obtain ⟨hi, h⟩ := zz_cond h
  rw [zz_fN_eq] at h
  exact ⟨hi, zz_st_ok h⟩
/-- the road of a putfield -/
theorem zz_put_row {C : String} {T : u_T} {N ci k index x : Nat} {ty0 : Nat → FieldType} (hc : cl[ci]? = some (C, T, N)) (hk : k < N) (hu : ∀ w ∈ u_ws C T N, w ∈ Ts) (hty : ∀ k, k < N → parseFieldDescriptor (T k).2.2.1 = some (ty0 k)) (hnm : ∀ a, a < N → ∀ b, b < N → a ≠ b → (T a).2.1 ≠ (T b).2.1) (hw : Cond.fieldLink own index (T k).1 (T k).2.1 (T k).2.2.1 ∈ Ts) (hfin : (T k).2.2.2 = false ∨ ((T k).2.2.2 = true ∧ mn = "<init>" ∧ (T k).1 = own)) (hd : decode cc pc = .ok (.putfield index, 3))
    {w w' : zz_W} {i : Nat} (hi : zz_io w i ci k = true) (hw1 : w'.1 = w.1) (hg : ∀ j, zz_g w' j = if j = i then (3, ci, (zz_g w i).2.2.1, zz_to 64 (zz_g w i).2.2.2 k x) else zz_g w j) {v : Value} (hx : x < 2 ^ 64) (hv : zz_av (fk ci k) x = v) {ty : FieldType} (hdt : parseFieldDescriptor (T k).2.2.1 = some ty) (hn : narrow ty (zz_v z0 sp v) = zz_v z0 sp v) (hfit : fits ty (zz_v z0 sp v) = true)
    {p : Program} {e : Env} {R : Room} {s : State} {m : MethodId} {args : Array Value} {below : List Frame} {meth : Method} {c : Code} {H : Heap} {locs : List Loc} {cells slots : Nat} {Q : State → Prop} {ls : Array Slot} {rest : List Value}
    (X : zz_X Ts D cl tys G own mn nL cc p s m args meth c) (hI : zz_I D cl fk cy z0 sp w H)
    (kk : ∀ (H1 : Heap) (a k : Nat), z0 ≤ a → H1.size = H.size → (∀ q : Nat, q ≠ a → H1[q]? = H[q]?) → zz_I D cl fk cy z0 sp w' H1 → W p l e R s m args below meth c H1 (locs ++ [⟨a, k⟩]) cells slots Q (F0 m (pc + 3) ls rest)) : W p l e R s m args below meth c H locs cells slots Q (F0 m pc ls (zz_v z0 sp v :: zz_v z0 sp (.ref i) :: rest)) := by
  obtain ⟨h1, h2, h3, h4, h5⟩ := zz_io_ok hi
  rw [zz_v_ref h2]
  have he := zz_I_at hI h1
  rw [zz_e_o h3 h4] at he
  refine zv_put X.1 X.2.1 X.2.2.2.2.1 hu ty0 hty hnm X.2.2.2.1 X.2.2.2.2.2.1 he hc k hk (X.2.2.2.2.1 _ hw) (hfin.imp id (fun h => ⟨h.1, by rw [X.2.2.2.2.2.2.2.1]; exact h.2.1, h.2.2⟩)) hdt hn hfit (by simpa using h5) hd fun H1 j hat hz ho => ?_
  refine kk H1 (zz_ad z0 sp i) j (Nat.le_add_right _ _) hz ho (zz_I_set hI hw1 hg ?_ hz ho)
  rw [zz_e_o (ci := ci) rfl rfl]
  have e1 : zz_v z0 sp (zz_av (fk ci k) (zz_at 64 (zz_to 64 (zz_g w i).2.2.2 k x) k)) = zz_v z0 sp v := by
    rw [zz_at_to hx, if_pos rfl, hv]
  have e2 := zz_rng_set (n := (zz_g w i).2.2.1) (k := k) (g := fun j => zz_v z0 sp (zz_av (fk ci j) (zz_at 64 (zz_g w i).2.2.2 j))) (g' := fun j => zz_v z0 sp (zz_av (fk ci j) (zz_at 64 (zz_to 64 (zz_g w i).2.2.2 k x) j))) (fun j hj => by
    show zz_v z0 sp (zz_av (fk ci j) (zz_at 64 (zz_to 64 (zz_g w i).2.2.2 k x) j)) = _
    rw [zz_at_to hx, if_neg hj])
  rw [e1] at e2
  show va_at D cl (zz_ad z0 sp i, .inr (ci, (List.range (zz_g w i).2.2.1).map (fun j => zz_v z0 sp (zz_av (fk ci j) (zz_at 64 (zz_to 64 (zz_g w i).2.2.2 k x) j))))) H1
  rw [e2]
  exact hat
theorem zo_putI {C : String} {T : u_T} {N ci k index : Nat} {ty0 : Nat → FieldType} (hd : decode cc pc = .ok (.putfield index, 3)) (hf0 : fk ci k = 0) (hc : cl[ci]? = some (C, T, N)) (hk : k < N) (hu : ∀ w ∈ u_ws C T N, w ∈ Ts) (hty : ∀ k, k < N → parseFieldDescriptor (T k).2.2.1 = some (ty0 k)) (hnm : ∀ a, a < N → ∀ b, b < N → a ≠ b → (T a).2.1 ≠ (T b).2.1) (hw : Cond.fieldLink own index (T k).1 (T k).2.1 (T k).2.2.1 ∈ Ts) (hfin : (T k).2.2.2 = false ∨ ((T k).2.2.2 = true ∧ mn = "<init>" ∧ (T k).1 = own)) (hdt : ty0 k = .int) : zz_O l Ts D cl fk cy z0 sp tys G own mn nL cc d K pc (za_putI ci k (pc + 3)) :=
  zo_write (fun f f' _ hf => by
    unfold za_putI at hf
    split at hf
    · rename_i x i r hst
      obtain ⟨hi, w', hk1, e1, e2, hg⟩ := zz_pf_ok hf
      cases hk1
      refine ⟨e1, e2, rfl, fun p e R s m args below meth c H locs cells slots Q ls X hI kk => ?_⟩
      rw [hst]
      exact zz_put_row (fk := fk) (cy := cy) (v := .int x) hc hk hu hty hnm hw hfin hd hi e1 hg (Nat.lt_of_lt_of_le (zz_nI_lt x) (by decide)) (by rw [hf0, zz_av, if_pos rfl, zz_nI_of]) (by rw [hty k hk, hdt]) rfl rfl X hI kk
    · cases hf) (fun f f' hf => by
    unfold za_putI at hf
    split at hf
    · obtain ⟨hi, w', hk1, e1, e2, hg⟩ := zz_pf_ok hf
      cases hk1
      exact ⟨e1, e2⟩
    · cases hf)
theorem zz_b01 {x : Int32} (h : zz_nI x < 2) : x = 0 ∨ x = 1 := by
  have e : x = Int32.ofNat (zz_nI x) := (zz_nI_of x).symm
  rcases Nat.lt_or_ge (zz_nI x) 1 with q | q
  · left
    rw [e, show zz_nI x = 0 by omega]
    rfl
  · right
    rw [e, show zz_nI x = 1 by omega]
    rfl
theorem zo_putZ {C : String} {T : u_T} {N ci k index : Nat} {ty0 : Nat → FieldType} (hd : decode cc pc = .ok (.putfield index, 3)) (hf0 : fk ci k = 0) (hc : cl[ci]? = some (C, T, N)) (hk : k < N) (hu : ∀ w ∈ u_ws C T N, w ∈ Ts) (hty : ∀ k, k < N → parseFieldDescriptor (T k).2.2.1 = some (ty0 k)) (hnm : ∀ a, a < N → ∀ b, b < N → a ≠ b → (T a).2.1 ≠ (T b).2.1) (hw : Cond.fieldLink own index (T k).1 (T k).2.1 (T k).2.2.1 ∈ Ts) (hfin : (T k).2.2.2 = false ∨ ((T k).2.2.2 = true ∧ mn = "<init>" ∧ (T k).1 = own)) (hdt : ty0 k = .boolean) : zz_O l Ts D cl fk cy z0 sp tys G own mn nL cc d K pc (za_putZ ci k (pc + 3)) :=
  zo_write (fun f f' _ hf => by
    unfold za_putZ at hf
    split at hf
    · rename_i x i r hst
      obtain ⟨hx, hf⟩ := zz_cond hf
      have h01 := zz_b01 (zz_blt hx)
      obtain ⟨hi, w', hk1, e1, e2, hg⟩ := zz_pf_ok hf
      cases hk1
      refine ⟨e1, e2, rfl, fun p e R s m args below meth c H locs cells slots Q ls X hI kk => ?_⟩
      rw [hst]
      exact zz_put_row (fk := fk) (cy := cy) (v := .int x) hc hk hu hty hnm hw hfin hd hi e1 hg (Nat.lt_of_lt_of_le (zz_nI_lt x) (by decide)) (by rw [hf0, zz_av, if_pos rfl, zz_nI_of]) (by rw [hty k hk, hdt]) (by rcases h01 with rfl | rfl <;> rfl) (by rcases h01 with rfl | rfl <;> rfl) X hI kk
    · cases hf) (fun f f' hf => by
    unfold za_putZ at hf
    split at hf
    · obtain ⟨hx, hf⟩ := zz_cond hf
      obtain ⟨hi, w', hk1, e1, e2, hg⟩ := zz_pf_ok hf
      cases hk1
      exact ⟨e1, e2⟩
    · cases hf)
theorem zo_putL {C : String} {T : u_T} {N ci k index : Nat} {ty0 : Nat → FieldType} (hd : decode cc pc = .ok (.putfield index, 3)) (hf0 : fk ci k = 1) (hc : cl[ci]? = some (C, T, N)) (hk : k < N) (hu : ∀ w ∈ u_ws C T N, w ∈ Ts) (hty : ∀ k, k < N → parseFieldDescriptor (T k).2.2.1 = some (ty0 k)) (hnm : ∀ a, a < N → ∀ b, b < N → a ≠ b → (T a).2.1 ≠ (T b).2.1) (hw : Cond.fieldLink own index (T k).1 (T k).2.1 (T k).2.2.1 ∈ Ts) (hfin : (T k).2.2.2 = false ∨ ((T k).2.2.2 = true ∧ mn = "<init>" ∧ (T k).1 = own)) (hdt : ty0 k = .long) : zz_O l Ts D cl fk cy z0 sp tys G own mn nL cc d K pc (za_putL ci k (pc + 3)) :=
  zo_write (fun f f' _ hf => by
    unfold za_putL at hf
    split at hf
    · rename_i x i r hst
      obtain ⟨hi, w', hk1, e1, e2, hg⟩ := zz_pf_ok hf
      cases hk1
      refine ⟨e1, e2, rfl, fun p e R s m args below meth c H locs cells slots Q ls X hI kk => ?_⟩
      rw [hst]
      exact zz_put_row (fk := fk) (cy := cy) (v := .long x) hc hk hu hty hnm hw hfin hd hi e1 hg (zz_nL_lt x) (by rw [hf0, zz_av, if_neg (by decide), if_pos rfl, zz_nL_of]) (by rw [hty k hk, hdt]) rfl rfl X hI kk
    · cases hf) (fun f f' hf => by
    unfold za_putL at hf
    split at hf
    · obtain ⟨hi, w', hk1, e1, e2, hg⟩ := zz_pf_ok hf
      cases hk1
      exact ⟨e1, e2⟩
    · cases hf)
def zz_isR (ty : FieldType) : Bool := match ty with
  | .object _ => true
  | .array _ => true
  | _ => false
theorem zo_putA {C : String} {T : u_T} {N ci k index : Nat} {ty0 : Nat → FieldType} (hd : decode cc pc = .ok (.putfield index, 3)) (hf0 : fk ci k = 2) (hc : cl[ci]? = some (C, T, N)) (hk : k < N) (hu : ∀ w ∈ u_ws C T N, w ∈ Ts) (hty : ∀ k, k < N → parseFieldDescriptor (T k).2.2.1 = some (ty0 k)) (hnm : ∀ a, a < N → ∀ b, b < N → a ≠ b → (T a).2.1 ≠ (T b).2.1) (hw : Cond.fieldLink own index (T k).1 (T k).2.1 (T k).2.2.1 ∈ Ts) (hfin : (T k).2.2.2 = false ∨ ((T k).2.2.2 = true ∧ mn = "<init>" ∧ (T k).1 = own)) (hdt : zz_isR (ty0 k) = true) : zz_O l Ts D cl fk cy z0 sp tys G own mn nL cc d K pc (za_putA ci k (pc + 3)) := by
  have hT : ∀ v : Value, (∃ i, v = .ref i) ∨ v = .null → narrow (ty0 k) v = v ∧ fits (ty0 k) v = true := by
    intro v hv
    generalize ty0 k = t at hdt ⊢
    cases t with
    | object _ => rcases hv with ⟨i, rfl⟩ | rfl <;> exact ⟨rfl, rfl⟩
    | array _ => rcases hv with ⟨i, rfl⟩ | rfl <;> exact ⟨rfl, rfl⟩
    | _ => cases hdt
  refine zo_write (fun f f' _ hf => ?_) (fun f f' hf => ?_)
  · unfold za_putA at hf
    split at hf
    · rename_i x i r hst
      obtain ⟨hx, hf⟩ := zz_cond hf
      have hx := zz_blt hx
      obtain ⟨hi, w', hk1, e1, e2, hg⟩ := zz_pf_ok hf
      cases hk1
      refine ⟨e1, e2, rfl, fun p e R s m args below meth c H locs cells slots Q ls X hI kk => ?_⟩
      rw [hst]
      exact zz_put_row (fk := fk) (cy := cy) (v := .ref x) hc hk hu hty hnm hw hfin hd hi e1 hg (Nat.lt_of_le_of_lt (Nat.succ_le_of_lt hx) (by decide)) (by rw [hf0]; rfl) (hty k hk) (hT _ (Or.inl ⟨_, rfl⟩)).1 (hT _ (Or.inl ⟨_, rfl⟩)).2 X hI kk
    · rename_i i r hst
      obtain ⟨hi, w', hk1, e1, e2, hg⟩ := zz_pf_ok hf
      cases hk1
      refine ⟨e1, e2, rfl, fun p e R s m args below meth c H locs cells slots Q ls X hI kk => ?_⟩
      rw [hst]
      exact zz_put_row (fk := fk) (cy := cy) (v := .null) hc hk hu hty hnm hw hfin hd hi e1 hg (by decide) (by rw [hf0]; rfl) (hty k hk) (hT _ (Or.inr rfl)).1 (hT _ (Or.inr rfl)).2 X hI kk
    · cases hf
  · unfold za_putA at hf
    split at hf
    · obtain ⟨hx, hf⟩ := zz_cond hf
      obtain ⟨hi, w', hk1, e1, e2, hg⟩ := zz_pf_ok hf
      cases hk1
      exact ⟨e1, e2⟩
    · obtain ⟨hi, w', hk1, e1, e2, hg⟩ := zz_pf_ok hf
      cases hk1
      exact ⟨e1, e2⟩
    · cases hf
end ZQ
end
section
/-! ROWS, NEW CELLS -/
section ZRW
variable {l : Launch} {Ts : List Cond} {D : va_G} {cl : List vw_C} {fk : Nat → Nat → Nat} {cy : Nat → ClassId} {z0 : Nat} {sp : Nat → Nat} {tys : List (ClassId × FieldType)} {G : State → Prop} {own mn : String} {nL : Nat} {cc : ByteArray} {d : Nat} {K : zz_K} {pc : Nat}
noncomputable def za_aldI (t n : Nat) : zz_A := fun _ f => match f.2.2.1 with
  | .int j :: .ref i :: r => cond (zz_ir f.2.2.2 i 0 t (zz_nI j)) (zz_fN (zz_at 32 (zz_g f.2.2.2 i).2.2.2 (zz_nI j)) (fun v => some (n, f.2.1, .int (Int32.ofNat v) :: r, f.2.2.2))) none
  | _ => none
noncomputable def za_aldL (t n : Nat) : zz_A := fun _ f => match f.2.2.1 with
  | .int j :: .ref i :: r => cond (zz_ir f.2.2.2 i 1 t (zz_nI j)) (zz_fN (zz_at 64 (zz_g f.2.2.2 i).2.2.2 (zz_nI j)) (fun v => some (n, f.2.1, .long (Int64.ofNat v) :: r, f.2.2.2))) none
  | _ => none
noncomputable def za_aldA (t n : Nat) : zz_A := fun _ f => match f.2.2.1 with
  | .int j :: .ref i :: r => cond (zz_ir f.2.2.2 i 2 t (zz_nI j)) (Nat.casesOn (zz_at 32 (zz_g f.2.2.2 i).2.2.2 (zz_nI j)) (some (n, f.2.1, .null :: r, f.2.2.2)) (fun v => some (n, f.2.1, .ref v :: r, f.2.2.2))) none
  | _ => none
theorem zo_iaload {t : Nat} (hd : decode cc pc = .ok (.iaload, 1)) (ht : tys[t]? = some (cy t, .int)) : zz_O l Ts D cl fk cy z0 sp tys G own mn nL cc d K pc (za_aldI t (pc + 1)) :=
  zo_read (fun f f' _ hf => by
    unfold za_aldI at hf
    split at hf
    · rename_i j i r hst
      obtain ⟨hi, hf⟩ := zz_cond hf
      obtain ⟨h1, h2, h3, h4, h5, h6⟩ := zz_ir_ok hi
      obtain ⟨hin, hcl⟩ := zz_idx h5 h6
      rw [zz_fN_eq] at hf
      cases hf
      refine ⟨rfl, fun p e R s m args below meth c H locs cells slots Q ls X hI hS hl kk => ?_⟩
      have he := zz_ws_get (fk := fk) (cy := cy) (z0 := z0) (sp := sp) h1
      rw [zz_e_i h3 h4] at he
      rw [hst]
      show W _ _ _ _ _ _ _ _ _ _ _ _ _ _ _ (F0 m pc ls (Value.int j :: zz_v z0 sp (.ref i) :: zz_sv z0 sp r))
      rw [zz_v_ref h2]
      refine va_iald X.1 X.2.1 X.2.2.2.2.2.1 hI.2 i t he ht hin hd ?_
      rw [hcl]
      exact kk ls hl
    · cases hf) (fun f f' hf => by
    unfold za_aldI at hf
    split at hf
    · obtain ⟨hi, hf⟩ := zz_cond hf
      rw [zz_fN_eq] at hf
      cases hf
      rfl
    · cases hf)
theorem zo_baload {t : Nat} (hd : decode cc pc = .ok (.baload, 1)) (ht : tys[t]? = some (cy t, .byte)) : zz_O l Ts D cl fk cy z0 sp tys G own mn nL cc d K pc (za_aldI t (pc + 1)) :=
  zo_read (fun f f' _ hf => by
    unfold za_aldI at hf
    split at hf
    · rename_i j i r hst
      obtain ⟨hi, hf⟩ := zz_cond hf
      obtain ⟨h1, h2, h3, h4, h5, h6⟩ := zz_ir_ok hi
      obtain ⟨hin, hcl⟩ := zz_idx h5 h6
      rw [zz_fN_eq] at hf
      cases hf
      refine ⟨rfl, fun p e R s m args below meth c H locs cells slots Q ls X hI hS hl kk => ?_⟩
      have he := zz_ws_get (fk := fk) (cy := cy) (z0 := z0) (sp := sp) h1
      rw [zz_e_i h3 h4] at he
      rw [hst]
      show W _ _ _ _ _ _ _ _ _ _ _ _ _ _ _ (F0 m pc ls (Value.int j :: zz_v z0 sp (.ref i) :: zz_sv z0 sp r))
      rw [zz_v_ref h2]
      refine va_bald X.1 X.2.1 X.2.2.2.2.2.1 hI.2 i t he ht hin hd ?_
      rw [hcl]
      exact kk ls hl
    · cases hf) (fun f f' hf => by
    unfold za_aldI at hf
    split at hf
    · obtain ⟨hi, hf⟩ := zz_cond hf
      rw [zz_fN_eq] at hf
      cases hf
      rfl
    · cases hf)
theorem zo_zaload {t : Nat} (hd : decode cc pc = .ok (.baload, 1)) (ht : tys[t]? = some (cy t, .boolean)) : zz_O l Ts D cl fk cy z0 sp tys G own mn nL cc d K pc (za_aldI t (pc + 1)) :=
  zo_read (fun f f' _ hf => by
    unfold za_aldI at hf
    split at hf
    · rename_i j i r hst
      obtain ⟨hi, hf⟩ := zz_cond hf
      obtain ⟨h1, h2, h3, h4, h5, h6⟩ := zz_ir_ok hi
      obtain ⟨hin, hcl⟩ := zz_idx h5 h6
      rw [zz_fN_eq] at hf
      cases hf
      refine ⟨rfl, fun p e R s m args below meth c H locs cells slots Q ls X hI hS hl kk => ?_⟩
      have he := zz_ws_get (fk := fk) (cy := cy) (z0 := z0) (sp := sp) h1
      rw [zz_e_i h3 h4] at he
      rw [hst]
      show W _ _ _ _ _ _ _ _ _ _ _ _ _ _ _ (F0 m pc ls (Value.int j :: zz_v z0 sp (.ref i) :: zz_sv z0 sp r))
      rw [zz_v_ref h2]
      refine va_zald X.1 X.2.1 X.2.2.2.2.2.1 hI.2 i t he ht hin hd ?_
      rw [hcl]
      exact kk ls hl
    · cases hf) (fun f f' hf => by
    unfold za_aldI at hf
    split at hf
    · obtain ⟨hi, hf⟩ := zz_cond hf
      rw [zz_fN_eq] at hf
      cases hf
      rfl
    · cases hf)
theorem zo_laload {t : Nat} (hd : decode cc pc = .ok (.laload, 1)) (ht : tys[t]? = some (cy t, .long)) : zz_O l Ts D cl fk cy z0 sp tys G own mn nL cc d K pc (za_aldL t (pc + 1)) :=
  zo_read (fun f f' _ hf => by
    unfold za_aldL at hf
    split at hf
    · rename_i j i r hst
      obtain ⟨hi, hf⟩ := zz_cond hf
      obtain ⟨h1, h2, h3, h4, h5, h6⟩ := zz_ir_ok hi
      obtain ⟨hin, hcl⟩ := zz_idx h5 h6
      rw [zz_fN_eq] at hf
      cases hf
      refine ⟨rfl, fun p e R s m args below meth c H locs cells slots Q ls X hI hS hl kk => ?_⟩
      have he := zz_ws_get (fk := fk) (cy := cy) (z0 := z0) (sp := sp) h1
      rw [zz_e_l h3 h4] at he
      rw [hst]
      show W _ _ _ _ _ _ _ _ _ _ _ _ _ _ _ (F0 m pc ls (Value.int j :: zz_v z0 sp (.ref i) :: zz_sv z0 sp r))
      rw [zz_v_ref h2]
      refine va_lald X.1 X.2.1 X.2.2.2.2.2.1 hI.2 i t he ht hin hd ?_
      rw [hcl]
      exact kk ls hl
    · cases hf) (fun f f' hf => by
    unfold za_aldL at hf
    split at hf
    · obtain ⟨hi, hf⟩ := zz_cond hf
      rw [zz_fN_eq] at hf
      cases hf
      rfl
    · cases hf)
theorem zo_aaload {t : Nat} {C : String} (hd : decode cc pc = .ok (.aaload, 1)) (ht : tys[t]? = some (cy t, .object C)) : zz_O l Ts D cl fk cy z0 sp tys G own mn nL cc d K pc (za_aldA t (pc + 1)) := by
  refine zo_read (fun f f' _ hf => ?_) (fun f f' hf => ?_)
  · unfold za_aldA at hf
    split at hf
    · rename_i j i r hst
      obtain ⟨hi, hf⟩ := zz_cond hf
      obtain ⟨h1, h2, h3, h4, h5, h6⟩ := zz_ir_ok hi
      obtain ⟨hin, hcl⟩ := zz_idx h5 h6
      have he := zz_ws_get (fk := fk) (cy := cy) (z0 := z0) (sp := sp) h1
      rw [zz_e_q h3 h4] at he
      cases hv : zz_at 32 (zz_g f.2.2.2 i).2.2.2 (zz_nI j) with
      | zero =>
        rw [hv] at hf
        cases hf
        refine ⟨rfl, fun p e R s m args below meth c H locs cells slots Q ls X hI hS hl kk => ?_⟩
        rw [hst]
        show W _ _ _ _ _ _ _ _ _ _ _ _ _ _ _ (F0 m pc ls (Value.int j :: zz_v z0 sp (.ref i) :: zz_sv z0 sp r))
        rw [zz_v_ref h2]
        refine va_aldq X.1 X.2.1 X.2.2.2.2.2.1 hI.2 i t he ht hin hd ?_
        rw [hcl, hv]
        exact kk ls hl
      | succ v =>
        rw [hv] at hf
        cases hf
        refine ⟨rfl, fun p e R s m args below meth c H locs cells slots Q ls X hI hS hl kk => ?_⟩
        rw [hst]
        show W _ _ _ _ _ _ _ _ _ _ _ _ _ _ _ (F0 m pc ls (Value.int j :: zz_v z0 sp (.ref i) :: zz_sv z0 sp r))
        rw [zz_v_ref h2]
        refine va_aldq X.1 X.2.1 X.2.2.2.2.2.1 hI.2 i t he ht hin hd ?_
        rw [hcl, hv]
        exact kk ls hl
    · cases hf
  · unfold za_aldA at hf
    split at hf
    · rename_i j i r hst
      obtain ⟨hi, hf⟩ := zz_cond hf
      cases hv : zz_at 32 (zz_g f.2.2.2 i).2.2.2 (zz_nI j) with
      | zero =>
        rw [hv] at hf
        cases hf
        rfl
      | succ v =>
        rw [hv] at hf
        cases hf
        rfl
    · cases hf
noncomputable def za_alen (t n : Nat) : zz_A := fun _ f => match f.2.2.1 with
  | .ref i :: r => cond (Nat.blt i f.2.2.2.1 && (Nat.blt i 1000000 && (Nat.blt (zz_g f.2.2.2 i).1 3 && Nat.beq (zz_g f.2.2.2 i).2.1 t))) (zz_fN (zz_g f.2.2.2 i).2.2.1 (fun v => some (n, f.2.1, .int (Int32.ofNat v) :: r, f.2.2.2))) none
  | _ => none
theorem zo_alen {t : Nat} {ty : FieldType} (hd : decode cc pc = .ok (.arraylength, 1)) (ht : tys[t]? = some (cy t, ty)) : zz_O l Ts D cl fk cy z0 sp tys G own mn nL cc d K pc (za_alen t (pc + 1)) :=
  zo_read (fun f f' _ hf => by
    unfold za_alen at hf
    split at hf
    · rename_i i r hst
      obtain ⟨hi, hf⟩ := zz_cond hf
      obtain ⟨h1, hi⟩ := zz_and hi
      obtain ⟨h2, hi⟩ := zz_and hi
      obtain ⟨h3, h4⟩ := zz_and hi
      have h1 := zz_blt h1
      have h2 := zz_blt h2
      have h3 := zz_blt h3
      have h4 := zz_beq h4
      rw [zz_fN_eq] at hf
      cases hf
      refine ⟨rfl, fun p e R s m args below meth c H locs cells slots Q ls X hI hS hl kk => ?_⟩
      have he := zz_ws_get (fk := fk) (cy := cy) (z0 := z0) (sp := sp) h1
      have he2 : ∃ x : vp_A, x.1 = (zz_g f.2.2.2 i).2.2.1 ∧ (zz_ws fk cy z0 sp f.2.2.2)[i]? = some (zz_ad z0 sp i, .inl (cy t, x)) := by
        by_cases g0 : (zz_g f.2.2.2 i).1 = 0
        · exact ⟨(_, _), rfl, by rw [he, zz_e_i g0 h4]⟩
        · by_cases g1 : (zz_g f.2.2.2 i).1 = 1
          · exact ⟨(_, _), rfl, by rw [he, zz_e_l g1 h4]⟩
          · exact ⟨(_, _), rfl, by rw [he, zz_e_q (by omega) h4]⟩
      obtain ⟨x, hx, he3⟩ := he2
      rw [hst]
      show W _ _ _ _ _ _ _ _ _ _ _ _ _ _ _ (F0 m pc ls (zz_v z0 sp (.ref i) :: zz_sv z0 sp r))
      rw [zz_v_ref h2]
      exact va_alen X.1 X.2.1 X.2.2.2.2.2.1 hI.2 i t he3 ht (by rw [hx]) hd (kk ls hl)
    · cases hf) (fun f f' hf => by
    unfold za_alen at hf
    split at hf
    · obtain ⟨hi, hf⟩ := zz_cond hf
      rw [zz_fN_eq] at hf
      cases hf
      rfl
    · cases hf)
noncomputable def zz_pr (w : zz_W) (i kd t b j x : Nat) (kk : zz_W → Option zz_F) : Option zz_F :=
  cond (zz_ir w i kd t j) (zz_fN (zz_to b (zz_g w i).2.2.2 j x) (fun N => zz_st w i (kd, t, (zz_g w i).2.2.1, N) none kk)) none
theorem zz_pr_ok {w : zz_W} {i kd t b j x : Nat} {kk : zz_W → Option zz_F} {f' : zz_F} (h : zz_pr w i kd t b j x kk = some f') : zz_ir w i kd t j = true ∧ ∃ w' : zz_W, kk w' = some f' ∧ w'.1 = w.1 ∧ w'.2.1 = w.2.1 ∧ ∀ q, zz_g w' q = if q = i then (kd, t, (zz_g w i).2.2.1, zz_to b (zz_g w i).2.2.2 j x) else zz_g w q := by
  unfold zz_pr at h
  obtain ⟨hi, h⟩ := zz_cond h
  rw [zz_fN_eq] at h
  exact ⟨hi, zz_st_ok h⟩
noncomputable def za_astI (t n : Nat) : zz_A := fun _ f => match f.2.2.1 with
  | .int x :: .int j :: .ref i :: r => zz_pr f.2.2.2 i 0 t 32 (zz_nI j) (zz_nI x) (fun w => some (n, f.2.1, r, w))
  | _ => none
noncomputable def za_astB (t n : Nat) : zz_A := fun _ f => match f.2.2.1 with
  | .int x :: .int j :: .ref i :: r => zz_pr f.2.2.2 i 0 t 32 (zz_nI j) (zz_nI x.toInt8.toInt32) (fun w => some (n, f.2.1, r, w))
  | _ => none
noncomputable def za_astZ (t n : Nat) : zz_A := fun _ f => match f.2.2.1 with
  | .int x :: .int j :: .ref i :: r => cond (Nat.blt (zz_nI x) 2) (zz_pr f.2.2.2 i 0 t 32 (zz_nI j) (zz_nI x) (fun w => some (n, f.2.1, r, w))) none
  | _ => none
noncomputable def za_astL (t n : Nat) : zz_A := fun _ f => match f.2.2.1 with
  | .long x :: .int j :: .ref i :: r => zz_pr f.2.2.2 i 1 t 64 (zz_nI j) (zz_nL x) (fun w => some (n, f.2.1, r, w))
  | _ => none
theorem zo_iastore {t : Nat} (hd : decode cc pc = .ok (.iastore, 1)) (ht : tys[t]? = some (cy t, .int)) : zz_O l Ts D cl fk cy z0 sp tys G own mn nL cc d K pc (za_astI t (pc + 1)) :=
  zo_write (fun f f' _ hf => by
    unfold za_astI at hf
    split at hf
    · rename_i x j i r hst
      obtain ⟨hi, w', hk1, e1, e2, hg⟩ := zz_pr_ok hf
      obtain ⟨h1, h2, h3, h4, h5, h6⟩ := zz_ir_ok hi
      obtain ⟨hin, hcl⟩ := zz_idx h5 h6
      cases hk1
      refine ⟨e1, e2, rfl, fun p e R s m args below meth c H locs cells slots Q ls X hI kk => ?_⟩
      have he := zz_I_at hI h1
      rw [zz_e_i h3 h4] at he
      rw [hst]
      show W _ _ _ _ _ _ _ _ _ _ _ _ _ _ _ (F0 m pc ls (Value.int x :: Value.int j :: zz_v z0 sp (.ref i) :: zz_sv z0 sp r))
      rw [zz_v_ref h2]
      refine W.iast X.1 X.2.1 he ((X.2.2.2.2.2.1.2 t _ ht).1 _ _) (fun q => by cases q) (by show ¬ (j < 0 ∨ (arrV _ _ _).slots.size ≤ _); rw [arrV_size]; exact hin) rfl rfl hd fun H1 g1 z1 o1 => ?_
      refine kk H1 (zz_ad z0 sp i) _ (Nat.le_add_right _ _) z1 o1 (zz_I_set hI e1 hg ?_ z1 o1)
      rw [zz_e_i (t := t) rfl rfl]
      show H1[zz_ad z0 sp i]? = some (vp_cell _ _)
      rw [g1]
      show some ((vp_cell (cy t) _).setSlot _ _) = _
      rw [vp_cell_i, vp_cell_i, arrV_store]
      congr 2
      funext q
      by_cases hq : q = j.toNatClampNeg
      · subst hq
        rw [hcl, zz_at_to (zz_nI_lt _), if_pos rfl, zz_nI_of]
        simp [updV]
      · rw [zz_at_to (zz_nI_lt _), if_neg (by rw [← hcl]; exact hq)]
        simp [updV, hq]
    · cases hf) (fun f f' hf => by
    unfold za_astI at hf
    split at hf
    · obtain ⟨hi, w', hk1, e1, e2, hg⟩ := zz_pr_ok hf
      cases hk1
      exact ⟨e1, e2⟩
    · cases hf)
theorem zo_bastore {t : Nat} (hd : decode cc pc = .ok (.bastore, 1)) (ht : tys[t]? = some (cy t, .byte)) : zz_O l Ts D cl fk cy z0 sp tys G own mn nL cc d K pc (za_astB t (pc + 1)) :=
  zo_write (fun f f' _ hf => by
    unfold za_astB at hf
    split at hf
    · rename_i x j i r hst
      obtain ⟨hi, w', hk1, e1, e2, hg⟩ := zz_pr_ok hf
      obtain ⟨h1, h2, h3, h4, h5, h6⟩ := zz_ir_ok hi
      obtain ⟨hin, hcl⟩ := zz_idx h5 h6
      cases hk1
      refine ⟨e1, e2, rfl, fun p e R s m args below meth c H locs cells slots Q ls X hI kk => ?_⟩
      have he := zz_I_at hI h1
      rw [zz_e_i h3 h4] at he
      rw [hst]
      show W _ _ _ _ _ _ _ _ _ _ _ _ _ _ _ (F0 m pc ls (Value.int x :: Value.int j :: zz_v z0 sp (.ref i) :: zz_sv z0 sp r))
      rw [zz_v_ref h2]
      refine W.bast X.1 X.2.1 he ((X.2.2.2.2.2.1.2 t _ ht).1 _ _) (fun q => by cases q) (by show ¬ (j < 0 ∨ (arrV _ _ _).slots.size ≤ _); rw [arrV_size]; exact hin) rfl rfl hd fun H1 g1 z1 o1 => ?_
      refine kk H1 (zz_ad z0 sp i) _ (Nat.le_add_right _ _) z1 o1 (zz_I_set hI e1 hg ?_ z1 o1)
      rw [zz_e_i (t := t) rfl rfl]
      show H1[zz_ad z0 sp i]? = some (vp_cell _ _)
      rw [g1]
      show some ((vp_cell (cy t) _).setSlot _ _) = _
      rw [vp_cell_i, vp_cell_i, arrV_store]
      congr 2
      funext q
      by_cases hq : q = j.toNatClampNeg
      · subst hq
        rw [hcl, zz_at_to (zz_nI_lt _), if_pos rfl, zz_nI_of]
        simp [updV, narrow]
      · rw [zz_at_to (zz_nI_lt _), if_neg (by rw [← hcl]; exact hq)]
        simp [updV, hq]
    · cases hf) (fun f f' hf => by
    unfold za_astB at hf
    split at hf
    · obtain ⟨hi, w', hk1, e1, e2, hg⟩ := zz_pr_ok hf
      cases hk1
      exact ⟨e1, e2⟩
    · cases hf)
theorem zo_zastore {t : Nat} (hd : decode cc pc = .ok (.bastore, 1)) (ht : tys[t]? = some (cy t, .boolean)) : zz_O l Ts D cl fk cy z0 sp tys G own mn nL cc d K pc (za_astZ t (pc + 1)) :=
  zo_write (fun f f' _ hf => by
    unfold za_astZ at hf
    split at hf
    · rename_i x j i r hst
      obtain ⟨hx, hf⟩ := zz_cond hf
      have h01 := zz_b01 (zz_blt hx)
      obtain ⟨hi, w', hk1, e1, e2, hg⟩ := zz_pr_ok hf
      obtain ⟨h1, h2, h3, h4, h5, h6⟩ := zz_ir_ok hi
      obtain ⟨hin, hcl⟩ := zz_idx h5 h6
      cases hk1
      refine ⟨e1, e2, rfl, fun p e R s m args below meth c H locs cells slots Q ls X hI kk => ?_⟩
      have he := zz_I_at hI h1
      rw [zz_e_i h3 h4] at he
      rw [hst]
      show W _ _ _ _ _ _ _ _ _ _ _ _ _ _ _ (F0 m pc ls (Value.int x :: Value.int j :: zz_v z0 sp (.ref i) :: zz_sv z0 sp r))
      rw [zz_v_ref h2]
      refine W.zast X.1 X.2.1 he ((X.2.2.2.2.2.1.2 t _ ht).1 _ _) (fun q => by cases q) (by show ¬ (j < 0 ∨ (arrV _ _ _).slots.size ≤ _); rw [arrV_size]; exact hin) rfl rfl hd fun H1 g1 z1 o1 => ?_
      refine kk H1 (zz_ad z0 sp i) _ (Nat.le_add_right _ _) z1 o1 (zz_I_set hI e1 hg ?_ z1 o1)
      rw [zz_e_i (t := t) rfl rfl]
      show H1[zz_ad z0 sp i]? = some (vp_cell _ _)
      rw [g1]
      show some ((vp_cell (cy t) _).setSlot _ _) = _
      rw [vp_cell_i, vp_cell_i, arrV_store]
      congr 2
      funext q
      by_cases hq : q = j.toNatClampNeg
      · subst hq
        rw [hcl, zz_at_to (zz_nI_lt _), if_pos rfl, zz_nI_of]
        simp [updV, narrow]
        rcases h01 with rfl | rfl <;> rfl
      · rw [zz_at_to (zz_nI_lt _), if_neg (by rw [← hcl]; exact hq)]
        simp [updV, hq]
    · cases hf) (fun f f' hf => by
    unfold za_astZ at hf
    split at hf
    · obtain ⟨hx, hf⟩ := zz_cond hf
      obtain ⟨hi, w', hk1, e1, e2, hg⟩ := zz_pr_ok hf
      cases hk1
      exact ⟨e1, e2⟩
    · cases hf)
theorem zo_lastore {t : Nat} (hd : decode cc pc = .ok (.lastore, 1)) (ht : tys[t]? = some (cy t, .long)) : zz_O l Ts D cl fk cy z0 sp tys G own mn nL cc d K pc (za_astL t (pc + 1)) :=
  zo_write (fun f f' _ hf => by
    unfold za_astL at hf
    split at hf
    · rename_i x j i r hst
      obtain ⟨hi, w', hk1, e1, e2, hg⟩ := zz_pr_ok hf
      obtain ⟨h1, h2, h3, h4, h5, h6⟩ := zz_ir_ok hi
      obtain ⟨hin, hcl⟩ := zz_idx h5 h6
      cases hk1
      refine ⟨e1, e2, rfl, fun p e R s m args below meth c H locs cells slots Q ls X hI kk => ?_⟩
      have he := zz_I_at hI h1
      rw [zz_e_l h3 h4] at he
      rw [hst]
      show W _ _ _ _ _ _ _ _ _ _ _ _ _ _ _ (F0 m pc ls (Value.long x :: Value.int j :: zz_v z0 sp (.ref i) :: zz_sv z0 sp r))
      rw [zz_v_ref h2]
      refine W.last X.1 X.2.1 he ((X.2.2.2.2.2.1.2 t _ ht).1 _ _) (fun q => by cases q) (by show ¬ (j < 0 ∨ (arrV _ _ _).slots.size ≤ _); rw [arrV_size]; exact hin) rfl rfl hd fun H1 g1 z1 o1 => ?_
      refine kk H1 (zz_ad z0 sp i) _ (Nat.le_add_right _ _) z1 o1 (zz_I_set hI e1 hg ?_ z1 o1)
      rw [zz_e_l (t := t) rfl rfl]
      show H1[zz_ad z0 sp i]? = some (vp_cell _ _)
      rw [g1]
      show some ((vp_cell (cy t) _).setSlot _ _) = _
      rw [vp_cell_l, vp_cell_l, arrV_store]
      congr 2
      funext q
      by_cases hq : q = j.toNatClampNeg
      · subst hq
        rw [hcl, zz_at_to (zz_nL_lt _), if_pos rfl, zz_nL_of]
        simp [updV]
      · rw [zz_at_to (zz_nL_lt _), if_neg (by rw [← hcl]; exact hq)]
        simp [updV, hq]
    · cases hf) (fun f f' hf => by
    unfold za_astL at hf
    split at hf
    · obtain ⟨hi, w', hk1, e1, e2, hg⟩ := zz_pr_ok hf
      cases hk1
      exact ⟨e1, e2⟩
    · cases hf)
end ZRW
end
section
/-! NEW CELLS, Object's constructor, switches -/
section ZB
variable {l : Launch} {Ts : List Cond} {D : va_G} {cl : List vw_C} {fk : Nat → Nat → Nat} {cy : Nat → ClassId} {z0 : Nat} {sp : Nat → Nat} {tys : List (ClassId × FieldType)} {G : State → Prop} {own mn : String} {nL : Nat} {cc : ByteArray} {d : Nat} {K : zz_K} {pc : Nat}
/-- an instruction that makes one cell c of N slots -/
theorem zo_born {act : zz_A} (hsp0 : sp 18446744073709551616 = 0) (h : ∀ f f' : zz_F, f.1 = pc → act K f = some f' → ∃ (cl0 : zz_C) (N : Nat), f'.2.2.2.1 = f.2.2.2.1 + 1 ∧ f'.2.2.2.2.1 = f.2.2.2.2.1 + N ∧ f'.2.1 = f.2.1 ∧ (∀ j, zz_g f'.2.2.2 j = if j = f.2.2.2.1 then cl0 else zz_g f.2.2.2 j) ∧ ∀ (p : Program) (e : Env) (R : Room) (s : State) (m : MethodId) (args : Array Value) (below : List Frame) (meth : Method) (c : Code) (H : Heap) (locs : List Loc) (cells slots : Nat) (Q : State → Prop) (ls : Array Slot),
      zz_X Ts D cl tys G own mn nL cc p s m args meth c → zz_I D cl fk cy z0 sp f.2.2.2 H → cells + 1 ≤ R.cells → slots + N ≤ R.slots → (∀ H1 : Heap, H1.size = H.size + 1 → (∀ q : Nat, q < H.size → H1[q]? = H[q]?) → va_at D cl (z0 + f.2.2.2.1, zz_e fk cy z0 sp cl0) H1 → W p l e R s m args below meth c H1 locs (cells + 1) (slots + N) Q (F0 m f'.1 ls (zz_sv z0 sp f'.2.2.1))) → W p l e R s m args below meth c H locs cells slots Q (F0 m pc ls (zz_sv z0 sp f.2.2.1)))
    (h2 : ∀ f f' : zz_F, act K f = some f' → f.2.2.2.1 ≤ f'.2.2.2.1 ∧ f.2.2.2.2.1 ≤ f'.2.2.2.2.1) : zz_O l Ts D cl fk cy z0 sp tys G own mn nL cc d K pc act := by
  refine ⟨h2, ?_⟩
  intro p e R s m args below meth c X _ _ H locs n0 s0 Q ls f f' hpc hf hI hS hl hn hs hc1 hc2 kk
  obtain ⟨cl0, N, e1, e2, e3, hg, h1⟩ := h f f' hpc hf
  rw [e1] at hc1
  rw [e2] at hc2
  refine h1 p e R s m args below meth c H locs _ _ Q ls X hI (by omega) (by omega) fun H1 z1 o1 hat => ?_
  have k1 := kk H1 locs ls (zz_I_push hsp0 hI e1 hg hat z1 o1) (zz_S_new hS z1 o1) (by rw [e3]; exact hl)
  rw [e1, e2, show f.2.2.2.1 + 1 - n0 = f.2.2.2.1 - n0 + 1 by omega, show f.2.2.2.2.1 + N - s0 = f.2.2.2.2.1 - s0 + N by omega] at k1
  exact k1
noncomputable def zz_nw (w : zz_W) (c : zz_C) (N : Nat) (kk : zz_W → Option zz_F) : Option zz_F :=
  cond (Nat.blt w.1 1000000) (zz_st w w.1 c none (fun w1 => zz_fN (w.1 + 1) (fun a => zz_fN (w.2.1 + N) (fun b => kk (a, b, w1.2.2))))) none
theorem zz_nw_ok {w : zz_W} {c : zz_C} {N : Nat} {kk : zz_W → Option zz_F} {f' : zz_F} (h : zz_nw w c N kk = some f') : w.1 < 1000000 ∧ ∃ w' : zz_W, kk w' = some f' ∧ w'.1 = w.1 + 1 ∧ w'.2.1 = w.2.1 + N ∧ ∀ j, zz_g w' j = if j = w.1 then c else zz_g w j := by
  unfold zz_nw at h
  obtain ⟨h1, h⟩ := zz_cond h
  obtain ⟨w1, hk, e1, e2, hg⟩ := zz_st_ok h
  rw [zz_fN_eq, zz_fN_eq] at hk
  exact ⟨zz_blt h1, _, hk, rfl, rfl, hg⟩
noncomputable def za_newa (kd t n : Nat) : zz_A := fun _ f => match f.2.2.1 with
  | .int x :: r => zz_fN (zz_nI x) (fun N => cond (Nat.ble N 1000000) (zz_nw f.2.2.2 (kd, t, N, 0) N (fun w => some (n, f.2.1, .ref f.2.2.2.1 :: r, w))) none)
  | _ => none
theorem zz_newa_row (hsp0 : sp 18446744073709551616 = 0) {at0 : ArrayType} {ty : FieldType} {t : Nat} (hd : decode cc pc = .ok (.newarray at0, 2)) (hty : newarray.typeOf at0 = ty) (hw : Cond.arrayClass ty ∈ Ts) (ht : tys[t]? = some (cy t, ty)) (hcl : ∀ s : State, va_RA s (cy t) ty → s.vm.findClass ("[" ++ ty.toString) = some (cy t)) (hcb : componentBytes ty ≤ 8) {x : Int32} (hx : zz_nI x ≤ 1000000) {n : Nat} (hn : n < 1000000)
    {p : Program} {e : Env} {R : Room} {s : State} {m : MethodId} {args : Array Value} {below : List Frame} {meth : Method} {c : Code} {H : Heap} {locs : List Loc} {cells slots : Nat} {Q : State → Prop} {ls : Array Slot} {rest : List Value}
    (X : zz_X Ts D cl tys G own mn nL cc p s m args meth c) (hz : H.size = z0 + n) (hc1 : cells + 1 ≤ R.cells) (hc2 : slots + zz_nI x ≤ R.slots)
    (kk : ∀ H1 : Heap, H1.size = H.size + 1 → (∀ q : Nat, q < H.size → H1[q]? = H[q]?) → H1[z0 + n]? = some (arrV (cy t) (zz_nI x) (fun _ => defaultValue ty)) → W p l e R s m args below meth c H1 locs (cells + 1) (slots + zz_nI x) Q (F0 m (pc + 2) ls (zz_v z0 sp (.ref n) :: rest))) : W p l e R s m args below meth c H locs cells slots Q (F0 m pc ls (.int x :: rest)) := by
  subst hty
  have h1 : zz_nI x < 1000001 := by omega
  obtain ⟨hin, hcl2⟩ := zz_idx h1 (by decide)
  have hb : zz_nI x * componentBytes (newarray.typeOf at0) ≤ 536870912 := Nat.le_trans (Nat.mul_le_mul hx hcb) (by decide)
  refine va_newaK X.1 X.2.1 (X.2.2.2.2.1 _ hw) rfl hd rfl (fun q => hin (Or.inl q)) hcl2 hb hc1 hc2 rfl fun H1 cA g1 z1 o1 hA hF => ?_
  have hcA : cA = cy t := Option.some.inj (hF.symm.trans (hcl s (X.2.2.2.2.2.1.2 t _ ht).2))
  subst hcA
  have k1 := kk H1 z1 o1 (by rw [← hz]; exact g1)
  rw [zz_v_ref hn, zz_ad_0 hsp0, ← hz] at k1
  exact k1
theorem zo_newI (hsp0 : sp 18446744073709551616 = 0) {t : Nat} (hd : decode cc pc = .ok (.newarray .int, 2)) (hw : Cond.arrayClass .int ∈ Ts) (ht : tys[t]? = some (cy t, .int)) : zz_O l Ts D cl fk cy z0 sp tys G own mn nL cc d K pc (za_newa 0 t (pc + 2)) := by
  refine zo_born hsp0 (fun f f' _ hf => ?_) (fun f f' hf => ?_)
  · unfold za_newa at hf
    split at hf
    · rename_i x r hst
      rw [zz_fN_eq] at hf
      obtain ⟨hx, hf⟩ := zz_cond hf
      obtain ⟨hn, w', hk1, e1, e2, hg⟩ := zz_nw_ok hf
      cases hk1
      refine ⟨_, _, e1, e2, rfl, hg, fun p e R s m args below meth c H locs cells slots Q ls X hI hc1 hc2 kk => ?_⟩
      rw [hst]
      refine zz_newa_row hsp0 (cl := cl) (D := D) (sp := sp) hd rfl hw ht (fun s h => h) (by decide) (zz_ble hx) hn X hI.1 hc1 hc2 fun H1 z1 o1 g1 => ?_
      refine kk H1 z1 o1 ?_
      rw [zz_e_i (t := t) rfl rfl]
      show H1[z0 + f.2.2.2.1]? = some (vp_cell _ _)
      rw [g1, vp_cell_i]
      congr 2
      funext q
      rw [zz_at_0]
      rfl
    · cases hf
  · unfold za_newa at hf
    split at hf
    · rw [zz_fN_eq] at hf
      obtain ⟨hx, hf⟩ := zz_cond hf
      obtain ⟨hn, w', hk1, e1, e2, hg⟩ := zz_nw_ok hf
      cases hk1
      show _ ≤ w'.1 ∧ _ ≤ w'.2.1
      rw [e1, e2]
      exact ⟨Nat.le_succ _, Nat.le_add_right _ _⟩
    · cases hf
theorem zo_newB (hsp0 : sp 18446744073709551616 = 0) {t : Nat} (hd : decode cc pc = .ok (.newarray .byte, 2)) (hw : Cond.arrayClass .byte ∈ Ts) (ht : tys[t]? = some (cy t, .byte)) : zz_O l Ts D cl fk cy z0 sp tys G own mn nL cc d K pc (za_newa 0 t (pc + 2)) := by
  refine zo_born hsp0 (fun f f' _ hf => ?_) (fun f f' hf => ?_)
  · unfold za_newa at hf
    split at hf
    · rename_i x r hst
      rw [zz_fN_eq] at hf
      obtain ⟨hx, hf⟩ := zz_cond hf
      obtain ⟨hn, w', hk1, e1, e2, hg⟩ := zz_nw_ok hf
      cases hk1
      refine ⟨_, _, e1, e2, rfl, hg, fun p e R s m args below meth c H locs cells slots Q ls X hI hc1 hc2 kk => ?_⟩
      rw [hst]
      refine zz_newa_row hsp0 (cl := cl) (D := D) (sp := sp) hd rfl hw ht (fun s h => h) (by decide) (zz_ble hx) hn X hI.1 hc1 hc2 fun H1 z1 o1 g1 => ?_
      refine kk H1 z1 o1 ?_
      rw [zz_e_i (t := t) rfl rfl]
      show H1[z0 + f.2.2.2.1]? = some (vp_cell _ _)
      rw [g1, vp_cell_i]
      congr 2
      funext q
      rw [zz_at_0]
      rfl
    · cases hf
  · unfold za_newa at hf
    split at hf
    · rw [zz_fN_eq] at hf
      obtain ⟨hx, hf⟩ := zz_cond hf
      obtain ⟨hn, w', hk1, e1, e2, hg⟩ := zz_nw_ok hf
      cases hk1
      show _ ≤ w'.1 ∧ _ ≤ w'.2.1
      rw [e1, e2]
      exact ⟨Nat.le_succ _, Nat.le_add_right _ _⟩
    · cases hf
theorem zo_newZ (hsp0 : sp 18446744073709551616 = 0) {t : Nat} (hd : decode cc pc = .ok (.newarray .boolean, 2)) (hw : Cond.arrayClass .boolean ∈ Ts) (ht : tys[t]? = some (cy t, .boolean)) : zz_O l Ts D cl fk cy z0 sp tys G own mn nL cc d K pc (za_newa 0 t (pc + 2)) := by
  refine zo_born hsp0 (fun f f' _ hf => ?_) (fun f f' hf => ?_)
  · unfold za_newa at hf
    split at hf
    · rename_i x r hst
      rw [zz_fN_eq] at hf
      obtain ⟨hx, hf⟩ := zz_cond hf
      obtain ⟨hn, w', hk1, e1, e2, hg⟩ := zz_nw_ok hf
      cases hk1
      refine ⟨_, _, e1, e2, rfl, hg, fun p e R s m args below meth c H locs cells slots Q ls X hI hc1 hc2 kk => ?_⟩
      rw [hst]
      refine zz_newa_row hsp0 (cl := cl) (D := D) (sp := sp) hd rfl hw ht (fun s h => h) (by decide) (zz_ble hx) hn X hI.1 hc1 hc2 fun H1 z1 o1 g1 => ?_
      refine kk H1 z1 o1 ?_
      rw [zz_e_i (t := t) rfl rfl]
      show H1[z0 + f.2.2.2.1]? = some (vp_cell _ _)
      rw [g1, vp_cell_i]
      congr 2
      funext q
      rw [zz_at_0]
      rfl
    · cases hf
  · unfold za_newa at hf
    split at hf
    · rw [zz_fN_eq] at hf
      obtain ⟨hx, hf⟩ := zz_cond hf
      obtain ⟨hn, w', hk1, e1, e2, hg⟩ := zz_nw_ok hf
      cases hk1
      show _ ≤ w'.1 ∧ _ ≤ w'.2.1
      rw [e1, e2]
      exact ⟨Nat.le_succ _, Nat.le_add_right _ _⟩
    · cases hf
theorem zo_newL (hsp0 : sp 18446744073709551616 = 0) {t : Nat} (hd : decode cc pc = .ok (.newarray .long, 2)) (hw : Cond.arrayClass .long ∈ Ts) (ht : tys[t]? = some (cy t, .long)) : zz_O l Ts D cl fk cy z0 sp tys G own mn nL cc d K pc (za_newa 1 t (pc + 2)) := by
  refine zo_born hsp0 (fun f f' _ hf => ?_) (fun f f' hf => ?_)
  · unfold za_newa at hf
    split at hf
    · rename_i x r hst
      rw [zz_fN_eq] at hf
      obtain ⟨hx, hf⟩ := zz_cond hf
      obtain ⟨hn, w', hk1, e1, e2, hg⟩ := zz_nw_ok hf
      cases hk1
      refine ⟨_, _, e1, e2, rfl, hg, fun p e R s m args below meth c H locs cells slots Q ls X hI hc1 hc2 kk => ?_⟩
      rw [hst]
      refine zz_newa_row hsp0 (cl := cl) (D := D) (sp := sp) hd rfl hw ht (fun s h => h) (by decide) (zz_ble hx) hn X hI.1 hc1 hc2 fun H1 z1 o1 g1 => ?_
      refine kk H1 z1 o1 ?_
      rw [zz_e_l (t := t) rfl rfl]
      show H1[z0 + f.2.2.2.1]? = some (vp_cell _ _)
      rw [g1, vp_cell_l]
      congr 2
      funext q
      rw [zz_at_0]
      rfl
    · cases hf
  · unfold za_newa at hf
    split at hf
    · rw [zz_fN_eq] at hf
      obtain ⟨hx, hf⟩ := zz_cond hf
      obtain ⟨hn, w', hk1, e1, e2, hg⟩ := zz_nw_ok hf
      cases hk1
      show _ ≤ w'.1 ∧ _ ≤ w'.2.1
      rw [e1, e2]
      exact ⟨Nat.le_succ _, Nat.le_add_right _ _⟩
    · cases hf
/-- new: an object of class ci with N fields -/
noncomputable def za_new (ci N n : Nat) : zz_A := fun _ f => zz_nw f.2.2.2 (3, ci, N, 0) N (fun w => some (n, f.2.1, .ref f.2.2.2.1 :: f.2.2.1, w))
theorem zo_new (hsp0 : sp 18446744073709551616 = 0) {C : String} {T : u_T} {N ci index : Nat} {ty0 : Nat → FieldType} (hd : decode cc pc = .ok (.new index, 3)) (hc : cl[ci]? = some (C, T, N)) (hu : ∀ w ∈ u_ws C T N, w ∈ Ts) (hty : ∀ k, k < N → parseFieldDescriptor (T k).2.2.1 = some (ty0 k)) (hdf : ∀ k, k < N → (fk ci k = 0 ∧ defaultValue (ty0 k) = .int 0) ∨ (fk ci k = 1 ∧ defaultValue (ty0 k) = .long 0) ∨ (fk ci k = 2 ∧ defaultValue (ty0 k) = .null))
    (hw1 : Cond.classLink own index C ∈ Ts) (hw2 : Cond.instantiable C N ∈ Ts) (hw3 : Cond.initialized C ∈ Ts) : zz_O l Ts D cl fk cy z0 sp tys G own mn nL cc d K pc (za_new ci N (pc + 3)) := by
  refine zo_born hsp0 (fun f f' _ hf => ?_) (fun f f' hf => ?_)
  · unfold za_new at hf
    obtain ⟨hn, w', hk1, e1, e2, hg⟩ := zz_nw_ok hf
    cases hk1
    refine ⟨_, _, e1, e2, rfl, hg, fun p e R s m args below meth c H locs cells slots Q ls X hI hc1 hc2 kk => ?_⟩
    have hKn := X.2.2.2.2.2.1.1 ci _ hc
    refine W.newcK X.1 X.2.1 X.2.2.2.1 (X.2.2.2.2.1 _ hw1) (X.2.2.2.2.1 _ hw2) (X.2.2.2.2.1 _ hw3) rfl hd hc1 hc2 hKn.2.1 rfl fun H1 kC hkC g1 z1 o1 => ?_
    have k1 := kk H1 z1 o1 (by
      rw [zz_e_o (ci := ci) rfl rfl, ← hI.1]
      refine ⟨_, hc, (u_born ty0 X.2.2.2.2.1 hu hKn hkC g1 hty).to (fun j hj => ?_)⟩
      have e3 : vp_V ((List.range N).map (fun k => zz_v z0 sp (zz_av (fk ci k) (zz_at 64 0 k)))) j = zz_v z0 sp (zz_av (fk ci j) 0) := by
        unfold vp_V
        rw [List.getD_eq_getElem?_getD, zz_rng_get hj, zz_at_0]
        rfl
      show defaultValue (ty0 j) = vp_V ((List.range N).map (fun k => zz_v z0 sp (zz_av (fk ci k) (zz_at 64 0 k)))) j
      rw [e3]
      rcases hdf j hj with ⟨q1, q2⟩ | ⟨q1, q2⟩ | ⟨q1, q2⟩
      · rw [q1, q2]; rfl
      · rw [q1, q2]; rfl
      · rw [q1, q2]; rfl)
    have hv : zz_sv z0 sp (Value.ref f.2.2.2.1 :: f.2.2.1) = Value.ref H.size :: zz_sv z0 sp f.2.2.1 := by
      show zz_v z0 sp (Value.ref f.2.2.2.1) :: zz_sv z0 sp f.2.2.1 = _
      rw [zz_v_ref hn, zz_ad_0 hsp0, hI.1]
    have k2 : W p l e R s m args below meth c H1 locs (cells + 1) (slots + N) Q (F0 m (pc + 3) ls (zz_sv z0 sp (Value.ref f.2.2.2.1 :: f.2.2.1))) := k1
    rw [hv] at k2
    exact k2
  · unfold za_new at hf
    obtain ⟨hn, w', hk1, e1, e2, hg⟩ := zz_nw_ok hf
    cases hk1
    show _ ≤ w'.1 ∧ _ ≤ w'.2.1
    rw [e1, e2]
    exact ⟨Nat.le_succ _, Nat.le_add_right _ _⟩
/-- the constructor of java.lang.Object -/
def zz_cs (l : List Value) : Nat := (l.map fun v => v.category).sum
theorem zz_cs_sv (l : List Value) : ((zz_sv z0 sp l).map fun v => v.category).sum = zz_cs l := by
  unfold zz_sv zz_cs
  rw [List.map_map]
  congr 1
  apply List.map_congr_left
  intro v _
  exact zz_v_cat z0 sp v
noncomputable def za_oinit (n : Nat) : zz_A := fun _ f => match f.2.2.1 with
  | .ref _ :: r => cond (Nat.ble (zz_cs r) 8) (some (n, f.2.1, r, f.2.2.2)) none
  | _ => none
theorem zo_oinit {index : Nat} (hd : decode cc pc = .ok (.invokespecial index, 3)) (hw1 : Cond.methodLink own index Lib.objectInit ∈ Ts) (hw2 : Cond.instanceMethod Lib.objectInit ∈ Ts) (hw3 : Cond.code Lib.objectInit ⟨#[0xb1]⟩ 1 none ∈ Ts) : zz_O l Ts D cl fk cy z0 sp tys G own mn nL cc d K pc (za_oinit (pc + 3)) := by
  refine ⟨fun f f' hf => ?_, ?_⟩
  · unfold za_oinit at hf
    split at hf
    · obtain ⟨_, hf⟩ := zz_cond hf
      cases hf
      exact ⟨Nat.le_refl _, Nat.le_refl _⟩
    · cases hf
  · intro p e R s m args below meth c X hR1 hR2 H locs n0 s0 Q ls f f' hpc hf hI hS hl _ _ _ _ kk
    unfold za_oinit at hf
    split at hf
    · rename_i i r hst
      obtain ⟨hb, hf⟩ := zz_cond hf
      cases hf
      rw [hst]
      have hr := lv_room (m := m) (pc := pc) (ls := ls) (rest := zz_sv z0 sp (Value.ref i :: r)) (st := zz_sv z0 sp r) (by rw [zz_cs_sv]; exact zz_ble hb)
      refine W.objInit (rest := zz_sv z0 sp r) X.1 X.2.1 X.2.2.2.1 (X.2.2.2.2.1 _ hw1) (X.2.2.2.2.1 _ hw2) (X.2.2.2.2.1 _ hw3) rfl (hl.1.trans X.2.2.1.symm) rfl hd (by omega) (by omega) ?_
      exact kk H locs ls hI hS hl
    · cases hf
/-- a switch by a table, which the abstract machine reads off -/
noncomputable def za_tsw (lo hi : Int) (dt : Nat) (ts : List Nat) : zz_A := fun _ f => match f.2.2.1 with
  | .int x :: r => if x.toInt < lo ∨ hi < x.toInt then some (dt, f.2.1, r, f.2.2.2) else match ts[(x.toInt - lo).toNat]? with
    | some t => some (t, f.2.1, r, f.2.2.2)
    | none => none
  | _ => none
theorem zo_tsw {dflt lo hi : Int} {offs : Array Int} {len dt : Nat} {ts : List Nat} (hd : decode cc pc = .ok (.tableswitch dflt lo hi offs, len)) (hdt : (pc : Int) + dflt = (dt : Int)) (hts : offs.toList.map (fun o => (pc : Int) + o) = ts.map (fun t : Nat => (t : Int))) : zz_O l Ts D cl fk cy z0 sp tys G own mn nL cc d K pc (za_tsw lo hi dt ts) := by
  refine zo_still (fun f f' _ hf => ?_) (fun f f' hf => ?_)
  · unfold za_tsw at hf
    split at hf
    · rename_i x r hst
      split at hf
      · rename_i hc
        cases hf
        refine ⟨rfl, fun p e R s m args below meth c H locs cells slots Q ls X hS hl kk => ?_⟩
        rw [hst]
        exact lv_tableOut X.1 X.2.1 hd hc hdt (kk ls hl)
      · rename_i hc
        split at hf
        · rename_i t ht
          cases hf
          refine ⟨rfl, fun p e R s m args below meth c H locs cells slots Q ls X hS hl kk => ?_⟩
          rw [hst]
          have h1 : (ts.map (fun t : Nat => (t : Int)))[(x.toInt - lo).toNat]? = some (t : Int) := by rw [List.getElem?_map, ht]; rfl
          rw [← hts, List.getElem?_map] at h1
          cases ho : offs.toList[(x.toInt - lo).toNat]? with
          | none => rw [ho] at h1; cases h1
          | some o =>
            rw [ho] at h1
            have h2 : (pc : Int) + o = (t : Int) := Option.some.inj h1
            exact lv_tableIn X.1 X.2.1 hd (fun q => hc (Or.inl q)) (fun q => hc (Or.inr q)) (by rw [← Array.getElem?_toList]; exact ho) h2 (kk ls hl)
        · cases hf
    · cases hf
  · unfold za_tsw at hf
    split at hf
    · split at hf
      · cases hf
        rfl
      · split at hf
        · cases hf
          rfl
        · cases hf
    · cases hf
noncomputable def za_lsw (g : Int → Option Nat) : zz_A := fun _ f => match f.2.2.1 with
  | .int x :: r => match g x.toInt with
    | some t => some (t, f.2.1, r, f.2.2.2)
    | none => none
  | _ => none
theorem zo_lsw {dflt : Int} {ps : Array (Int × Int)} {len : Nat} {g : Int → Option Nat} (hd : decode cc pc = .ok (.lookupswitch dflt ps, len)) (hp : (ps.toList.zip (ps.toList.drop 1)).all (fun (a, next) => a.1 < next.1) = true) (hg : ∀ x t, g x = some t → (pc : Int) + Op.lookupswitch.offset ps.toList dflt x = (t : Int)) : zz_O l Ts D cl fk cy z0 sp tys G own mn nL cc d K pc (za_lsw g) := by
  refine zo_still (fun f f' _ hf => ?_) (fun f f' hf => ?_)
  · unfold za_lsw at hf
    split at hf
    · rename_i x r hst
      split at hf
      · rename_i t ht
        cases hf
        refine ⟨rfl, fun p e R s m args below meth c H locs cells slots Q ls X hS hl kk => ?_⟩
        rw [hst]
        exact lv_lookup X.1 X.2.1 hd hp rfl (hg _ _ ht) (kk ls hl)
      · cases hf
    · cases hf
  · unfold za_lsw at hf
    split at hf
    · split at hf
      · cases hf
        rfl
      · cases hf
    · cases hf
end ZB
end
