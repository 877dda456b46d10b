/-! THE ABSTRACT MACHINE, PURE PART: arrays and fields as one number each, worlds as chunks of cells, strict updates that a kernel can run. -/
/-- element i of the row N, w bits each -/
def zz_at (w N i : Nat) : Nat := (N >>> (w * i)) % 2 ^ w
/-- the row N with element i made v -/
def zz_to (w N i v : Nat) : Nat := N ^^^ ((zz_at w N i ^^^ v) <<< (w * i))
theorem zz_at_lt (w N i : Nat) : zz_at w N i < 2 ^ w := Nat.mod_lt _ (Nat.two_pow_pos w)
theorem zz_at_bit (w N i b : Nat) : (zz_at w N i).testBit b = (decide (b < w) && N.testBit (w * i + b)) := by
  unfold zz_at
  rw [Nat.testBit_mod_two_pow, Nat.testBit_shiftRight]
theorem zz_at_0 (w i : Nat) : zz_at w 0 i = 0 := by
  unfold zz_at
  simp
theorem zz_at_to {w N i v : Nat} (hv : v < 2 ^ w) (j : Nat) : zz_at w (zz_to w N i v) j = if j = i then v else zz_at w N j := by
  have hd : zz_at w N i ^^^ v < 2 ^ w := Nat.xor_lt_two_pow (zz_at_lt w N i) hv
  apply Nat.eq_of_testBit_eq
  intro b
  rw [zz_at_bit]
  unfold zz_to
  rw [Nat.testBit_xor, Nat.testBit_shiftLeft]
  by_cases hb : b < w
  · by_cases hj : j = i
    · subst hj
      rw [if_pos rfl]
      have h1 : w * j ≤ w * j + b := Nat.le_add_right _ _
      have h2 : w * j + b - w * j = b := by omega
      rw [h2, Nat.testBit_xor, zz_at_bit]
      simp [hb]
    · rw [if_neg hj, zz_at_bit]
      by_cases hl : j < i
      · have h1 : ¬ w * j + b ≥ w * i := by
          have h3 : w * (j + 1) ≤ w * i := Nat.mul_le_mul_left w hl
          rw [Nat.mul_add, Nat.mul_one] at h3
          omega
        simp [hb, h1]
      · have hg : i < j := by omega
        have h3 : w * (i + 1) ≤ w * j := Nat.mul_le_mul_left w hg
        rw [Nat.mul_add, Nat.mul_one] at h3
        have h4 : w ≤ w * j + b - w * i := by omega
        have h5 : (zz_at w N i ^^^ v).testBit (w * j + b - w * i) = false := Nat.testBit_lt_two_pow (Nat.lt_of_lt_of_le hd (Nat.pow_le_pow_right (by omega) h4))
        simp [hb, h5]
  · have h6 : (if j = i then v else zz_at w N j) < 2 ^ w := by
      split
      · exact hv
      · exact zz_at_lt w N j
    have h7 : (if j = i then v else zz_at w N j).testBit b = false := Nat.testBit_lt_two_pow (Nat.lt_of_lt_of_le h6 (Nat.pow_le_pow_right (by omega) (by omega)))
    rw [h7]
    simp [hb]
/-- a number, worked out before it is handed on -/
noncomputable def zz_fN {β : Sort _} (n : Nat) (k : Nat → β) : β := Nat.casesOn n (k 0) (fun m => k (m + 1))
theorem zz_fN_eq {β : Sort _} (n : Nat) (k : Nat → β) : zz_fN n k = k n := by cases n <;> rfl
def zz_nI (x : Int32) : Nat := x.toBitVec.toNat
def zz_nL (x : Int64) : Nat := x.toBitVec.toNat
theorem zz_nI_lt (x : Int32) : zz_nI x < 2 ^ 32 := x.toBitVec.isLt
theorem zz_nL_lt (x : Int64) : zz_nL x < 2 ^ 64 := x.toBitVec.isLt
theorem zz_nI_of (x : Int32) : Int32.ofNat (zz_nI x) = x := by
  apply Int32.toBitVec_inj.mp
  show BitVec.ofNat 32 x.toBitVec.toNat = x.toBitVec
  simp
theorem zz_nL_of (x : Int64) : Int64.ofNat (zz_nL x) = x := by
  apply Int64.toBitVec_inj.mp
  show BitVec.ofNat 64 x.toBitVec.toNat = x.toBitVec
  simp
noncomputable def zz_fI {β : Sort _} (x : Int32) (k : Int32 → β) : β := zz_fN (zz_nI x) (fun n => k (Int32.ofNat n))
noncomputable def zz_fL {β : Sort _} (x : Int64) (k : Int64 → β) : β := zz_fN (zz_nL x) (fun n => k (Int64.ofNat n))
theorem zz_fI_eq {β : Sort _} (x : Int32) (k : Int32 → β) : zz_fI x k = k x := by unfold zz_fI; rw [zz_fN_eq, zz_nI_of]
theorem zz_fL_eq {β : Sort _} (x : Int64) (k : Int64 → β) : zz_fL x k = k x := by unfold zz_fL; rw [zz_fN_eq, zz_nL_of]
/-- a list with place i made v, worked out before it is handed on; bad if there is no such place -/
noncomputable def zz_ls {α : Type} {β : Sort _} (l : List α) (v : α) (bad : β) : Nat → (List α → β) → β :=
  List.rec (motive := fun _ => Nat → (List α → β) → β) (fun _ _ => bad) (fun x xs ih i k => Nat.casesOn i (k (v :: xs)) (fun n => ih n (fun r => k (x :: r)))) l
theorem zz_ls_eq {α : Type} {β : Sort _} (v : α) (bad : β) : ∀ (l : List α) (i : Nat) (k : List α → β), zz_ls l v bad i k = if i < l.length then k (l.set i v) else bad
  | [], i, k => by
    rw [if_neg (by simp)]
    rfl
  | x :: xs, 0, k => by
    rw [if_pos (by simp)]
    rfl
  | x :: xs, n + 1, k => by
    show zz_ls xs v bad n (fun r => k (x :: r)) = _
    rw [zz_ls_eq v bad xs n]
    simp [Nat.succ_lt_succ_iff]
/-- the locals but those that a store to i takes away (two: a long's store) -/
def zz_lk (two : Bool) (i : Nat) (q : Nat × Value) : Bool := !(q.1 == i) && (!(two && (q.1 == i + 1)) && !(q.1 + 1 == i && q.2.category == 2))
noncomputable def zz_lf {β : Sort _} (two : Bool) (i : Nat) (l : List (Nat × Value)) : (List (Nat × Value) → β) → β :=
  List.rec (motive := fun _ => (List (Nat × Value) → β) → β) (fun k => k []) (fun x _ ih k => Bool.casesOn (zz_lk two i x) (ih k) (ih (fun r => k (x :: r)))) l
theorem zz_lf_eq {β : Sort _} (two : Bool) (i : Nat) : ∀ (l : List (Nat × Value)) (k : List (Nat × Value) → β), zz_lf two i l k = k (l.filter (zz_lk two i))
  | [], k => rfl
  | x :: xs, k => by
    cases h : zz_lk two i x with
    | false =>
      rw [List.filter_cons_of_neg (by simp [h]), ← zz_lf_eq two i xs k]
      show Bool.rec (motive := fun _ => β) (zz_lf two i xs k) (zz_lf two i xs (fun r => k (x :: r))) (zz_lk two i x) = _
      rw [h]
    | true =>
      rw [List.filter_cons_of_pos h, ← zz_lf_eq two i xs (fun r => k (x :: r))]
      show Bool.rec (motive := fun _ => β) (zz_lf two i xs k) (zz_lf two i xs (fun r => k (x :: r))) (zz_lk two i x) = _
      rw [h]
/-- cells: (kind, element or class, length, content); kinds: 0 ints, 1 longs, 2 references, 3 an object -/
abbrev zz_C : Type := Nat × Nat × Nat × Nat
/-- worlds: cells, slots, the cells in chunks of 16 -/
abbrev zz_W : Type := Nat × Nat × List (List zz_C)
def zz_c0 : zz_C := (0, 0, 0, 0)
def zz_g (w : zz_W) (i : Nat) : zz_C := (w.2.2.getD (i / 16) []).getD (i % 16) zz_c0
/-- the world with cell i made c, worked out; bad if there is no such place -/
noncomputable def zz_st {β : Sort _} (w : zz_W) (i : Nat) (c : zz_C) (bad : β) (k : zz_W → β) : β :=
  zz_ls (w.2.2.getD (i / 16) []) c bad (i % 16) (fun r => zz_ls w.2.2 r bad (i / 16) (fun rr => k (w.1, w.2.1, rr)))
theorem zz_st_ok {β : Type} {w : zz_W} {i : Nat} {c : zz_C} {k : zz_W → Option β} {b : β} (h : zz_st w i c none k = some b) :
    ∃ w' : zz_W, k w' = some b ∧ w'.1 = w.1 ∧ w'.2.1 = w.2.1 ∧ ∀ j, zz_g w' j = if j = i then c else zz_g w j := by
  unfold zz_st at h
  rw [zz_ls_eq] at h
  split at h
  · rename_i h1
    rw [zz_ls_eq] at h
    split at h
    · rename_i h2
      refine ⟨_, h, rfl, rfl, fun j => ?_⟩
      unfold zz_g
      show ((w.2.2.set (i / 16) ((w.2.2.getD (i / 16) []).set (i % 16) c)).getD (j / 16) []).getD (j % 16) zz_c0 = _
      by_cases hj : j = i
      · subst hj
        rw [if_pos rfl]
        simp only [List.getD_eq_getElem?_getD, List.getElem?_set_self h2, Option.getD_some]
        simp only [List.getD_eq_getElem?_getD] at h1
        rw [List.getElem?_set_self h1]
        rfl
      · rw [if_neg hj]
        by_cases hq : j / 16 = i / 16
        · have hr : i % 16 ≠ j % 16 := by omega
          rw [hq]
          simp only [List.getD_eq_getElem?_getD, List.getElem?_set_self h2, Option.getD_some]
          rw [List.getElem?_set_ne hr]
        · simp only [List.getD_eq_getElem?_getD, List.getElem?_set_ne (Ne.symm hq)]
    · cases h
  · cases h
