/-! WHAT EACH ACTION DOES, as equations over frames that hold variables; worlds changed at one cell -/
/-- the world with cell i made c (there must be such a place) -/
def zz_up (w : zz_W) (i : Nat) (c : zz_C) : zz_W := (w.1, w.2.1, w.2.2.set (i / 16) ((w.2.2.getD (i / 16) []).set (i % 16) c))
/-- so many chunks of 16 cells each -/
def zz_sh (w : zz_W) : Prop := w.2.2.length = 64 ∧ ∀ i, i < 64 → (w.2.2.getD i []).length = 16
theorem zz_up_st {β : Sort _} {w : zz_W} {i : Nat} {c : zz_C} {bad : β} {k : zz_W → β} (h : zz_sh w) (hi : i < 1024) : zz_st w i c bad k = k (zz_up w i c) := by
  unfold zz_st zz_up
  have h1 : i / 16 < 64 := by omega
  rw [zz_ls_eq, if_pos (by rw [h.2 _ h1]; omega), zz_ls_eq, if_pos (by rw [h.1]; exact h1)]
theorem zz_up_sh {w : zz_W} {i : Nat} {c : zz_C} (h : zz_sh w) : zz_sh (zz_up w i c) := by
  refine ⟨?_, fun j hj => ?_⟩
  · show (w.2.2.set _ _).length = 64
    rw [List.length_set]
    exact h.1
  · show ((w.2.2.set (i / 16) ((w.2.2.getD (i / 16) []).set (i % 16) c)).getD j []).length = 16
    rw [List.getD_eq_getElem?_getD]
    by_cases e : i / 16 = j
    · subst e
      rw [List.getElem?_set_self (by rw [h.1]; exact hj)]
      show ((w.2.2.getD (i / 16) []).set (i % 16) c).length = 16
      rw [List.length_set]
      exact h.2 _ hj
    · rw [List.getElem?_set_ne e, ← List.getD_eq_getElem?_getD]
      exact h.2 j hj
theorem zz_up_g {w : zz_W} {i : Nat} {c : zz_C} (h : zz_sh w) (hi : i < 1024) (j : Nat) : zz_g (zz_up w i c) j = if j = i then c else zz_g w j := by
  obtain ⟨w', e1, -, -, e4⟩ := zz_st_ok (w := w) (i := i) (c := c) (k := fun w' => some w') (b := zz_up w i c) (zz_up_st h hi)
  cases e1
  exact e4 j
theorem zz_up_at {w : zz_W} {i : Nat} {c : zz_C} (h : zz_sh w) (hi : i < 1024) : zz_g (zz_up w i c) i = c := by rw [zz_up_g h hi, if_pos rfl]
theorem zz_up_ne {w : zz_W} {i j : Nat} {c : zz_C} (h : zz_sh w) (hi : i < 1024) (hj : j ≠ i) : zz_g (zz_up w i c) j = zz_g w j := by rw [zz_up_g h hi, if_neg hj]
/-- the world holds the cell c at i -/
def zz_has (w : zz_W) (i : Nat) (c : zz_C) : Prop := i < w.1 ∧ i < 1024 ∧ zz_g w i = c
theorem zz_has_up {w : zz_W} {i : Nat} {c c' : zz_C} (h : zz_sh w) (hc : zz_has w i c') : zz_has (zz_up w i c) i c := ⟨hc.1, hc.2.1, zz_up_at h hc.2.1⟩
theorem zz_has_ne {w : zz_W} {i j : Nat} {c c' : zz_C} (h : zz_sh w) (hi : i < 1024) (hc : zz_has w j c') (hj : j ≠ i) : zz_has (zz_up w i c) j c' := ⟨hc.1, hc.2.1, (zz_up_ne h hi hj).trans hc.2.2⟩
theorem zz_has_b {w : zz_W} {i : Nat} {c : zz_C} (h : zz_has w i c) : Nat.blt i w.1 = true ∧ Nat.blt i 1000000 = true := ⟨Nat.ble_eq.mpr h.1, Nat.ble_eq.mpr (by have := h.2.1; omega)⟩
theorem zz_has_o {w : zz_W} {i ci nf N k : Nat} (h : zz_has w i (3, ci, nf, N)) (hk : k < nf) : zz_io w i ci k = true := by
  obtain ⟨b1, b2⟩ := zz_has_b h
  unfold zz_io
  rw [b1, b2, h.2.2]
  show (true && (true && (Nat.beq 3 3 && (Nat.beq ci ci && Nat.blt k nf)))) = true
  rw [Nat.beq_refl ci, show Nat.blt k nf = true from Nat.ble_eq.mpr hk]
  rfl
theorem zz_has_r {w : zz_W} {i kd t n N j : Nat} (h : zz_has w i (kd, t, n, N)) (hj : j < n) (hn : n ≤ 2147483648) : zz_ir w i kd t j = true := by
  obtain ⟨b1, b2⟩ := zz_has_b h
  unfold zz_ir
  rw [b1, b2, h.2.2]
  show (true && (true && (Nat.beq kd kd && (Nat.beq t t && (Nat.blt j n && Nat.ble n 2147483648))))) = true
  rw [Nat.beq_refl kd, Nat.beq_refl t, show Nat.blt j n = true from Nat.ble_eq.mpr hj, show Nat.ble n 2147483648 = true from Nat.ble_eq.mpr hn]
  rfl
theorem zz_has_c {w : zz_W} {i ci nf N : Nat} (h : zz_has w i (3, ci, nf, N)) : zz_ic w i ci = true := by
  obtain ⟨b1, b2⟩ := zz_has_b h
  unfold zz_ic
  rw [b1, b2, h.2.2]
  show (true && (true && (Nat.beq 3 3 && Nat.beq ci ci))) = true
  rw [Nat.beq_refl ci]
  rfl
theorem zz_tk_eq {β : Type} {k : List Value → List Value → Option β} : ∀ {na : Nat} {as rest acc : List Value}, as.length = na → zz_tk na (as.reverse ++ rest) acc k = k (as ++ acc) rest := by
  intro na
  induction na with
  | zero =>
    intro as rest acc h
    have : as = [] := List.length_eq_zero_iff.mp h
    subst this
    rfl
  | succ na ih =>
    intro as rest acc h
    rcases List.eq_nil_or_concat as with e | ⟨as', x, e⟩
    · subst e
      cases h
    · subst e
      have h' : as'.length = na := by simpa using h
      have e1 : (as'.concat x).reverse ++ rest = x :: (as'.reverse ++ rest) := by simp
      rw [e1]
      show zz_tk na (as'.reverse ++ rest) (x :: acc) k = _
      rw [ih h']
      simp
theorem zz_cr_eq {n : Nat} {lv : List (Nat × Value)} {r rv : List Value} {w' : zz_W} (h : rv.length ≤ 1) : zz_cr n lv r (some (rv, w')) = some (n, lv, rv ++ r, w') := by
  match rv, h with
  | [], _ => rfl
  | [x], _ => rfl
  | _ :: _ :: _, h => exact absurd h (by simp)
section ZE
variable {K : zz_K} {n p : Nat} {lv : List (Nat × Value)} {r : List Value} {w : zz_W}
theorem ze_iadd {x : Int32} {y : Int32} {v : Int32} (hv : x + y = v) : za_iadd n K (p, lv, .int y :: .int x :: r, w) = some (n, lv, .int v :: r, w) := by
  subst hv
  exact zz_fI_eq (x + y) (fun z => some ((n, lv, Value.int z :: r, w) : zz_F))
theorem ze_isub {x : Int32} {y : Int32} {v : Int32} (hv : x - y = v) : za_isub n K (p, lv, .int y :: .int x :: r, w) = some (n, lv, .int v :: r, w) := by
  subst hv
  exact zz_fI_eq (x - y) (fun z => some ((n, lv, Value.int z :: r, w) : zz_F))
theorem ze_imul {x : Int32} {y : Int32} {v : Int32} (hv : x * y = v) : za_imul n K (p, lv, .int y :: .int x :: r, w) = some (n, lv, .int v :: r, w) := by
  subst hv
  exact zz_fI_eq (x * y) (fun z => some ((n, lv, Value.int z :: r, w) : zz_F))
theorem ze_iand {x : Int32} {y : Int32} {v : Int32} (hv : x &&& y = v) : za_iand n K (p, lv, .int y :: .int x :: r, w) = some (n, lv, .int v :: r, w) := by
  subst hv
  exact zz_fI_eq (x &&& y) (fun z => some ((n, lv, Value.int z :: r, w) : zz_F))
theorem ze_ior {x : Int32} {y : Int32} {v : Int32} (hv : x ||| y = v) : za_ior n K (p, lv, .int y :: .int x :: r, w) = some (n, lv, .int v :: r, w) := by
  subst hv
  exact zz_fI_eq (x ||| y) (fun z => some ((n, lv, Value.int z :: r, w) : zz_F))
theorem ze_ixor {x : Int32} {y : Int32} {v : Int32} (hv : x ^^^ y = v) : za_ixor n K (p, lv, .int y :: .int x :: r, w) = some (n, lv, .int v :: r, w) := by
  subst hv
  exact zz_fI_eq (x ^^^ y) (fun z => some ((n, lv, Value.int z :: r, w) : zz_F))
theorem ze_ishl {x : Int32} {y : Int32} {v : Int32} (hv : x <<< (y &&& 31) = v) : za_ishl n K (p, lv, .int y :: .int x :: r, w) = some (n, lv, .int v :: r, w) := by
  subst hv
  exact zz_fI_eq (x <<< (y &&& 31)) (fun z => some ((n, lv, Value.int z :: r, w) : zz_F))
theorem ze_ishr {x : Int32} {y : Int32} {v : Int32} (hv : x >>> (y &&& 31) = v) : za_ishr n K (p, lv, .int y :: .int x :: r, w) = some (n, lv, .int v :: r, w) := by
  subst hv
  exact zz_fI_eq (x >>> (y &&& 31)) (fun z => some ((n, lv, Value.int z :: r, w) : zz_F))
theorem ze_iushr {x : Int32} {y : Int32} {v : Int32} (hv : (x.toUInt32 >>> (y.toUInt32 &&& Int32.toUInt32 31)).toInt32 = v) : za_iushr n K (p, lv, .int y :: .int x :: r, w) = some (n, lv, .int v :: r, w) := by
  subst hv
  exact zz_fI_eq ((x.toUInt32 >>> (y.toUInt32 &&& Int32.toUInt32 31)).toInt32) (fun z => some ((n, lv, Value.int z :: r, w) : zz_F))
theorem ze_idiv {x : Int32} {y : Int32} {v : Int32} (hy : ¬ y = 0) (hv : x / y = v) : za_idiv n K (p, lv, .int y :: .int x :: r, w) = some (n, lv, .int v :: r, w) := by
  subst hv
  exact (if_neg hy).trans (zz_fI_eq (x / y) (fun z => some ((n, lv, Value.int z :: r, w) : zz_F)))
theorem ze_irem {x : Int32} {y : Int32} {v : Int32} (hy : ¬ y = 0) (hv : x - x / y * y = v) : za_irem n K (p, lv, .int y :: .int x :: r, w) = some (n, lv, .int v :: r, w) := by
  subst hv
  exact (if_neg hy).trans (zz_fI_eq (x - x / y * y) (fun z => some ((n, lv, Value.int z :: r, w) : zz_F)))
theorem ze_ladd {x : Int64} {y : Int64} {v : Int64} (hv : x + y = v) : za_ladd n K (p, lv, .long y :: .long x :: r, w) = some (n, lv, .long v :: r, w) := by
  subst hv
  exact zz_fL_eq (x + y) (fun z => some ((n, lv, Value.long z :: r, w) : zz_F))
theorem ze_lsub {x : Int64} {y : Int64} {v : Int64} (hv : x - y = v) : za_lsub n K (p, lv, .long y :: .long x :: r, w) = some (n, lv, .long v :: r, w) := by
  subst hv
  exact zz_fL_eq (x - y) (fun z => some ((n, lv, Value.long z :: r, w) : zz_F))
theorem ze_lmul {x : Int64} {y : Int64} {v : Int64} (hv : x * y = v) : za_lmul n K (p, lv, .long y :: .long x :: r, w) = some (n, lv, .long v :: r, w) := by
  subst hv
  exact zz_fL_eq (x * y) (fun z => some ((n, lv, Value.long z :: r, w) : zz_F))
theorem ze_land {x : Int64} {y : Int64} {v : Int64} (hv : x &&& y = v) : za_land n K (p, lv, .long y :: .long x :: r, w) = some (n, lv, .long v :: r, w) := by
  subst hv
  exact zz_fL_eq (x &&& y) (fun z => some ((n, lv, Value.long z :: r, w) : zz_F))
theorem ze_lor {x : Int64} {y : Int64} {v : Int64} (hv : x ||| y = v) : za_lor n K (p, lv, .long y :: .long x :: r, w) = some (n, lv, .long v :: r, w) := by
  subst hv
  exact zz_fL_eq (x ||| y) (fun z => some ((n, lv, Value.long z :: r, w) : zz_F))
theorem ze_lxor {x : Int64} {y : Int64} {v : Int64} (hv : x ^^^ y = v) : za_lxor n K (p, lv, .long y :: .long x :: r, w) = some (n, lv, .long v :: r, w) := by
  subst hv
  exact zz_fL_eq (x ^^^ y) (fun z => some ((n, lv, Value.long z :: r, w) : zz_F))
theorem ze_ldiv {x : Int64} {y : Int64} {v : Int64} (hy : ¬ y = 0) (hv : x / y = v) : za_ldiv n K (p, lv, .long y :: .long x :: r, w) = some (n, lv, .long v :: r, w) := by
  subst hv
  exact (if_neg hy).trans (zz_fL_eq (x / y) (fun z => some ((n, lv, Value.long z :: r, w) : zz_F)))
theorem ze_lrem {x : Int64} {y : Int64} {v : Int64} (hy : ¬ y = 0) (hv : x - x / y * y = v) : za_lrem n K (p, lv, .long y :: .long x :: r, w) = some (n, lv, .long v :: r, w) := by
  subst hv
  exact (if_neg hy).trans (zz_fL_eq (x - x / y * y) (fun z => some ((n, lv, Value.long z :: r, w) : zz_F)))
theorem ze_lshl {x : Int64} {y : Int32} {v : Int64} (hv : x <<< (y.toInt64 &&& 63) = v) : za_lshl n K (p, lv, .int y :: .long x :: r, w) = some (n, lv, .long v :: r, w) := by
  subst hv
  exact zz_fL_eq (x <<< (y.toInt64 &&& 63)) (fun z => some ((n, lv, Value.long z :: r, w) : zz_F))
theorem ze_lshr {x : Int64} {y : Int32} {v : Int64} (hv : x >>> (y.toInt64 &&& 63) = v) : za_lshr n K (p, lv, .int y :: .long x :: r, w) = some (n, lv, .long v :: r, w) := by
  subst hv
  exact zz_fL_eq (x >>> (y.toInt64 &&& 63)) (fun z => some ((n, lv, Value.long z :: r, w) : zz_F))
theorem ze_lushr {x : Int64} {y : Int32} {v : Int64} (hv : (x.toUInt64 >>> (y.toInt64.toUInt64 &&& Int64.toUInt64 63)).toInt64 = v) : za_lushr n K (p, lv, .int y :: .long x :: r, w) = some (n, lv, .long v :: r, w) := by
  subst hv
  exact zz_fL_eq ((x.toUInt64 >>> (y.toInt64.toUInt64 &&& Int64.toUInt64 63)).toInt64) (fun z => some ((n, lv, Value.long z :: r, w) : zz_F))
theorem ze_lcmp {x : Int64} {y : Int64} {v : Int32} (hv : lg_cmp x y = v) : za_lcmp n K (p, lv, .long y :: .long x :: r, w) = some (n, lv, .int v :: r, w) := by
  subst hv
  exact zz_fI_eq (lg_cmp x y) (fun z => some ((n, lv, Value.int z :: r, w) : zz_F))
theorem ze_ineg {x : Int32} {v : Int32} (hv : -x = v) : za_ineg n K (p, lv, .int x :: r, w) = some (n, lv, .int v :: r, w) := by
  subst hv
  exact zz_fI_eq (-x) (fun z => some ((n, lv, Value.int z :: r, w) : zz_F))
theorem ze_i2b {x : Int32} {v : Int32} (hv : x.toInt8.toInt32 = v) : za_i2b n K (p, lv, .int x :: r, w) = some (n, lv, .int v :: r, w) := by
  subst hv
  exact zz_fI_eq (x.toInt8.toInt32) (fun z => some ((n, lv, Value.int z :: r, w) : zz_F))
theorem ze_i2s {x : Int32} {v : Int32} (hv : x.toInt16.toInt32 = v) : za_i2s n K (p, lv, .int x :: r, w) = some (n, lv, .int v :: r, w) := by
  subst hv
  exact zz_fI_eq (x.toInt16.toInt32) (fun z => some ((n, lv, Value.int z :: r, w) : zz_F))
theorem ze_i2c {x : Int32} {v : Int32} (hv : (x.toUInt32 % 65536).toInt32 = v) : za_i2c n K (p, lv, .int x :: r, w) = some (n, lv, .int v :: r, w) := by
  subst hv
  exact zz_fI_eq ((x.toUInt32 % 65536).toInt32) (fun z => some ((n, lv, Value.int z :: r, w) : zz_F))
theorem ze_i2l {x : Int32} {v : Int64} (hv : x.toInt64 = v) : za_i2l n K (p, lv, .int x :: r, w) = some (n, lv, .long v :: r, w) := by
  subst hv
  exact zz_fL_eq (x.toInt64) (fun z => some ((n, lv, Value.long z :: r, w) : zz_F))
theorem ze_l2i {x : Int64} {v : Int32} (hv : x.toInt32 = v) : za_l2i n K (p, lv, .long x :: r, w) = some (n, lv, .int v :: r, w) := by
  subst hv
  exact zz_fI_eq (x.toInt32) (fun z => some ((n, lv, Value.int z :: r, w) : zz_F))
theorem ze_lneg {x : Int64} {v : Int64} (hv : -x = v) : za_lneg n K (p, lv, .long x :: r, w) = some (n, lv, .long v :: r, w) := by
  subst hv
  exact zz_fL_eq (-x) (fun z => some ((n, lv, Value.long z :: r, w) : zz_F))
theorem ze_const {v : Value} : za_const v n K (p, lv, r, w) = some (n, lv, v :: r, w) := rfl
theorem ze_goto : za_goto n K (p, lv, r, w) = some (n, lv, r, w) := rfl
theorem ze_iload {i : Nat} {v : Int32} (h : zz_lg lv i = some (.int v)) : za_iload i n K (p, lv, r, w) = some (n, lv, .int v :: r, w) := by
  unfold za_iload
  show (match zz_lg lv i with | some (.int v) => some (n, lv, Value.int v :: r, w) | _ => none) = _
  rw [h]
theorem ze_lload {i : Nat} {v : Int64} (h : zz_lg lv i = some (.long v)) : za_lload i n K (p, lv, r, w) = some (n, lv, .long v :: r, w) := by
  unfold za_lload
  show (match zz_lg lv i with | some (.long v) => some (n, lv, Value.long v :: r, w) | _ => none) = _
  rw [h]
theorem ze_aload {i b : Nat} (h : zz_lg lv i = some (.ref b)) : za_aload i n K (p, lv, r, w) = some (n, lv, .ref b :: r, w) := by
  unfold za_aload
  show (match zz_lg lv i with | some (.ref v) => some (n, lv, Value.ref v :: r, w) | some .null => some (n, lv, Value.null :: r, w) | _ => none) = _
  rw [h]
theorem ze_aloadN {i : Nat} (h : zz_lg lv i = some .null) : za_aload i n K (p, lv, r, w) = some (n, lv, .null :: r, w) := by
  unfold za_aload
  show (match zz_lg lv i with | some (.ref v) => some (n, lv, Value.ref v :: r, w) | some .null => some (n, lv, Value.null :: r, w) | _ => none) = _
  rw [h]
theorem ze_istore {i : Nat} {v : Int32} {lv' : List (Nat × Value)} (h : lv.filter (zz_lk false i) = lv') : za_istore i n K (p, lv, .int v :: r, w) = some (n, (i, .int v) :: lv', r, w) := by
  subst h
  exact zz_lf_eq _ _ _ _
theorem ze_lstore {i : Nat} {v : Int64} {lv' : List (Nat × Value)} (h : lv.filter (zz_lk true i) = lv') : za_lstore i n K (p, lv, .long v :: r, w) = some (n, (i, .long v) :: lv', r, w) := by
  subst h
  exact zz_lf_eq _ _ _ _
theorem ze_astore {i b : Nat} {lv' : List (Nat × Value)} (h : lv.filter (zz_lk false i) = lv') : za_astore i n K (p, lv, .ref b :: r, w) = some (n, (i, .ref b) :: lv', r, w) := by
  subst h
  exact zz_lf_eq _ _ _ _
theorem ze_iinc {i : Nat} {x c v : Int32} {lv' : List (Nat × Value)} (hx : zz_lg lv i = some (.int x)) (hv : x + c = v) (h : lv.filter (zz_lk false i) = lv') : za_iinc i c n K (p, lv, r, w) = some (n, (i, .int v) :: lv', r, w) := by
  subst h
  subst hv
  unfold za_iinc
  show (match zz_lg lv i with | some (.int x) => zz_fI (x + c) (fun z => zz_lf false i lv (fun l => some ((n, (i, Value.int z) :: l, r, w) : zz_F))) | _ => none) = _
  rw [hx]
  show zz_fI (x + c) (fun z => zz_lf false i lv (fun l => some ((n, (i, Value.int z) :: l, r, w) : zz_F))) = _
  rw [zz_fI_eq, zz_lf_eq]
theorem ze_if_eq_t {t : Nat} {x : Int32} (h : x = 0) : za_if_eq t n K (p, lv, .int x :: r, w) = some (t, lv, r, w) := if_pos h
theorem ze_if_eq_f {t : Nat} {x : Int32} (h : ¬ (x = 0)) : za_if_eq t n K (p, lv, .int x :: r, w) = some (n, lv, r, w) := if_neg h
theorem ze_if_ne_t {t : Nat} {x : Int32} (h : ¬ x = 0) : za_if_ne t n K (p, lv, .int x :: r, w) = some (t, lv, r, w) := if_pos h
theorem ze_if_ne_f {t : Nat} {x : Int32} (h : ¬ (¬ x = 0)) : za_if_ne t n K (p, lv, .int x :: r, w) = some (n, lv, r, w) := if_neg h
theorem ze_if_lt_t {t : Nat} {x : Int32} (h : x < 0) : za_if_lt t n K (p, lv, .int x :: r, w) = some (t, lv, r, w) := if_pos h
theorem ze_if_lt_f {t : Nat} {x : Int32} (h : ¬ (x < 0)) : za_if_lt t n K (p, lv, .int x :: r, w) = some (n, lv, r, w) := if_neg h
theorem ze_if_ge_t {t : Nat} {x : Int32} (h : 0 ≤ x) : za_if_ge t n K (p, lv, .int x :: r, w) = some (t, lv, r, w) := if_pos h
theorem ze_if_ge_f {t : Nat} {x : Int32} (h : ¬ (0 ≤ x)) : za_if_ge t n K (p, lv, .int x :: r, w) = some (n, lv, r, w) := if_neg h
theorem ze_if_gt_t {t : Nat} {x : Int32} (h : 0 < x) : za_if_gt t n K (p, lv, .int x :: r, w) = some (t, lv, r, w) := if_pos h
theorem ze_if_gt_f {t : Nat} {x : Int32} (h : ¬ (0 < x)) : za_if_gt t n K (p, lv, .int x :: r, w) = some (n, lv, r, w) := if_neg h
theorem ze_if_le_t {t : Nat} {x : Int32} (h : x ≤ 0) : za_if_le t n K (p, lv, .int x :: r, w) = some (t, lv, r, w) := if_pos h
theorem ze_if_le_f {t : Nat} {x : Int32} (h : ¬ (x ≤ 0)) : za_if_le t n K (p, lv, .int x :: r, w) = some (n, lv, r, w) := if_neg h
theorem ze_icmp_eq_t {t : Nat} {x y : Int32} (h : x = y) : za_icmp_eq t n K (p, lv, .int y :: .int x :: r, w) = some (t, lv, r, w) := if_pos h
theorem ze_icmp_eq_f {t : Nat} {x y : Int32} (h : ¬ (x = y)) : za_icmp_eq t n K (p, lv, .int y :: .int x :: r, w) = some (n, lv, r, w) := if_neg h
theorem ze_icmp_ne_t {t : Nat} {x y : Int32} (h : ¬ x = y) : za_icmp_ne t n K (p, lv, .int y :: .int x :: r, w) = some (t, lv, r, w) := if_pos h
theorem ze_icmp_ne_f {t : Nat} {x y : Int32} (h : ¬ (¬ x = y)) : za_icmp_ne t n K (p, lv, .int y :: .int x :: r, w) = some (n, lv, r, w) := if_neg h
theorem ze_icmp_lt_t {t : Nat} {x y : Int32} (h : x < y) : za_icmp_lt t n K (p, lv, .int y :: .int x :: r, w) = some (t, lv, r, w) := if_pos h
theorem ze_icmp_lt_f {t : Nat} {x y : Int32} (h : ¬ (x < y)) : za_icmp_lt t n K (p, lv, .int y :: .int x :: r, w) = some (n, lv, r, w) := if_neg h
theorem ze_icmp_ge_t {t : Nat} {x y : Int32} (h : y ≤ x) : za_icmp_ge t n K (p, lv, .int y :: .int x :: r, w) = some (t, lv, r, w) := if_pos h
theorem ze_icmp_ge_f {t : Nat} {x y : Int32} (h : ¬ (y ≤ x)) : za_icmp_ge t n K (p, lv, .int y :: .int x :: r, w) = some (n, lv, r, w) := if_neg h
theorem ze_icmp_gt_t {t : Nat} {x y : Int32} (h : y < x) : za_icmp_gt t n K (p, lv, .int y :: .int x :: r, w) = some (t, lv, r, w) := if_pos h
theorem ze_icmp_gt_f {t : Nat} {x y : Int32} (h : ¬ (y < x)) : za_icmp_gt t n K (p, lv, .int y :: .int x :: r, w) = some (n, lv, r, w) := if_neg h
theorem ze_icmp_le_t {t : Nat} {x y : Int32} (h : x ≤ y) : za_icmp_le t n K (p, lv, .int y :: .int x :: r, w) = some (t, lv, r, w) := if_pos h
theorem ze_icmp_le_f {t : Nat} {x y : Int32} (h : ¬ (x ≤ y)) : za_icmp_le t n K (p, lv, .int y :: .int x :: r, w) = some (n, lv, r, w) := if_neg h
theorem ze_ifnull_f {t b : Nat} : za_ifnull t n K (p, lv, .ref b :: r, w) = some (n, lv, r, w) := rfl
theorem ze_ifnull_t {t : Nat} : za_ifnull t n K (p, lv, .null :: r, w) = some (t, lv, r, w) := rfl
theorem ze_ifnonnull_t {t b : Nat} : za_ifnonnull t n K (p, lv, .ref b :: r, w) = some (t, lv, r, w) := rfl
theorem ze_ifnonnull_f {t : Nat} : za_ifnonnull t n K (p, lv, .null :: r, w) = some (n, lv, r, w) := rfl
theorem ze_dup {v : Value} (h : v.category = 1) : za_dup n K (p, lv, v :: r, w) = some (n, lv, v :: v :: r, w) := if_pos h
theorem ze_pop {v : Value} (h : v.category = 1) : za_pop n K (p, lv, v :: r, w) = some (n, lv, r, w) := if_pos h
theorem ze_dup_x1 {v u : Value} (h : v.category = 1 ∧ u.category = 1) : za_dup_x1 n K (p, lv, v :: u :: r, w) = some (n, lv, v :: u :: v :: r, w) := if_pos h
theorem ze_dup2_11 {v u : Value} (h : v.category = 1 ∧ u.category = 1) : za_dup2_11 n K (p, lv, v :: u :: r, w) = some (n, lv, v :: u :: v :: u :: r, w) := if_pos h
theorem ze_dup2_2 {v : Value} (h : v.category = 2) : za_dup2_2 n K (p, lv, v :: r, w) = some (n, lv, v :: v :: r, w) := if_pos h
theorem ze_tsw_d {lo hi : Int} {dt : Nat} {ts : List Nat} {x : Int32} (h : x.toInt < lo ∨ hi < x.toInt) : za_tsw lo hi dt ts K (p, lv, .int x :: r, w) = some (dt, lv, r, w) := if_pos h
theorem ze_tsw_k {lo hi : Int} {dt t : Nat} {ts : List Nat} {x : Int32} (h : ¬ (x.toInt < lo ∨ hi < x.toInt)) (h2 : ts[(x.toInt - lo).toNat]? = some t) : za_tsw lo hi dt ts K (p, lv, .int x :: r, w) = some (t, lv, r, w) := by
  unfold za_tsw
  show (if x.toInt < lo ∨ hi < x.toInt then some (dt, lv, r, w) else match ts[(x.toInt - lo).toNat]? with | some t => some (t, lv, r, w) | none => none) = _
  rw [if_neg h, h2]
theorem ze_lsw {g : Int → Option Nat} {t : Nat} {x : Int32} (h : g x.toInt = some t) : za_lsw g K (p, lv, .int x :: r, w) = some (t, lv, r, w) := by
  unfold za_lsw
  show (match g x.toInt with | some t => some (t, lv, r, w) | none => none) = _
  rw [h]
theorem ze_getI {ci k i nf N : Nat} {v : Int32} (h : zz_has w i (3, ci, nf, N)) (hk : k < nf) (hv : Int32.ofNat (zz_at 64 N k) = v) : za_getI ci k n K (p, lv, .ref i :: r, w) = some (n, lv, .int v :: r, w) := by
  subst hv
  unfold za_getI
  show cond (zz_io w i ci k) (zz_fN (zz_at 64 (zz_g w i).2.2.2 k) (fun v => some ((n, lv, Value.int (Int32.ofNat v) :: r, w) : zz_F))) none = _
  rw [zz_has_o h hk, h.2.2, zz_fN_eq]
  rfl
theorem ze_getL {ci k i nf N : Nat} {v : Int64} (h : zz_has w i (3, ci, nf, N)) (hk : k < nf) (hv : Int64.ofNat (zz_at 64 N k) = v) : za_getL ci k n K (p, lv, .ref i :: r, w) = some (n, lv, .long v :: r, w) := by
  subst hv
  unfold za_getL
  show cond (zz_io w i ci k) (zz_fN (zz_at 64 (zz_g w i).2.2.2 k) (fun v => some ((n, lv, Value.long (Int64.ofNat v) :: r, w) : zz_F))) none = _
  rw [zz_has_o h hk, h.2.2, zz_fN_eq]
  rfl
theorem ze_getA {ci k i nf N b : Nat} (h : zz_has w i (3, ci, nf, N)) (hk : k < nf) (hv : zz_at 64 N k = b + 1) : za_getA ci k n K (p, lv, .ref i :: r, w) = some (n, lv, .ref b :: r, w) := by
  unfold za_getA
  show cond (zz_io w i ci k) (Nat.casesOn (zz_at 64 (zz_g w i).2.2.2 k) (some ((n, lv, Value.null :: r, w) : zz_F)) (fun v => some ((n, lv, Value.ref v :: r, w) : zz_F))) none = _
  rw [zz_has_o h hk, h.2.2]
  show (Nat.casesOn (zz_at 64 N k) (some ((n, lv, Value.null :: r, w) : zz_F)) (fun v => some ((n, lv, Value.ref v :: r, w) : zz_F)) : Option zz_F) = _
  rw [hv]
theorem ze_getAN {ci k i nf N : Nat} (h : zz_has w i (3, ci, nf, N)) (hk : k < nf) (hv : zz_at 64 N k = 0) : za_getA ci k n K (p, lv, .ref i :: r, w) = some (n, lv, .null :: r, w) := by
  unfold za_getA
  show cond (zz_io w i ci k) (Nat.casesOn (zz_at 64 (zz_g w i).2.2.2 k) (some ((n, lv, Value.null :: r, w) : zz_F)) (fun v => some ((n, lv, Value.ref v :: r, w) : zz_F))) none = _
  rw [zz_has_o h hk, h.2.2]
  show (Nat.casesOn (zz_at 64 N k) (some ((n, lv, Value.null :: r, w) : zz_F)) (fun v => some ((n, lv, Value.ref v :: r, w) : zz_F)) : Option zz_F) = _
  rw [hv]
  rfl
theorem zz_pf_eq {i ci nf N k x : Nat} {kk : zz_W → Option zz_F} (hs : zz_sh w) (h : zz_has w i (3, ci, nf, N)) (hk : k < nf) : zz_pf w i ci k x kk = kk (zz_up w i (3, ci, nf, zz_to 64 N k x)) := by
  unfold zz_pf
  rw [zz_has_o h hk, h.2.2, zz_fN_eq, zz_up_st hs h.2.1]
  rfl
theorem zz_pr_eq {i kd t len N b j x : Nat} {kk : zz_W → Option zz_F} (hs : zz_sh w) (h : zz_has w i (kd, t, len, N)) (hj : j < len) (hl : len ≤ 2147483648) : zz_pr w i kd t b j x kk = kk (zz_up w i (kd, t, len, zz_to b N j x)) := by
  unfold zz_pr
  rw [zz_has_r h hj hl, h.2.2, zz_fN_eq, zz_up_st hs h.2.1]
  rfl
theorem ze_putI {ci k i nf N : Nat} {x : Int32} (hs : zz_sh w) (h : zz_has w i (3, ci, nf, N)) (hk : k < nf) : za_putI ci k n K (p, lv, .int x :: .ref i :: r, w) = some (n, lv, r, zz_up w i (3, ci, nf, zz_to 64 N k (zz_nI x))) := zz_pf_eq hs h hk
theorem ze_putL {ci k i nf N : Nat} {x : Int64} (hs : zz_sh w) (h : zz_has w i (3, ci, nf, N)) (hk : k < nf) : za_putL ci k n K (p, lv, .long x :: .ref i :: r, w) = some (n, lv, r, zz_up w i (3, ci, nf, zz_to 64 N k (zz_nL x))) := zz_pf_eq hs h hk
theorem ze_putZ {ci k i nf N : Nat} {x : Int32} (hs : zz_sh w) (h : zz_has w i (3, ci, nf, N)) (hk : k < nf) (hx : zz_nI x < 2) : za_putZ ci k n K (p, lv, .int x :: .ref i :: r, w) = some (n, lv, r, zz_up w i (3, ci, nf, zz_to 64 N k (zz_nI x))) := by
  unfold za_putZ
  show cond (Nat.blt (zz_nI x) 2) (zz_pf w i ci k (zz_nI x) (fun w => some ((n, lv, r, w) : zz_F))) none = _
  rw [show Nat.blt (zz_nI x) 2 = true from Nat.ble_eq.mpr hx]
  exact zz_pf_eq hs h hk
theorem ze_putA {ci k i nf N b : Nat} (hs : zz_sh w) (h : zz_has w i (3, ci, nf, N)) (hk : k < nf) (hb : b < 4000000) : za_putA ci k n K (p, lv, .ref b :: .ref i :: r, w) = some (n, lv, r, zz_up w i (3, ci, nf, zz_to 64 N k (b + 1))) := by
  unfold za_putA
  show cond (Nat.blt b 4000000) (zz_pf w i ci k (b + 1) (fun w => some ((n, lv, r, w) : zz_F))) none = _
  rw [show Nat.blt b 4000000 = true from Nat.ble_eq.mpr hb]
  exact zz_pf_eq hs h hk
theorem ze_aldI {t i len N : Nat} {j : Int32} {v : Int32} (h : zz_has w i (0, t, len, N)) (hj : zz_nI j < len) (hl : len ≤ 2147483648) (hv : Int32.ofNat (zz_at 32 N (zz_nI j)) = v) : za_aldI t n K (p, lv, .int j :: .ref i :: r, w) = some (n, lv, .int v :: r, w) := by
  subst hv
  unfold za_aldI
  show cond (zz_ir w i 0 t (zz_nI j)) (zz_fN (zz_at 32 (zz_g w i).2.2.2 (zz_nI j)) (fun v => some ((n, lv, Value.int (Int32.ofNat v) :: r, w) : zz_F))) none = _
  rw [zz_has_r h hj hl, h.2.2, zz_fN_eq]
  rfl
theorem ze_aldL {t i len N : Nat} {j : Int32} {v : Int64} (h : zz_has w i (1, t, len, N)) (hj : zz_nI j < len) (hl : len ≤ 2147483648) (hv : Int64.ofNat (zz_at 64 N (zz_nI j)) = v) : za_aldL t n K (p, lv, .int j :: .ref i :: r, w) = some (n, lv, .long v :: r, w) := by
  subst hv
  unfold za_aldL
  show cond (zz_ir w i 1 t (zz_nI j)) (zz_fN (zz_at 64 (zz_g w i).2.2.2 (zz_nI j)) (fun v => some ((n, lv, Value.long (Int64.ofNat v) :: r, w) : zz_F))) none = _
  rw [zz_has_r h hj hl, h.2.2, zz_fN_eq]
  rfl
theorem ze_aldA {t i len N b : Nat} {j : Int32} (h : zz_has w i (2, t, len, N)) (hj : zz_nI j < len) (hl : len ≤ 2147483648) (hv : zz_at 32 N (zz_nI j) = b + 1) : za_aldA t n K (p, lv, .int j :: .ref i :: r, w) = some (n, lv, .ref b :: r, w) := by
  unfold za_aldA
  show cond (zz_ir w i 2 t (zz_nI j)) (Nat.casesOn (zz_at 32 (zz_g w i).2.2.2 (zz_nI j)) (some ((n, lv, Value.null :: r, w) : zz_F)) (fun v => some ((n, lv, Value.ref v :: r, w) : zz_F))) none = _
  rw [zz_has_r h hj hl, h.2.2]
  show (Nat.casesOn (zz_at 32 N (zz_nI j)) (some ((n, lv, Value.null :: r, w) : zz_F)) (fun v => some ((n, lv, Value.ref v :: r, w) : zz_F)) : Option zz_F) = _
  rw [hv]
theorem ze_alen {t i kd len N : Nat} {v : Int32} (h : zz_has w i (kd, t, len, N)) (hk : kd < 3) (hv : Int32.ofNat len = v) : za_alen t n K (p, lv, .ref i :: r, w) = some (n, lv, .int v :: r, w) := by
  subst hv
  obtain ⟨b1, b2⟩ := zz_has_b h
  unfold za_alen
  show cond (Nat.blt i w.1 && (Nat.blt i 1000000 && (Nat.blt (zz_g w i).1 3 && Nat.beq (zz_g w i).2.1 t))) (zz_fN (zz_g w i).2.2.1 (fun v => some ((n, lv, Value.int (Int32.ofNat v) :: r, w) : zz_F))) none = _
  rw [b1, b2, h.2.2, zz_fN_eq]
  show cond (true && (true && (Nat.blt kd 3 && Nat.beq t t))) (some ((n, lv, Value.int (Int32.ofNat len) :: r, w) : zz_F)) none = _
  rw [Nat.beq_refl t, show Nat.blt kd 3 = true from Nat.ble_eq.mpr hk]
  rfl
theorem ze_astI {t i len N : Nat} {j x : Int32} (hs : zz_sh w) (h : zz_has w i (0, t, len, N)) (hj : zz_nI j < len) (hl : len ≤ 2147483648) : za_astI t n K (p, lv, .int x :: .int j :: .ref i :: r, w) = some (n, lv, r, zz_up w i (0, t, len, zz_to 32 N (zz_nI j) (zz_nI x))) := zz_pr_eq hs h hj hl
theorem ze_astB {t i len N : Nat} {j x : Int32} (hs : zz_sh w) (h : zz_has w i (0, t, len, N)) (hj : zz_nI j < len) (hl : len ≤ 2147483648) : za_astB t n K (p, lv, .int x :: .int j :: .ref i :: r, w) = some (n, lv, r, zz_up w i (0, t, len, zz_to 32 N (zz_nI j) (zz_nI x.toInt8.toInt32))) := zz_pr_eq hs h hj hl
theorem ze_astL {t i len N : Nat} {x : Int64} {j : Int32} (hs : zz_sh w) (h : zz_has w i (1, t, len, N)) (hj : zz_nI j < len) (hl : len ≤ 2147483648) : za_astL t n K (p, lv, .long x :: .int j :: .ref i :: r, w) = some (n, lv, r, zz_up w i (1, t, len, zz_to 64 N (zz_nI j) (zz_nL x))) := zz_pr_eq hs h hj hl
theorem ze_kl {g : Nat → Nat → Option Nat} {i : Nat} {j v : Int32} {q : Nat} (h : g i (zz_nI j) = some q) (hv : Int32.ofNat q = v) : za_kl g n K (p, lv, .int j :: .ref i :: r, w) = some (n, lv, .int v :: r, w) := by
  subst hv
  unfold za_kl
  show (match g i (zz_nI j) with | some v => zz_fN v (fun v => some ((n, lv, Value.int (Int32.ofNat v) :: r, w) : zz_F)) | none => none) = _
  rw [h]
  exact zz_fN_eq _ _
theorem ze_kn {g : Nat → Option Nat} {i : Nat} {v : Int32} {q : Nat} (h : g i = some q) (hv : Int32.ofNat q = v) : za_kn g n K (p, lv, .ref i :: r, w) = some (n, lv, .int v :: r, w) := by
  subst hv
  unfold za_kn
  show (match g i with | some v => zz_fN v (fun v => some ((n, lv, Value.int (Int32.ofNat v) :: r, w) : zz_F)) | none => none) = _
  rw [h]
  exact zz_fN_eq _ _
theorem ze_kf {g : Nat → Option Value} {i : Nat} {v : Value} (h : g i = some v) : za_kf g n K (p, lv, .ref i :: r, w) = some (n, lv, v :: r, w) := by
  unfold za_kf
  show (match g i with | some v => some ((n, lv, v :: r, w) : zz_F) | none => none) = _
  rw [h]
/-- a new cell -/
def zz_pu (w : zz_W) (c : zz_C) (N : Nat) : zz_W := (w.1 + 1, w.2.1 + N, (zz_up w w.1 c).2.2)
theorem zz_pu_sh {c : zz_C} {N : Nat} (h : zz_sh w) : zz_sh (zz_pu w c N) := zz_up_sh h
theorem zz_pu_g {c : zz_C} {N : Nat} (h : zz_sh w) (hi : w.1 < 1024) (j : Nat) : zz_g (zz_pu w c N) j = if j = w.1 then c else zz_g w j := zz_up_g h hi j
theorem zz_has_pu {c : zz_C} {N : Nat} (h : zz_sh w) (hi : w.1 < 1024) : zz_has (zz_pu w c N) w.1 c := ⟨Nat.lt_succ_self _, hi, by rw [zz_pu_g h hi, if_pos rfl]⟩
theorem zz_has_old {c c' : zz_C} {N i : Nat} (h : zz_sh w) (hi : w.1 < 1024) (hc : zz_has w i c') : zz_has (zz_pu w c N) i c' := ⟨Nat.lt_succ_of_lt hc.1, hc.2.1, by rw [zz_pu_g h hi, if_neg (Nat.ne_of_lt hc.1)]; exact hc.2.2⟩
theorem zz_nw_eq {c : zz_C} {N : Nat} {kk : zz_W → Option zz_F} (hs : zz_sh w) (hi : w.1 < 1024) : zz_nw w c N kk = kk (zz_pu w c N) := by
  unfold zz_nw
  rw [show Nat.blt w.1 1000000 = true from Nat.ble_eq.mpr (by omega), zz_up_st hs hi, zz_fN_eq, zz_fN_eq]
  rfl
theorem ze_newa {kd t q : Nat} {x : Int32} (hs : zz_sh w) (hi : w.1 < 1024) (hx : zz_nI x = q) (hq : q ≤ 1000000) : za_newa kd t n K (p, lv, .int x :: r, w) = some (n, lv, .ref w.1 :: r, zz_pu w (kd, t, q, 0) q) := by
  subst hx
  unfold za_newa
  show zz_fN (zz_nI x) (fun N => cond (Nat.ble N 1000000) (zz_nw w (kd, t, N, 0) N (fun w' => some ((n, lv, Value.ref w.1 :: r, w') : zz_F))) none) = _
  rw [zz_fN_eq, Nat.ble_eq.mpr hq]
  show zz_nw w (kd, t, zz_nI x, 0) (zz_nI x) (fun w' => some ((n, lv, Value.ref w.1 :: r, w') : zz_F)) = _
  exact zz_nw_eq hs hi
theorem ze_callV {ci y na b : Nat} {as st rv : List Value} {w' : zz_W} (hst : st = as.reverse ++ .ref b :: r) (hna : as.length = na) (hb : zz_ic w b ci = true) (hr : zz_cs r ≤ 8) (hrv : rv.length ≤ 1) (hK : K y (.ref b :: as) w = some (rv, w')) : za_callV ci y na n K (p, lv, st, w) = some (n, lv, rv ++ r, w') := by
  subst hst
  unfold za_callV
  show zz_tk na (as.reverse ++ .ref b :: r) [] _ = _
  rw [zz_tk_eq hna]
  show cond (zz_ic w b ci && Nat.ble (zz_cs r) 8) (zz_cr n lv r (K y (.ref b :: (as ++ [])) w)) none = _
  rw [List.append_nil, hb, Nat.ble_eq.mpr hr, hK]
  exact zz_cr_eq hrv
theorem ze_callS {y na : Nat} {as st rv : List Value} {w' : zz_W} (hst : st = as.reverse ++ r) (hna : as.length = na) (hr : zz_cs r ≤ 8) (hrv : rv.length ≤ 1) (hK : K y as w = some (rv, w')) : za_callS y na n K (p, lv, st, w) = some (n, lv, rv ++ r, w') := by
  subst hst
  unfold za_callS
  show zz_tk na (as.reverse ++ r) [] _ = _
  rw [zz_tk_eq hna]
  show cond (Nat.ble (zz_cs r) 8) (zz_cr n lv r (K y (as ++ []) w)) none = _
  rw [List.append_nil, Nat.ble_eq.mpr hr, hK]
  exact zz_cr_eq hrv
end ZE
