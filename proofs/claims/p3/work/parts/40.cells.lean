/-! FIELDS, ROWS, NEW CELLS: the instructions that touch cells are sound. -/
theorem zz_cond {α : Type} {b : Bool} {x : Option α} {y : α} (h : cond b x none = some y) : b = true ∧ x = some y := by
  cases b with
  | false => cases h
  | true => exact ⟨rfl, h⟩
theorem zz_and {a b : Bool} (h : (a && b) = true) : a = true ∧ b = true := by
  cases a <;> cases b <;> first | exact ⟨rfl, rfl⟩ | cases h
theorem zz_blt {a b : Nat} (h : Nat.blt a b = true) : a < b := Nat.le_of_ble_eq_true h
theorem zz_ble {a b : Nat} (h : Nat.ble a b = true) : a ≤ b := Nat.le_of_ble_eq_true h
theorem zz_beq {a b : Nat} (h : Nat.beq a b = true) : a = b := Nat.eq_of_beq_eq_true h
theorem zz_idx {j : Int32} {n : Nat} (h : zz_nI j < n) (hn : n ≤ 2147483648) : vp_in j n ∧ j.toNatClampNeg = zz_nI j := by
  have h1 : zz_nI j < 2 ^ 31 := by omega
  have e : j = nI (zz_nI j) := (zz_nI_of j).symm
  have h2 : j.toNatClampNeg = zz_nI j := by
    conv => lhs; rw [e]
    exact nI_clamp h1
  refine ⟨?_, h2⟩
  unfold vp_in
  rw [h2]
  intro q
  rcases q with q | q
  · rw [e] at q
    exact nI_pos h1 q
  · omega
theorem zz_rm {z0 : Nat} {sp : Nat → Nat} {i : Nat} (h : i < 1000000) : zz_r z0 sp i = zz_ad z0 sp i := if_pos h
theorem zz_v_ref {z0 : Nat} {sp : Nat → Nat} {i : Nat} (h : i < 1000000) : zz_v z0 sp (.ref i) = .ref (zz_ad z0 sp i) := by
  show Value.ref (zz_r z0 sp i) = _
  rw [zz_rm h]
theorem zz_v_av (z0 : Nat) (sp : Nat → Nat) (n : Nat) : zz_v z0 sp (zz_av 2 n) = va_rf (zz_o z0 sp n) := by
  unfold zz_av zz_o
  rw [if_neg (by decide), if_neg (by decide)]
  by_cases h : n = 0
  · rw [if_pos h, if_pos h]; rfl
  · rw [if_neg h, if_neg h]; rfl
theorem zz_rng_get {n k : Nat} {g : Nat → Value} (h : k < n) : ((List.range n).map g)[k]? = some (g k) := by
  rw [List.getElem?_map, List.getElem?_range h]; rfl
theorem zz_rng_set {n k : Nat} {g g' : Nat → Value} (h : ∀ j, j ≠ k → g' j = g j) : (List.range n).map g' = ((List.range n).map g).set k (g' k) := by
  apply List.ext_getElem?
  intro j
  by_cases hj : j < n
  · rw [zz_rng_get hj]
    by_cases hk : j = k
    · subst hk
      rw [List.getElem?_set_self (by simpa using hj)]
    · rw [List.getElem?_set_ne (Ne.symm hk), zz_rng_get hj, h j hk]
  · rw [List.getElem?_eq_none (by simpa using hj), List.getElem?_eq_none (by simpa using hj)]
/-- of what kind a cell is: an object of class ci that has a field k -/
def zz_io (w : zz_W) (i ci k : Nat) : Bool := Nat.blt i w.1 && (Nat.blt i 1000000 && (Nat.beq (zz_g w i).1 3 && (Nat.beq (zz_g w i).2.1 ci && Nat.blt k (zz_g w i).2.2.1)))
theorem zz_io_ok {w : zz_W} {i ci k : Nat} (h : zz_io w i ci k = true) : i < w.1 ∧ i < 1000000 ∧ (zz_g w i).1 = 3 ∧ (zz_g w i).2.1 = ci ∧ k < (zz_g w i).2.2.1 := by
  unfold zz_io at h
  obtain ⟨h1, h⟩ := zz_and h
  obtain ⟨h2, h⟩ := zz_and h
  obtain ⟨h3, h⟩ := zz_and h
  obtain ⟨h4, h5⟩ := zz_and h
  exact ⟨zz_blt h1, zz_blt h2, zz_beq h3, zz_beq h4, zz_blt h5⟩
/-- a row of kind kd, of elements t, that has a place j -/
def zz_ir (w : zz_W) (i kd t j : Nat) : Bool := Nat.blt i w.1 && (Nat.blt i 1000000 && (Nat.beq (zz_g w i).1 kd && (Nat.beq (zz_g w i).2.1 t && (Nat.blt j (zz_g w i).2.2.1 && Nat.ble (zz_g w i).2.2.1 2147483648))))
theorem zz_ir_ok {w : zz_W} {i kd t j : Nat} (h : zz_ir w i kd t j = true) : i < w.1 ∧ i < 1000000 ∧ (zz_g w i).1 = kd ∧ (zz_g w i).2.1 = t ∧ j < (zz_g w i).2.2.1 ∧ (zz_g w i).2.2.1 ≤ 2147483648 := by
  unfold zz_ir at h
  obtain ⟨h1, h⟩ := zz_and h
  obtain ⟨h2, h⟩ := zz_and h
  obtain ⟨h3, h⟩ := zz_and h
  obtain ⟨h4, h⟩ := zz_and h
  obtain ⟨h5, h6⟩ := zz_and h
  exact ⟨zz_blt h1, zz_blt h2, zz_beq h3, zz_beq h4, zz_blt h5, zz_ble h6⟩
section ZC
variable {l : Launch} {Ts : List Cond} {D : va_G} {cl : List vw_C} {fk : Nat → Nat → Nat} {cy : Nat → ClassId} {z0 : Nat} {sp : Nat → Nat} {tys : List (ClassId × FieldType)} {G : State → Prop} {own mn : String} {nL : Nat} {cc : ByteArray} {d : Nat} {K : zz_K} {pc : Nat}
theorem zz_e_o {c : zz_C} {ci : Nat} (h : c.1 = 3) (hc : c.2.1 = ci) : zz_e fk cy z0 sp c = .inr (ci, (List.range c.2.2.1).map (fun k => zz_v z0 sp (zz_av (fk ci k) (zz_at 64 c.2.2.2 k)))) := by
  subst hc
  unfold zz_e
  rw [if_neg (by omega), if_neg (by omega), if_neg (by omega)]
theorem zz_e_i {c : zz_C} {t : Nat} (h : c.1 = 0) (hc : c.2.1 = t) : zz_e fk cy z0 sp c = .inl (cy t, c.2.2.1, .inl (fun j => Int32.ofNat (zz_at 32 c.2.2.2 j))) := by
  subst hc
  unfold zz_e
  rw [if_pos h]
theorem zz_e_l {c : zz_C} {t : Nat} (h : c.1 = 1) (hc : c.2.1 = t) : zz_e fk cy z0 sp c = .inl (cy t, c.2.2.1, .inr (.inl (fun j => Int64.ofNat (zz_at 64 c.2.2.2 j)))) := by
  subst hc
  unfold zz_e
  rw [if_neg (by omega), if_pos h]
theorem zz_e_q {c : zz_C} {t : Nat} (h : c.1 = 2) (hc : c.2.1 = t) : zz_e fk cy z0 sp c = .inl (cy t, c.2.2.1, .inr (.inr (.inr (.inr (fun j => zz_o z0 sp (zz_at 32 c.2.2.2 j)))))) := by
  subst hc
  unfold zz_e
  rw [if_neg (by omega), if_neg (by omega), if_pos h]
/-- an instruction that reads cells alone -/
theorem zo_read {act : zz_A} (h : ∀ f f' : zz_F, f.1 = pc → act K f = some f' → f'.2.2.2 = f.2.2.2 ∧ ∀ (p : Program) (e : Env) (R : Room) (s : State) (m : MethodId) (args : Array Value) (below : List Frame) (meth : Method) (c : Code) (H : Heap) (locs : List Loc) (cells slots : Nat) (Q : State → Prop) (ls : Array Slot),
      zz_X Ts D cl tys G own mn nL cc p s m args meth c → zz_I D cl fk cy z0 sp f.2.2.2 H → va_S (fun q : Nat => z0 ≤ q) s.heap H locs → lv_has ls nL (zz_lv z0 sp f.2.1) → (∀ ls' : Array Slot, lv_has ls' nL (zz_lv z0 sp f'.2.1) → W p l e R s m args below meth c H locs cells slots Q (F0 m f'.1 ls' (zz_sv z0 sp f'.2.2.1))) → W p l e R s m args below meth c H locs cells slots Q (F0 m pc ls (zz_sv z0 sp f.2.2.1)))
    (h2 : ∀ f f' : zz_F, act K f = some f' → f'.2.2.2 = f.2.2.2) : zz_O l Ts D cl fk cy z0 sp tys G own mn nL cc d K pc act := by
  refine ⟨fun f f' hf => by rw [h2 f f' hf]; exact ⟨Nat.le_refl _, Nat.le_refl _⟩, ?_⟩
  intro p e R s m args below meth c X _ _ H locs n0 s0 Q ls f f' hpc hf hI hS hl _ _ _ _ kk
  obtain ⟨e1, h1⟩ := h f f' hpc hf
  refine h1 p e R s m args below meth c H locs _ _ Q ls X hI hS hl fun ls' hl' => ?_
  have k1 := kk H locs ls' (by rw [e1]; exact hI) hS hl'
  rw [e1] at k1
  exact k1
/-- an instruction that changes one cell -/
theorem zo_write {act : zz_A} (h : ∀ f f' : zz_F, f.1 = pc → act K f = some f' → f'.2.2.2.1 = f.2.2.2.1 ∧ f'.2.2.2.2.1 = f.2.2.2.2.1 ∧ f'.2.1 = f.2.1 ∧ ∀ (p : Program) (e : Env) (R : Room) (s : State) (m : MethodId) (args : Array Value) (below : List Frame) (meth : Method) (c : Code) (H : Heap) (locs : List Loc) (cells slots : Nat) (Q : State → Prop) (ls : Array Slot),
      zz_X Ts D cl tys G own mn nL cc p s m args meth c → zz_I D cl fk cy z0 sp f.2.2.2 H → (∀ (H1 : Heap) (a k : Nat), z0 ≤ a → H1.size = H.size → (∀ q : Nat, q ≠ a → H1[q]? = H[q]?) → zz_I D cl fk cy z0 sp f'.2.2.2 H1 → W p l e R s m args below meth c H1 (locs ++ [⟨a, k⟩]) cells slots Q (F0 m f'.1 ls (zz_sv z0 sp f'.2.2.1))) → W p l e R s m args below meth c H locs cells slots Q (F0 m pc ls (zz_sv z0 sp f.2.2.1)))
    (h2 : ∀ f f' : zz_F, act K f = some f' → f'.2.2.2.1 = f.2.2.2.1 ∧ f'.2.2.2.2.1 = f.2.2.2.2.1) : zz_O l Ts D cl fk cy z0 sp tys G own mn nL cc d K pc act := by
  refine ⟨fun f f' hf => by rw [(h2 f f' hf).1, (h2 f f' hf).2]; exact ⟨Nat.le_refl _, Nat.le_refl _⟩, ?_⟩
  intro p e R s m args below meth c X _ _ H locs n0 s0 Q ls f f' hpc hf hI hS hl _ _ _ _ kk
  obtain ⟨e1, e2, e3, h1⟩ := h f f' hpc hf
  refine h1 p e R s m args below meth c H locs _ _ Q ls X hI fun H1 a k ha hz ho hI1 => ?_
  have k1 := kk H1 (locs ++ [⟨a, k⟩]) ls hI1 (hS.put hz ho ha) (by rw [e3]; exact hl)
  rw [e1, e2] at k1
  exact k1
/-- getfield -/
noncomputable def za_getI (ci k n : Nat) : zz_A := fun _ f => match f.2.2.1 with
  | .ref i :: r => cond (zz_io f.2.2.2 i ci k) (zz_fN (zz_at 64 (zz_g f.2.2.2 i).2.2.2 k) (fun v => some (n, f.2.1, .int (Int32.ofNat v) :: r, f.2.2.2))) none
  | _ => none
noncomputable def za_getL (ci k n : Nat) : zz_A := fun _ f => match f.2.2.1 with
  | .ref i :: r => cond (zz_io f.2.2.2 i ci k) (zz_fN (zz_at 64 (zz_g f.2.2.2 i).2.2.2 k) (fun v => some (n, f.2.1, .long (Int64.ofNat v) :: r, f.2.2.2))) none
  | _ => none
noncomputable def za_getA (ci k n : Nat) : zz_A := fun _ f => match f.2.2.1 with
  | .ref i :: r => cond (zz_io f.2.2.2 i ci k) (Nat.casesOn (zz_at 64 (zz_g f.2.2.2 i).2.2.2 k) (some (n, f.2.1, .null :: r, f.2.2.2)) (fun v => some (n, f.2.1, .ref v :: r, f.2.2.2))) none
  | _ => none
/-- what getfield's road is, for a field's value v of the abstract cell -/
theorem zz_get_row {C : String} {T : u_T} {N ci k index : Nat} (hc : cl[ci]? = some (C, T, N)) (hk : k < N) (hu : ∀ w ∈ u_ws C T N, w ∈ Ts) (hw : Cond.fieldLink own index (T k).1 (T k).2.1 (T k).2.2.1 ∈ Ts) (hd : decode cc pc = .ok (.getfield index, 3))
    {w : zz_W} {i : Nat} (hi : zz_io w i ci k = true) {p : Program} {e : Env} {R : Room} {s : State} {m : MethodId} {args : Array Value} {below : List Frame} {meth : Method} {c : Code} {H : Heap} {locs : List Loc} {cells slots : Nat} {Q : State → Prop} {ls : Array Slot} {rest : List Value}
    (X : zz_X Ts D cl tys G own mn nL cc p s m args meth c) (hI : zz_I D cl fk cy z0 sp w H)
    (kk : W p l e R s m args below meth c H locs cells slots Q (F0 m (pc + 3) ls (zz_v z0 sp (zz_av (fk ci k) (zz_at 64 (zz_g w i).2.2.2 k)) :: rest))) : W p l e R s m args below meth c H locs cells slots Q (F0 m pc ls (zz_v z0 sp (.ref i) :: rest)) := by
  obtain ⟨h1, h2, h3, h4, h5⟩ := zz_io_ok hi
  rw [zz_v_ref h2]
  have he := zz_ws_get (fk := fk) (cy := cy) (z0 := z0) (sp := sp) h1
  rw [zz_e_o h3 h4] at he
  exact va_get X.1 X.2.1 X.2.2.2.2.1 hu X.2.2.2.1 X.2.2.2.2.2.1 hI.2 i he hc k hk (X.2.2.2.2.1 _ hw) (fun _ h => h) (zz_rng_get h5) hd kk
theorem zo_getI {C : String} {T : u_T} {N ci k index : Nat} (hd : decode cc pc = .ok (.getfield index, 3)) (hf0 : fk ci k = 0) (hc : cl[ci]? = some (C, T, N)) (hk : k < N) (hu : ∀ w ∈ u_ws C T N, w ∈ Ts) (hw : Cond.fieldLink own index (T k).1 (T k).2.1 (T k).2.2.1 ∈ Ts) : zz_O l Ts D cl fk cy z0 sp tys G own mn nL cc d K pc (za_getI ci k (pc + 3)) :=
  zo_read (fun f f' _ hf => by
    unfold za_getI at hf
    split at hf
    · rename_i i r hst
      obtain ⟨hi, hf⟩ := zz_cond hf
      rw [zz_fN_eq] at hf
      cases hf
      refine ⟨rfl, fun p e R s m args below meth c H locs cells slots Q ls X hI hS hl kk => ?_⟩
      rw [hst]
      refine zz_get_row (fk := fk) (cy := cy) hc hk hu hw hd hi X hI ?_
      rw [hf0]
      exact kk ls hl
    · cases hf) (fun f f' hf => by
    unfold za_getI at hf
    split at hf
    · obtain ⟨hi, hf⟩ := zz_cond hf
      rw [zz_fN_eq] at hf
      cases hf
      rfl
    · cases hf)
theorem zo_getL {C : String} {T : u_T} {N ci k index : Nat} (hd : decode cc pc = .ok (.getfield index, 3)) (hf0 : fk ci k = 1) (hc : cl[ci]? = some (C, T, N)) (hk : k < N) (hu : ∀ w ∈ u_ws C T N, w ∈ Ts) (hw : Cond.fieldLink own index (T k).1 (T k).2.1 (T k).2.2.1 ∈ Ts) : zz_O l Ts D cl fk cy z0 sp tys G own mn nL cc d K pc (za_getL ci k (pc + 3)) :=
  zo_read (fun f f' _ hf => by
    unfold za_getL at hf
    split at hf
    · rename_i i r hst
      obtain ⟨hi, hf⟩ := zz_cond hf
      rw [zz_fN_eq] at hf
      cases hf
      refine ⟨rfl, fun p e R s m args below meth c H locs cells slots Q ls X hI hS hl kk => ?_⟩
      rw [hst]
      refine zz_get_row (fk := fk) (cy := cy) hc hk hu hw hd hi X hI ?_
      rw [hf0]
      exact kk ls hl
    · cases hf) (fun f f' hf => by
    unfold za_getL at hf
    split at hf
    · obtain ⟨hi, hf⟩ := zz_cond hf
      rw [zz_fN_eq] at hf
      cases hf
      rfl
    · cases hf)
theorem zo_getA {C : String} {T : u_T} {N ci k index : Nat} (hd : decode cc pc = .ok (.getfield index, 3)) (hf0 : fk ci k = 2) (hc : cl[ci]? = some (C, T, N)) (hk : k < N) (hu : ∀ w ∈ u_ws C T N, w ∈ Ts) (hw : Cond.fieldLink own index (T k).1 (T k).2.1 (T k).2.2.1 ∈ Ts) : zz_O l Ts D cl fk cy z0 sp tys G own mn nL cc d K pc (za_getA ci k (pc + 3)) :=
  zo_read (fun f f' _ hf => by
    unfold za_getA at hf
    split at hf
    · rename_i i r hst
      obtain ⟨hi, hf⟩ := zz_cond hf
      cases hv : zz_at 64 (zz_g f.2.2.2 i).2.2.2 k with
      | zero =>
        rw [hv] at hf
        cases hf
        refine ⟨rfl, fun p e R s m args below meth c H locs cells slots Q ls X hI hS hl kk => ?_⟩
        rw [hst]
        refine zz_get_row (fk := fk) (cy := cy) hc hk hu hw hd hi X hI ?_
        rw [hf0, hv]
        exact kk ls hl
      | succ v =>
        rw [hv] at hf
        cases hf
        refine ⟨rfl, fun p e R s m args below meth c H locs cells slots Q ls X hI hS hl kk => ?_⟩
        rw [hst]
        refine zz_get_row (fk := fk) (cy := cy) hc hk hu hw hd hi X hI ?_
        rw [hf0, hv]
        exact kk ls hl
    · cases hf) (fun f f' hf => by
    unfold za_getA at hf
    split at hf
    · rename_i i r hst
      obtain ⟨hi, hf⟩ := zz_cond hf
      cases hv : zz_at 64 (zz_g f.2.2.2 i).2.2.2 k with
      | zero =>
        rw [hv] at hf
        cases hf
        rfl
      | succ v =>
        rw [hv] at hf
        cases hf
        rfl
    · cases hf)
end ZC
