/-! EACH INSTRUCTION OF THE ABSTRACT MACHINE IS SOUND: zz_O says so of what stands at pc: where the abstract one goes from f to f', the real one comes home from f if it does from f'. -/
def zz_X (Ts : List Cond) (D : va_G) (cl : List vw_C) (tys : List (ClassId × FieldType)) (G : State → Prop) (own mn : String) (nL : Nat) (cc : ByteArray) (p : Program) (s : State) (m : MethodId) (args : Array Value) (meth : Method) (c : Code) : Prop :=
  p.tables.exec = Jvm.exec ∧ c.code = cc ∧ c.maxLocals = nL ∧ s.vm.findClass own = some m.cls ∧ (∀ w ∈ Ts, w.before args s = true) ∧ va_K D cl tys s ∧ meth.locks = false ∧ meth.name = mn ∧ G s
def zz_O (l : Launch) (Ts : List Cond) (D : va_G) (cl : List vw_C) (fk : Nat → Nat → Nat) (cy : Nat → ClassId) (z0 : Nat) (sp : Nat → Nat) (tys : List (ClassId × FieldType)) (G : State → Prop) (own mn : String) (nL : Nat) (cc : ByteArray) (d : Nat) (K : zz_K) (pc : Nat) (act : zz_A) : Prop :=
  (∀ f f' : zz_F, act K f = some f' → f.2.2.2.1 ≤ f'.2.2.2.1 ∧ f.2.2.2.2.1 ≤ f'.2.2.2.2.1) ∧
  ∀ (p : Program) (e : Env) (R : Room) (s : State) (m : MethodId) (args : Array Value) (below : List Frame) (meth : Method) (c : Code), zz_X Ts D cl tys G own mn nL cc p s m args meth c → d + 1 ≤ R.frames → 64 * (d + 1) ≤ R.locals →
  ∀ (H : Heap) (locs : List Loc) (n0 s0 : Nat) (Q : State → Prop) (ls : Array Slot) (f f' : zz_F), f.1 = pc → act K f = some f' → zz_I D cl fk cy z0 sp f.2.2.2 H → va_S (fun q : Nat => z0 ≤ q) s.heap H locs → lv_has ls nL (zz_lv z0 sp f.2.1) →
    n0 ≤ f.2.2.2.1 → s0 ≤ f.2.2.2.2.1 → f'.2.2.2.1 - n0 ≤ R.cells → f'.2.2.2.2.1 - s0 ≤ R.slots →
    (∀ (H' : Heap) (locs' : List Loc) (ls' : Array Slot), zz_I D cl fk cy z0 sp f'.2.2.2 H' → va_S (fun q : Nat => z0 ≤ q) s.heap H' locs' → lv_has ls' nL (zz_lv z0 sp f'.2.1) → W p l e R s m args below meth c H' locs' (f'.2.2.2.1 - n0) (f'.2.2.2.2.1 - s0) Q (F0 m f'.1 ls' (zz_sv z0 sp f'.2.2.1))) →
    W p l e R s m args below meth c H locs (f.2.2.2.1 - n0) (f.2.2.2.2.1 - s0) Q (F0 m pc ls (zz_sv z0 sp f.2.2.1))
section ZS
variable {l : Launch} {Ts : List Cond} {D : va_G} {cl : List vw_C} {fk : Nat → Nat → Nat} {cy : Nat → ClassId} {z0 : Nat} {sp : Nat → Nat} {tys : List (ClassId × FieldType)} {G : State → Prop} {own mn : String} {nL : Nat} {cc : ByteArray} {d : Nat} {K : zz_K} {pc : Nat}
/-- an instruction that touches no cell -/
theorem zo_still {act : zz_A} (h : ∀ f f' : zz_F, f.1 = pc → act K f = some f' → f'.2.2.2 = f.2.2.2 ∧ ∀ (p : Program) (e : Env) (R : Room) (s : State) (m : MethodId) (args : Array Value) (below : List Frame) (meth : Method) (c : Code) (H : Heap) (locs : List Loc) (cells slots : Nat) (Q : State → Prop) (ls : Array Slot),
      zz_X Ts D cl tys G own mn nL cc p s m args meth c → va_S (fun q : Nat => z0 ≤ q) s.heap H locs → lv_has ls nL (zz_lv z0 sp f.2.1) → (∀ ls' : Array Slot, lv_has ls' nL (zz_lv z0 sp f'.2.1) → W p l e R s m args below meth c H locs cells slots Q (F0 m f'.1 ls' (zz_sv z0 sp f'.2.2.1))) → W p l e R s m args below meth c H locs cells slots Q (F0 m pc ls (zz_sv z0 sp f.2.2.1)))
    (h2 : ∀ f f' : zz_F, act K f = some f' → f'.2.2.2 = f.2.2.2) : zz_O l Ts D cl fk cy z0 sp tys G own mn nL cc d K pc act := by
  refine ⟨fun f f' hf => by rw [h2 f f' hf]; exact ⟨Nat.le_refl _, Nat.le_refl _⟩, ?_⟩
  intro p e R s m args below meth c X _ _ H locs n0 s0 Q ls f f' hpc hf hI hS hl _ _ _ _ kk
  obtain ⟨e1, h1⟩ := h f f' hpc hf
  refine h1 p e R s m args below meth c H locs _ _ Q ls X hS hl fun ls' hl' => ?_
  have k1 := kk H locs ls' (by rw [e1]; exact hI) hS hl'
  rw [e1] at k1
  exact k1
def za_const (v : Value) (n : Nat) : zz_A := fun _ f => some (n, f.2.1, v :: f.2.2.1, f.2.2.2)
theorem zz_lk1 {i : Nat} : zz_lk false i = (fun q : Nat × Value => !(q.1 == i) && !(q.1 + 1 == i && q.2.category == 2)) := by
  funext q
  simp [zz_lk]
theorem zz_lk2 {i : Nat} : zz_lk true i = (fun q : Nat × Value => !(q.1 == i) && (!(q.1 == i + 1) && !(q.1 + 1 == i && q.2.category == 2))) := by
  funext q
  simp [zz_lk]
theorem zz_lg_pl {l : List (Nat × Value)} {i : Nat} {v : Value} (h : zz_lg l i = some v) : ∃ j : Nat, (zz_lv z0 sp l)[j]? = some (i, zz_v z0 sp v) := by
  obtain ⟨j, hj⟩ := List.getElem?_of_mem (zz_lg_mem h)
  refine ⟨j, ?_⟩
  unfold zz_lv
  rw [List.getElem?_map, hj]
  rfl
noncomputable def za_iadd (n : Nat) : zz_A := fun _ f => match f.2.2.1 with
  | .int y :: .int x :: r => zz_fI (x + y) (fun z => some (n, f.2.1, .int z :: r, f.2.2.2))
  | _ => none
theorem zo_iadd (hd : decode cc pc = .ok (.iadd, 1)) : zz_O l Ts D cl fk cy z0 sp tys G own mn nL cc d K pc (za_iadd (pc + 1)) :=
  zo_still (fun f f' _ hf => by
    unfold za_iadd at hf
    split at hf
    · rename_i y x r hst
      rw [zz_fI_eq] at hf
      cases hf
      refine ⟨rfl, fun p e R s m args below meth c H locs cells slots Q ls X hS hl kk => ?_⟩
      rw [hst]
      exact lv_iadd X.1 X.2.1 hd (kk ls hl)
    · cases hf) (fun f f' hf => by
    unfold za_iadd at hf
    split at hf
    · rename_i y x r hst
      rw [zz_fI_eq] at hf
      cases hf
      rfl
    · cases hf)
noncomputable def za_isub (n : Nat) : zz_A := fun _ f => match f.2.2.1 with
  | .int y :: .int x :: r => zz_fI (x - y) (fun z => some (n, f.2.1, .int z :: r, f.2.2.2))
  | _ => none
theorem zo_isub (hd : decode cc pc = .ok (.isub, 1)) : zz_O l Ts D cl fk cy z0 sp tys G own mn nL cc d K pc (za_isub (pc + 1)) :=
  zo_still (fun f f' _ hf => by
    unfold za_isub at hf
    split at hf
    · rename_i y x r hst
      rw [zz_fI_eq] at hf
      cases hf
      refine ⟨rfl, fun p e R s m args below meth c H locs cells slots Q ls X hS hl kk => ?_⟩
      rw [hst]
      exact lv_isub X.1 X.2.1 hd (kk ls hl)
    · cases hf) (fun f f' hf => by
    unfold za_isub at hf
    split at hf
    · rename_i y x r hst
      rw [zz_fI_eq] at hf
      cases hf
      rfl
    · cases hf)
noncomputable def za_imul (n : Nat) : zz_A := fun _ f => match f.2.2.1 with
  | .int y :: .int x :: r => zz_fI (x * y) (fun z => some (n, f.2.1, .int z :: r, f.2.2.2))
  | _ => none
theorem zo_imul (hd : decode cc pc = .ok (.imul, 1)) : zz_O l Ts D cl fk cy z0 sp tys G own mn nL cc d K pc (za_imul (pc + 1)) :=
  zo_still (fun f f' _ hf => by
    unfold za_imul at hf
    split at hf
    · rename_i y x r hst
      rw [zz_fI_eq] at hf
      cases hf
      refine ⟨rfl, fun p e R s m args below meth c H locs cells slots Q ls X hS hl kk => ?_⟩
      rw [hst]
      exact lv_imul X.1 X.2.1 hd (kk ls hl)
    · cases hf) (fun f f' hf => by
    unfold za_imul at hf
    split at hf
    · rename_i y x r hst
      rw [zz_fI_eq] at hf
      cases hf
      rfl
    · cases hf)
noncomputable def za_iand (n : Nat) : zz_A := fun _ f => match f.2.2.1 with
  | .int y :: .int x :: r => zz_fI (x &&& y) (fun z => some (n, f.2.1, .int z :: r, f.2.2.2))
  | _ => none
theorem zo_iand (hd : decode cc pc = .ok (.iand, 1)) : zz_O l Ts D cl fk cy z0 sp tys G own mn nL cc d K pc (za_iand (pc + 1)) :=
  zo_still (fun f f' _ hf => by
    unfold za_iand at hf
    split at hf
    · rename_i y x r hst
      rw [zz_fI_eq] at hf
      cases hf
      refine ⟨rfl, fun p e R s m args below meth c H locs cells slots Q ls X hS hl kk => ?_⟩
      rw [hst]
      exact lv_iand X.1 X.2.1 hd (kk ls hl)
    · cases hf) (fun f f' hf => by
    unfold za_iand at hf
    split at hf
    · rename_i y x r hst
      rw [zz_fI_eq] at hf
      cases hf
      rfl
    · cases hf)
noncomputable def za_ior (n : Nat) : zz_A := fun _ f => match f.2.2.1 with
  | .int y :: .int x :: r => zz_fI (x ||| y) (fun z => some (n, f.2.1, .int z :: r, f.2.2.2))
  | _ => none
theorem zo_ior (hd : decode cc pc = .ok (.ior, 1)) : zz_O l Ts D cl fk cy z0 sp tys G own mn nL cc d K pc (za_ior (pc + 1)) :=
  zo_still (fun f f' _ hf => by
    unfold za_ior at hf
    split at hf
    · rename_i y x r hst
      rw [zz_fI_eq] at hf
      cases hf
      refine ⟨rfl, fun p e R s m args below meth c H locs cells slots Q ls X hS hl kk => ?_⟩
      rw [hst]
      exact lv_ior X.1 X.2.1 hd (kk ls hl)
    · cases hf) (fun f f' hf => by
    unfold za_ior at hf
    split at hf
    · rename_i y x r hst
      rw [zz_fI_eq] at hf
      cases hf
      rfl
    · cases hf)
noncomputable def za_ixor (n : Nat) : zz_A := fun _ f => match f.2.2.1 with
  | .int y :: .int x :: r => zz_fI (x ^^^ y) (fun z => some (n, f.2.1, .int z :: r, f.2.2.2))
  | _ => none
theorem zo_ixor (hd : decode cc pc = .ok (.ixor, 1)) : zz_O l Ts D cl fk cy z0 sp tys G own mn nL cc d K pc (za_ixor (pc + 1)) :=
  zo_still (fun f f' _ hf => by
    unfold za_ixor at hf
    split at hf
    · rename_i y x r hst
      rw [zz_fI_eq] at hf
      cases hf
      refine ⟨rfl, fun p e R s m args below meth c H locs cells slots Q ls X hS hl kk => ?_⟩
      rw [hst]
      exact lv_ixor X.1 X.2.1 hd (kk ls hl)
    · cases hf) (fun f f' hf => by
    unfold za_ixor at hf
    split at hf
    · rename_i y x r hst
      rw [zz_fI_eq] at hf
      cases hf
      rfl
    · cases hf)
noncomputable def za_ishl (n : Nat) : zz_A := fun _ f => match f.2.2.1 with
  | .int y :: .int x :: r => zz_fI (x <<< (y &&& 31)) (fun z => some (n, f.2.1, .int z :: r, f.2.2.2))
  | _ => none
theorem zo_ishl (hd : decode cc pc = .ok (.ishl, 1)) : zz_O l Ts D cl fk cy z0 sp tys G own mn nL cc d K pc (za_ishl (pc + 1)) :=
  zo_still (fun f f' _ hf => by
    unfold za_ishl at hf
    split at hf
    · rename_i y x r hst
      rw [zz_fI_eq] at hf
      cases hf
      refine ⟨rfl, fun p e R s m args below meth c H locs cells slots Q ls X hS hl kk => ?_⟩
      rw [hst]
      exact lv_ishl X.1 X.2.1 hd (kk ls hl)
    · cases hf) (fun f f' hf => by
    unfold za_ishl at hf
    split at hf
    · rename_i y x r hst
      rw [zz_fI_eq] at hf
      cases hf
      rfl
    · cases hf)
noncomputable def za_ishr (n : Nat) : zz_A := fun _ f => match f.2.2.1 with
  | .int y :: .int x :: r => zz_fI (x >>> (y &&& 31)) (fun z => some (n, f.2.1, .int z :: r, f.2.2.2))
  | _ => none
theorem zo_ishr (hd : decode cc pc = .ok (.ishr, 1)) : zz_O l Ts D cl fk cy z0 sp tys G own mn nL cc d K pc (za_ishr (pc + 1)) :=
  zo_still (fun f f' _ hf => by
    unfold za_ishr at hf
    split at hf
    · rename_i y x r hst
      rw [zz_fI_eq] at hf
      cases hf
      refine ⟨rfl, fun p e R s m args below meth c H locs cells slots Q ls X hS hl kk => ?_⟩
      rw [hst]
      exact lv_ishr X.1 X.2.1 hd (kk ls hl)
    · cases hf) (fun f f' hf => by
    unfold za_ishr at hf
    split at hf
    · rename_i y x r hst
      rw [zz_fI_eq] at hf
      cases hf
      rfl
    · cases hf)
noncomputable def za_iushr (n : Nat) : zz_A := fun _ f => match f.2.2.1 with
  | .int y :: .int x :: r => zz_fI ((x.toUInt32 >>> (y.toUInt32 &&& Int32.toUInt32 31)).toInt32) (fun z => some (n, f.2.1, .int z :: r, f.2.2.2))
  | _ => none
theorem zo_iushr (hd : decode cc pc = .ok (.iushr, 1)) : zz_O l Ts D cl fk cy z0 sp tys G own mn nL cc d K pc (za_iushr (pc + 1)) :=
  zo_still (fun f f' _ hf => by
    unfold za_iushr at hf
    split at hf
    · rename_i y x r hst
      rw [zz_fI_eq] at hf
      cases hf
      refine ⟨rfl, fun p e R s m args below meth c H locs cells slots Q ls X hS hl kk => ?_⟩
      rw [hst]
      exact lv_iushr X.1 X.2.1 hd rfl (kk ls hl)
    · cases hf) (fun f f' hf => by
    unfold za_iushr at hf
    split at hf
    · rename_i y x r hst
      rw [zz_fI_eq] at hf
      cases hf
      rfl
    · cases hf)
noncomputable def za_idiv (n : Nat) : zz_A := fun _ f => match f.2.2.1 with
  | .int y :: .int x :: r => if y = 0 then none else zz_fI (x / y) (fun z => some (n, f.2.1, .int z :: r, f.2.2.2))
  | _ => none
theorem zo_idiv (hd : decode cc pc = .ok (.idiv, 1)) : zz_O l Ts D cl fk cy z0 sp tys G own mn nL cc d K pc (za_idiv (pc + 1)) :=
  zo_still (fun f f' _ hf => by
    unfold za_idiv at hf
    split at hf
    · rename_i y x r hst
      split at hf
      · cases hf
      · rename_i hne
        rw [zz_fI_eq] at hf
        cases hf
        refine ⟨rfl, fun p e R s m args below meth c H locs cells slots Q ls X hS hl kk => ?_⟩
        rw [hst]
        exact lv_idiv X.1 X.2.1 hd hne (kk ls hl)
    · cases hf) (fun f f' hf => by
    unfold za_idiv at hf
    split at hf
    · rename_i y x r hst
      split at hf
      · cases hf
      · rename_i hne
        rw [zz_fI_eq] at hf
        cases hf
        rfl
    · cases hf)
noncomputable def za_irem (n : Nat) : zz_A := fun _ f => match f.2.2.1 with
  | .int y :: .int x :: r => if y = 0 then none else zz_fI (x - x / y * y) (fun z => some (n, f.2.1, .int z :: r, f.2.2.2))
  | _ => none
theorem zo_irem (hd : decode cc pc = .ok (.irem, 1)) : zz_O l Ts D cl fk cy z0 sp tys G own mn nL cc d K pc (za_irem (pc + 1)) :=
  zo_still (fun f f' _ hf => by
    unfold za_irem at hf
    split at hf
    · rename_i y x r hst
      split at hf
      · cases hf
      · rename_i hne
        rw [zz_fI_eq] at hf
        cases hf
        refine ⟨rfl, fun p e R s m args below meth c H locs cells slots Q ls X hS hl kk => ?_⟩
        rw [hst]
        exact lv_irem X.1 X.2.1 hd hne (kk ls hl)
    · cases hf) (fun f f' hf => by
    unfold za_irem at hf
    split at hf
    · rename_i y x r hst
      split at hf
      · cases hf
      · rename_i hne
        rw [zz_fI_eq] at hf
        cases hf
        rfl
    · cases hf)
noncomputable def za_ineg (n : Nat) : zz_A := fun _ f => match f.2.2.1 with
  | .int x :: r => zz_fI (-x) (fun z => some (n, f.2.1, .int z :: r, f.2.2.2))
  | _ => none
theorem zo_ineg (hd : decode cc pc = .ok (.ineg, 1)) : zz_O l Ts D cl fk cy z0 sp tys G own mn nL cc d K pc (za_ineg (pc + 1)) :=
  zo_still (fun f f' _ hf => by
    unfold za_ineg at hf
    split at hf
    · rename_i x r hst
      rw [zz_fI_eq] at hf
      cases hf
      refine ⟨rfl, fun p e R s m args below meth c H locs cells slots Q ls X hS hl kk => ?_⟩
      rw [hst]
      exact lv_ineg X.1 X.2.1 hd (kk ls hl)
    · cases hf) (fun f f' hf => by
    unfold za_ineg at hf
    split at hf
    · rename_i x r hst
      rw [zz_fI_eq] at hf
      cases hf
      rfl
    · cases hf)
noncomputable def za_i2b (n : Nat) : zz_A := fun _ f => match f.2.2.1 with
  | .int x :: r => zz_fI (x.toInt8.toInt32) (fun z => some (n, f.2.1, .int z :: r, f.2.2.2))
  | _ => none
theorem zo_i2b (hd : decode cc pc = .ok (.i2b, 1)) : zz_O l Ts D cl fk cy z0 sp tys G own mn nL cc d K pc (za_i2b (pc + 1)) :=
  zo_still (fun f f' _ hf => by
    unfold za_i2b at hf
    split at hf
    · rename_i x r hst
      rw [zz_fI_eq] at hf
      cases hf
      refine ⟨rfl, fun p e R s m args below meth c H locs cells slots Q ls X hS hl kk => ?_⟩
      rw [hst]
      exact lv_i2b X.1 X.2.1 hd rfl (kk ls hl)
    · cases hf) (fun f f' hf => by
    unfold za_i2b at hf
    split at hf
    · rename_i x r hst
      rw [zz_fI_eq] at hf
      cases hf
      rfl
    · cases hf)
noncomputable def za_i2s (n : Nat) : zz_A := fun _ f => match f.2.2.1 with
  | .int x :: r => zz_fI (x.toInt16.toInt32) (fun z => some (n, f.2.1, .int z :: r, f.2.2.2))
  | _ => none
theorem zo_i2s (hd : decode cc pc = .ok (.i2s, 1)) : zz_O l Ts D cl fk cy z0 sp tys G own mn nL cc d K pc (za_i2s (pc + 1)) :=
  zo_still (fun f f' _ hf => by
    unfold za_i2s at hf
    split at hf
    · rename_i x r hst
      rw [zz_fI_eq] at hf
      cases hf
      refine ⟨rfl, fun p e R s m args below meth c H locs cells slots Q ls X hS hl kk => ?_⟩
      rw [hst]
      exact lv_i2s X.1 X.2.1 hd rfl (kk ls hl)
    · cases hf) (fun f f' hf => by
    unfold za_i2s at hf
    split at hf
    · rename_i x r hst
      rw [zz_fI_eq] at hf
      cases hf
      rfl
    · cases hf)
noncomputable def za_i2c (n : Nat) : zz_A := fun _ f => match f.2.2.1 with
  | .int x :: r => zz_fI ((x.toUInt32 % 65536).toInt32) (fun z => some (n, f.2.1, .int z :: r, f.2.2.2))
  | _ => none
theorem zo_i2c (hd : decode cc pc = .ok (.i2c, 1)) : zz_O l Ts D cl fk cy z0 sp tys G own mn nL cc d K pc (za_i2c (pc + 1)) :=
  zo_still (fun f f' _ hf => by
    unfold za_i2c at hf
    split at hf
    · rename_i x r hst
      rw [zz_fI_eq] at hf
      cases hf
      refine ⟨rfl, fun p e R s m args below meth c H locs cells slots Q ls X hS hl kk => ?_⟩
      rw [hst]
      exact lv_i2c X.1 X.2.1 hd rfl (kk ls hl)
    · cases hf) (fun f f' hf => by
    unfold za_i2c at hf
    split at hf
    · rename_i x r hst
      rw [zz_fI_eq] at hf
      cases hf
      rfl
    · cases hf)
noncomputable def za_i2l (n : Nat) : zz_A := fun _ f => match f.2.2.1 with
  | .int x :: r => zz_fL (x.toInt64) (fun z => some (n, f.2.1, .long z :: r, f.2.2.2))
  | _ => none
theorem zo_i2l (hd : decode cc pc = .ok (.i2l, 1)) : zz_O l Ts D cl fk cy z0 sp tys G own mn nL cc d K pc (za_i2l (pc + 1)) :=
  zo_still (fun f f' _ hf => by
    unfold za_i2l at hf
    split at hf
    · rename_i x r hst
      rw [zz_fL_eq] at hf
      cases hf
      refine ⟨rfl, fun p e R s m args below meth c H locs cells slots Q ls X hS hl kk => ?_⟩
      rw [hst]
      exact lv_i2l X.1 X.2.1 hd rfl (kk ls hl)
    · cases hf) (fun f f' hf => by
    unfold za_i2l at hf
    split at hf
    · rename_i x r hst
      rw [zz_fL_eq] at hf
      cases hf
      rfl
    · cases hf)
noncomputable def za_l2i (n : Nat) : zz_A := fun _ f => match f.2.2.1 with
  | .long x :: r => zz_fI (x.toInt32) (fun z => some (n, f.2.1, .int z :: r, f.2.2.2))
  | _ => none
theorem zo_l2i (hd : decode cc pc = .ok (.l2i, 1)) : zz_O l Ts D cl fk cy z0 sp tys G own mn nL cc d K pc (za_l2i (pc + 1)) :=
  zo_still (fun f f' _ hf => by
    unfold za_l2i at hf
    split at hf
    · rename_i x r hst
      rw [zz_fI_eq] at hf
      cases hf
      refine ⟨rfl, fun p e R s m args below meth c H locs cells slots Q ls X hS hl kk => ?_⟩
      rw [hst]
      exact lv_l2i X.1 X.2.1 hd rfl (kk ls hl)
    · cases hf) (fun f f' hf => by
    unfold za_l2i at hf
    split at hf
    · rename_i x r hst
      rw [zz_fI_eq] at hf
      cases hf
      rfl
    · cases hf)
noncomputable def za_ladd (n : Nat) : zz_A := fun _ f => match f.2.2.1 with
  | .long y :: .long x :: r => zz_fL (x + y) (fun z => some (n, f.2.1, .long z :: r, f.2.2.2))
  | _ => none
theorem zo_ladd (hd : decode cc pc = .ok (.ladd, 1)) : zz_O l Ts D cl fk cy z0 sp tys G own mn nL cc d K pc (za_ladd (pc + 1)) :=
  zo_still (fun f f' _ hf => by
    unfold za_ladd at hf
    split at hf
    · rename_i y x r hst
      rw [zz_fL_eq] at hf
      cases hf
      refine ⟨rfl, fun p e R s m args below meth c H locs cells slots Q ls X hS hl kk => ?_⟩
      rw [hst]
      exact lv_ladd X.1 X.2.1 hd (kk ls hl)
    · cases hf) (fun f f' hf => by
    unfold za_ladd at hf
    split at hf
    · rename_i y x r hst
      rw [zz_fL_eq] at hf
      cases hf
      rfl
    · cases hf)
noncomputable def za_lsub (n : Nat) : zz_A := fun _ f => match f.2.2.1 with
  | .long y :: .long x :: r => zz_fL (x - y) (fun z => some (n, f.2.1, .long z :: r, f.2.2.2))
  | _ => none
theorem zo_lsub (hd : decode cc pc = .ok (.lsub, 1)) : zz_O l Ts D cl fk cy z0 sp tys G own mn nL cc d K pc (za_lsub (pc + 1)) :=
  zo_still (fun f f' _ hf => by
    unfold za_lsub at hf
    split at hf
    · rename_i y x r hst
      rw [zz_fL_eq] at hf
      cases hf
      refine ⟨rfl, fun p e R s m args below meth c H locs cells slots Q ls X hS hl kk => ?_⟩
      rw [hst]
      exact lv_lsub X.1 X.2.1 hd (kk ls hl)
    · cases hf) (fun f f' hf => by
    unfold za_lsub at hf
    split at hf
    · rename_i y x r hst
      rw [zz_fL_eq] at hf
      cases hf
      rfl
    · cases hf)
noncomputable def za_lmul (n : Nat) : zz_A := fun _ f => match f.2.2.1 with
  | .long y :: .long x :: r => zz_fL (x * y) (fun z => some (n, f.2.1, .long z :: r, f.2.2.2))
  | _ => none
theorem zo_lmul (hd : decode cc pc = .ok (.lmul, 1)) : zz_O l Ts D cl fk cy z0 sp tys G own mn nL cc d K pc (za_lmul (pc + 1)) :=
  zo_still (fun f f' _ hf => by
    unfold za_lmul at hf
    split at hf
    · rename_i y x r hst
      rw [zz_fL_eq] at hf
      cases hf
      refine ⟨rfl, fun p e R s m args below meth c H locs cells slots Q ls X hS hl kk => ?_⟩
      rw [hst]
      exact lv_lmul X.1 X.2.1 hd (kk ls hl)
    · cases hf) (fun f f' hf => by
    unfold za_lmul at hf
    split at hf
    · rename_i y x r hst
      rw [zz_fL_eq] at hf
      cases hf
      rfl
    · cases hf)
noncomputable def za_land (n : Nat) : zz_A := fun _ f => match f.2.2.1 with
  | .long y :: .long x :: r => zz_fL (x &&& y) (fun z => some (n, f.2.1, .long z :: r, f.2.2.2))
  | _ => none
theorem zo_land (hd : decode cc pc = .ok (.land, 1)) : zz_O l Ts D cl fk cy z0 sp tys G own mn nL cc d K pc (za_land (pc + 1)) :=
  zo_still (fun f f' _ hf => by
    unfold za_land at hf
    split at hf
    · rename_i y x r hst
      rw [zz_fL_eq] at hf
      cases hf
      refine ⟨rfl, fun p e R s m args below meth c H locs cells slots Q ls X hS hl kk => ?_⟩
      rw [hst]
      exact lv_land X.1 X.2.1 hd (kk ls hl)
    · cases hf) (fun f f' hf => by
    unfold za_land at hf
    split at hf
    · rename_i y x r hst
      rw [zz_fL_eq] at hf
      cases hf
      rfl
    · cases hf)
noncomputable def za_lor (n : Nat) : zz_A := fun _ f => match f.2.2.1 with
  | .long y :: .long x :: r => zz_fL (x ||| y) (fun z => some (n, f.2.1, .long z :: r, f.2.2.2))
  | _ => none
theorem zo_lor (hd : decode cc pc = .ok (.lor, 1)) : zz_O l Ts D cl fk cy z0 sp tys G own mn nL cc d K pc (za_lor (pc + 1)) :=
  zo_still (fun f f' _ hf => by
    unfold za_lor at hf
    split at hf
    · rename_i y x r hst
      rw [zz_fL_eq] at hf
      cases hf
      refine ⟨rfl, fun p e R s m args below meth c H locs cells slots Q ls X hS hl kk => ?_⟩
      rw [hst]
      exact lv_lor X.1 X.2.1 hd (kk ls hl)
    · cases hf) (fun f f' hf => by
    unfold za_lor at hf
    split at hf
    · rename_i y x r hst
      rw [zz_fL_eq] at hf
      cases hf
      rfl
    · cases hf)
noncomputable def za_lxor (n : Nat) : zz_A := fun _ f => match f.2.2.1 with
  | .long y :: .long x :: r => zz_fL (x ^^^ y) (fun z => some (n, f.2.1, .long z :: r, f.2.2.2))
  | _ => none
theorem zo_lxor (hd : decode cc pc = .ok (.lxor, 1)) : zz_O l Ts D cl fk cy z0 sp tys G own mn nL cc d K pc (za_lxor (pc + 1)) :=
  zo_still (fun f f' _ hf => by
    unfold za_lxor at hf
    split at hf
    · rename_i y x r hst
      rw [zz_fL_eq] at hf
      cases hf
      refine ⟨rfl, fun p e R s m args below meth c H locs cells slots Q ls X hS hl kk => ?_⟩
      rw [hst]
      exact lv_lxor X.1 X.2.1 hd (kk ls hl)
    · cases hf) (fun f f' hf => by
    unfold za_lxor at hf
    split at hf
    · rename_i y x r hst
      rw [zz_fL_eq] at hf
      cases hf
      rfl
    · cases hf)
noncomputable def za_ldiv (n : Nat) : zz_A := fun _ f => match f.2.2.1 with
  | .long y :: .long x :: r => if y = 0 then none else zz_fL (x / y) (fun z => some (n, f.2.1, .long z :: r, f.2.2.2))
  | _ => none
theorem zo_ldiv (hd : decode cc pc = .ok (.ldiv, 1)) : zz_O l Ts D cl fk cy z0 sp tys G own mn nL cc d K pc (za_ldiv (pc + 1)) :=
  zo_still (fun f f' _ hf => by
    unfold za_ldiv at hf
    split at hf
    · rename_i y x r hst
      split at hf
      · cases hf
      · rename_i hne
        rw [zz_fL_eq] at hf
        cases hf
        refine ⟨rfl, fun p e R s m args below meth c H locs cells slots Q ls X hS hl kk => ?_⟩
        rw [hst]
        exact lv_ldiv X.1 X.2.1 hd hne (kk ls hl)
    · cases hf) (fun f f' hf => by
    unfold za_ldiv at hf
    split at hf
    · rename_i y x r hst
      split at hf
      · cases hf
      · rename_i hne
        rw [zz_fL_eq] at hf
        cases hf
        rfl
    · cases hf)
noncomputable def za_lrem (n : Nat) : zz_A := fun _ f => match f.2.2.1 with
  | .long y :: .long x :: r => if y = 0 then none else zz_fL (x - x / y * y) (fun z => some (n, f.2.1, .long z :: r, f.2.2.2))
  | _ => none
theorem zo_lrem (hd : decode cc pc = .ok (.lrem, 1)) : zz_O l Ts D cl fk cy z0 sp tys G own mn nL cc d K pc (za_lrem (pc + 1)) :=
  zo_still (fun f f' _ hf => by
    unfold za_lrem at hf
    split at hf
    · rename_i y x r hst
      split at hf
      · cases hf
      · rename_i hne
        rw [zz_fL_eq] at hf
        cases hf
        refine ⟨rfl, fun p e R s m args below meth c H locs cells slots Q ls X hS hl kk => ?_⟩
        rw [hst]
        exact lv_lrem X.1 X.2.1 hd hne (kk ls hl)
    · cases hf) (fun f f' hf => by
    unfold za_lrem at hf
    split at hf
    · rename_i y x r hst
      split at hf
      · cases hf
      · rename_i hne
        rw [zz_fL_eq] at hf
        cases hf
        rfl
    · cases hf)
noncomputable def za_lneg (n : Nat) : zz_A := fun _ f => match f.2.2.1 with
  | .long x :: r => zz_fL (-x) (fun z => some (n, f.2.1, .long z :: r, f.2.2.2))
  | _ => none
theorem zo_lneg (hd : decode cc pc = .ok (.lneg, 1)) : zz_O l Ts D cl fk cy z0 sp tys G own mn nL cc d K pc (za_lneg (pc + 1)) :=
  zo_still (fun f f' _ hf => by
    unfold za_lneg at hf
    split at hf
    · rename_i x r hst
      rw [zz_fL_eq] at hf
      cases hf
      refine ⟨rfl, fun p e R s m args below meth c H locs cells slots Q ls X hS hl kk => ?_⟩
      rw [hst]
      exact lv_lneg X.1 X.2.1 hd (kk ls hl)
    · cases hf) (fun f f' hf => by
    unfold za_lneg at hf
    split at hf
    · rename_i x r hst
      rw [zz_fL_eq] at hf
      cases hf
      rfl
    · cases hf)
noncomputable def za_lshl (n : Nat) : zz_A := fun _ f => match f.2.2.1 with
  | .int y :: .long x :: r => zz_fL (x <<< (y.toInt64 &&& 63)) (fun z => some (n, f.2.1, .long z :: r, f.2.2.2))
  | _ => none
theorem zo_lshl (hd : decode cc pc = .ok (.lshl, 1)) : zz_O l Ts D cl fk cy z0 sp tys G own mn nL cc d K pc (za_lshl (pc + 1)) :=
  zo_still (fun f f' _ hf => by
    unfold za_lshl at hf
    split at hf
    · rename_i y x r hst
      rw [zz_fL_eq] at hf
      cases hf
      refine ⟨rfl, fun p e R s m args below meth c H locs cells slots Q ls X hS hl kk => ?_⟩
      rw [hst]
      exact lv_lshl X.1 X.2.1 hd rfl (kk ls hl)
    · cases hf) (fun f f' hf => by
    unfold za_lshl at hf
    split at hf
    · rename_i y x r hst
      rw [zz_fL_eq] at hf
      cases hf
      rfl
    · cases hf)
noncomputable def za_lshr (n : Nat) : zz_A := fun _ f => match f.2.2.1 with
  | .int y :: .long x :: r => zz_fL (x >>> (y.toInt64 &&& 63)) (fun z => some (n, f.2.1, .long z :: r, f.2.2.2))
  | _ => none
theorem zo_lshr (hd : decode cc pc = .ok (.lshr, 1)) : zz_O l Ts D cl fk cy z0 sp tys G own mn nL cc d K pc (za_lshr (pc + 1)) :=
  zo_still (fun f f' _ hf => by
    unfold za_lshr at hf
    split at hf
    · rename_i y x r hst
      rw [zz_fL_eq] at hf
      cases hf
      refine ⟨rfl, fun p e R s m args below meth c H locs cells slots Q ls X hS hl kk => ?_⟩
      rw [hst]
      exact lv_lshr X.1 X.2.1 hd rfl (kk ls hl)
    · cases hf) (fun f f' hf => by
    unfold za_lshr at hf
    split at hf
    · rename_i y x r hst
      rw [zz_fL_eq] at hf
      cases hf
      rfl
    · cases hf)
noncomputable def za_lushr (n : Nat) : zz_A := fun _ f => match f.2.2.1 with
  | .int y :: .long x :: r => zz_fL ((x.toUInt64 >>> (y.toInt64.toUInt64 &&& Int64.toUInt64 63)).toInt64) (fun z => some (n, f.2.1, .long z :: r, f.2.2.2))
  | _ => none
theorem zo_lushr (hd : decode cc pc = .ok (.lushr, 1)) : zz_O l Ts D cl fk cy z0 sp tys G own mn nL cc d K pc (za_lushr (pc + 1)) :=
  zo_still (fun f f' _ hf => by
    unfold za_lushr at hf
    split at hf
    · rename_i y x r hst
      rw [zz_fL_eq] at hf
      cases hf
      refine ⟨rfl, fun p e R s m args below meth c H locs cells slots Q ls X hS hl kk => ?_⟩
      rw [hst]
      exact lv_lushr X.1 X.2.1 hd rfl (kk ls hl)
    · cases hf) (fun f f' hf => by
    unfold za_lushr at hf
    split at hf
    · rename_i y x r hst
      rw [zz_fL_eq] at hf
      cases hf
      rfl
    · cases hf)
noncomputable def za_lcmp (n : Nat) : zz_A := fun _ f => match f.2.2.1 with
  | .long y :: .long x :: r => zz_fI (lg_cmp x y) (fun z => some (n, f.2.1, .int z :: r, f.2.2.2))
  | _ => none
theorem zo_lcmp (hd : decode cc pc = .ok (.lcmp, 1)) : zz_O l Ts D cl fk cy z0 sp tys G own mn nL cc d K pc (za_lcmp (pc + 1)) :=
  zo_still (fun f f' _ hf => by
    unfold za_lcmp at hf
    split at hf
    · rename_i y x r hst
      rw [zz_fI_eq] at hf
      cases hf
      refine ⟨rfl, fun p e R s m args below meth c H locs cells slots Q ls X hS hl kk => ?_⟩
      rw [hst]
      exact W.lcmp X.1 X.2.1 hd (kk ls hl)
    · cases hf) (fun f f' hf => by
    unfold za_lcmp at hf
    split at hf
    · rename_i y x r hst
      rw [zz_fI_eq] at hf
      cases hf
      rfl
    · cases hf)
def za_dup (n : Nat) : zz_A := fun _ f => match f.2.2.1 with
  | v :: r => if v.category = 1 then some (n, f.2.1, v :: v :: r, f.2.2.2) else none
  | _ => none
theorem zo_dup (hd : decode cc pc = .ok (.dup, 1)) : zz_O l Ts D cl fk cy z0 sp tys G own mn nL cc d K pc (za_dup (pc + 1)) :=
  zo_still (fun f f' _ hf => by
    unfold za_dup at hf
    split at hf
    · rename_i v r hst
      split at hf
      · rename_i hc
        cases hf
        refine ⟨rfl, fun p e R s m args below meth c H locs cells slots Q ls X hS hl kk => ?_⟩
        rw [hst]
        exact lv_dup X.1 X.2.1 hd (by rw [zz_v_cat]; exact hc) (kk ls hl)
      · cases hf
    · cases hf) (fun f f' hf => by
    unfold za_dup at hf
    split at hf
    · rename_i v r hst
      split at hf
      · rename_i hc
        cases hf
        rfl
      · cases hf
    · cases hf)
def za_pop (n : Nat) : zz_A := fun _ f => match f.2.2.1 with
  | v :: r => if v.category = 1 then some (n, f.2.1, r, f.2.2.2) else none
  | _ => none
theorem zo_pop (hd : decode cc pc = .ok (.pop, 1)) : zz_O l Ts D cl fk cy z0 sp tys G own mn nL cc d K pc (za_pop (pc + 1)) :=
  zo_still (fun f f' _ hf => by
    unfold za_pop at hf
    split at hf
    · rename_i v r hst
      split at hf
      · rename_i hc
        cases hf
        refine ⟨rfl, fun p e R s m args below meth c H locs cells slots Q ls X hS hl kk => ?_⟩
        rw [hst]
        exact lv_pop X.1 X.2.1 hd (by rw [zz_v_cat]; exact hc) (kk ls hl)
      · cases hf
    · cases hf) (fun f f' hf => by
    unfold za_pop at hf
    split at hf
    · rename_i v r hst
      split at hf
      · rename_i hc
        cases hf
        rfl
      · cases hf
    · cases hf)
def za_dup_x1 (n : Nat) : zz_A := fun _ f => match f.2.2.1 with
  | v :: u :: r => if v.category = 1 ∧ u.category = 1 then some (n, f.2.1, v :: u :: v :: r, f.2.2.2) else none
  | _ => none
theorem zo_dup_x1 (hd : decode cc pc = .ok (.dup_x1, 1)) : zz_O l Ts D cl fk cy z0 sp tys G own mn nL cc d K pc (za_dup_x1 (pc + 1)) :=
  zo_still (fun f f' _ hf => by
    unfold za_dup_x1 at hf
    split at hf
    · rename_i v u r hst
      split at hf
      · rename_i hc
        cases hf
        refine ⟨rfl, fun p e R s m args below meth c H locs cells slots Q ls X hS hl kk => ?_⟩
        rw [hst]
        exact lv_dup_x1 X.1 X.2.1 hd (by rw [zz_v_cat]; exact hc.1) (by rw [zz_v_cat]; exact hc.2) (kk ls hl)
      · cases hf
    · cases hf) (fun f f' hf => by
    unfold za_dup_x1 at hf
    split at hf
    · rename_i v u r hst
      split at hf
      · rename_i hc
        cases hf
        rfl
      · cases hf
    · cases hf)
def za_dup2_11 (n : Nat) : zz_A := fun _ f => match f.2.2.1 with
  | v :: u :: r => if v.category = 1 ∧ u.category = 1 then some (n, f.2.1, v :: u :: v :: u :: r, f.2.2.2) else none
  | _ => none
theorem zo_dup2_11 (hd : decode cc pc = .ok (.dup2, 1)) : zz_O l Ts D cl fk cy z0 sp tys G own mn nL cc d K pc (za_dup2_11 (pc + 1)) :=
  zo_still (fun f f' _ hf => by
    unfold za_dup2_11 at hf
    split at hf
    · rename_i v u r hst
      split at hf
      · rename_i hc
        cases hf
        refine ⟨rfl, fun p e R s m args below meth c H locs cells slots Q ls X hS hl kk => ?_⟩
        rw [hst]
        exact lv_dup2_11 X.1 X.2.1 hd (by rw [zz_v_cat]; exact hc.1) (by rw [zz_v_cat]; exact hc.2) (kk ls hl)
      · cases hf
    · cases hf) (fun f f' hf => by
    unfold za_dup2_11 at hf
    split at hf
    · rename_i v u r hst
      split at hf
      · rename_i hc
        cases hf
        rfl
      · cases hf
    · cases hf)
def za_dup2_2 (n : Nat) : zz_A := fun _ f => match f.2.2.1 with
  | v :: r => if v.category = 2 then some (n, f.2.1, v :: v :: r, f.2.2.2) else none
  | _ => none
theorem zo_dup2_2 (hd : decode cc pc = .ok (.dup2, 1)) : zz_O l Ts D cl fk cy z0 sp tys G own mn nL cc d K pc (za_dup2_2 (pc + 1)) :=
  zo_still (fun f f' _ hf => by
    unfold za_dup2_2 at hf
    split at hf
    · rename_i v r hst
      split at hf
      · rename_i hc
        cases hf
        refine ⟨rfl, fun p e R s m args below meth c H locs cells slots Q ls X hS hl kk => ?_⟩
        rw [hst]
        exact lv_dup2_2 X.1 X.2.1 hd (by rw [zz_v_cat]; exact hc) (kk ls hl)
      · cases hf
    · cases hf) (fun f f' hf => by
    unfold za_dup2_2 at hf
    split at hf
    · rename_i v r hst
      split at hf
      · rename_i hc
        cases hf
        rfl
      · cases hf
    · cases hf)
def za_pop2_2 (n : Nat) : zz_A := fun _ f => match f.2.2.1 with
  | v :: r => if v.category = 2 then some (n, f.2.1, r, f.2.2.2) else none
  | _ => none
theorem zo_pop2_2 (hd : decode cc pc = .ok (.pop2, 1)) : zz_O l Ts D cl fk cy z0 sp tys G own mn nL cc d K pc (za_pop2_2 (pc + 1)) :=
  zo_still (fun f f' _ hf => by
    unfold za_pop2_2 at hf
    split at hf
    · rename_i v r hst
      split at hf
      · rename_i hc
        cases hf
        refine ⟨rfl, fun p e R s m args below meth c H locs cells slots Q ls X hS hl kk => ?_⟩
        rw [hst]
        exact lv_pop2_2 X.1 X.2.1 hd (by rw [zz_v_cat]; exact hc) (kk ls hl)
      · cases hf
    · cases hf) (fun f f' hf => by
    unfold za_pop2_2 at hf
    split at hf
    · rename_i v r hst
      split at hf
      · rename_i hc
        cases hf
        rfl
      · cases hf
    · cases hf)
theorem zo_iconst {k : Int} {v : Int32} (hd : decode cc pc = .ok (.iconst k, 1)) (hv : Int32.ofInt k = v) : zz_O l Ts D cl fk cy z0 sp tys G own mn nL cc d K pc (za_const (.int v) (pc + 1)) :=
  zo_still (fun f f' _ hf => by
    cases hf
    refine ⟨rfl, fun p e R s m args below meth c H locs cells slots Q ls X hS hl kk => ?_⟩
    exact lv_iconst X.1 X.2.1 hd hv (kk ls hl)) (fun f f' hf => by cases hf; rfl)
theorem zo_bipush {k : Int} {v : Int32} (hd : decode cc pc = .ok (.bipush k, 2)) (hv : (Int8.ofInt k).toInt32 = v) : zz_O l Ts D cl fk cy z0 sp tys G own mn nL cc d K pc (za_const (.int v) (pc + 2)) :=
  zo_still (fun f f' _ hf => by
    cases hf
    refine ⟨rfl, fun p e R s m args below meth c H locs cells slots Q ls X hS hl kk => ?_⟩
    exact lv_bipush X.1 X.2.1 hd hv (kk ls hl)) (fun f f' hf => by cases hf; rfl)
theorem zo_sipush {k : Int} {v : Int32} (hd : decode cc pc = .ok (.sipush k, 3)) (hv : (Int16.ofInt k).toInt32 = v) : zz_O l Ts D cl fk cy z0 sp tys G own mn nL cc d K pc (za_const (.int v) (pc + 3)) :=
  zo_still (fun f f' _ hf => by
    cases hf
    refine ⟨rfl, fun p e R s m args below meth c H locs cells slots Q ls X hS hl kk => ?_⟩
    exact lv_sipush X.1 X.2.1 hd hv (kk ls hl)) (fun f f' hf => by cases hf; rfl)
theorem zo_lconst {k : Fin 2} {v : Int64} (hd : decode cc pc = .ok (.lconst k, 1)) (hv : Int64.ofNat (k : Nat) = v) : zz_O l Ts D cl fk cy z0 sp tys G own mn nL cc d K pc (za_const (.long v) (pc + 1)) :=
  zo_still (fun f f' _ hf => by
    cases hf
    refine ⟨rfl, fun p e R s m args below meth c H locs cells slots Q ls X hS hl kk => ?_⟩
    exact lv_lconst X.1 X.2.1 hd hv (kk ls hl)) (fun f f' hf => by cases hf; rfl)
theorem zo_null (hd : decode cc pc = .ok (.aconst_null, 1)) : zz_O l Ts D cl fk cy z0 sp tys G own mn nL cc d K pc (za_const (.null) (pc + 1)) :=
  zo_still (fun f f' _ hf => by
    cases hf
    refine ⟨rfl, fun p e R s m args below meth c H locs cells slots Q ls X hS hl kk => ?_⟩
    exact lv_null X.1 X.2.1 hd (kk ls hl)) (fun f f' hf => by cases hf; rfl)
theorem zo_ldc {i : Nat} {v : Int32} (hd : decode cc pc = .ok (.ldc i, 2)) (hw : Cond.constant own i v ∈ Ts) : zz_O l Ts D cl fk cy z0 sp tys G own mn nL cc d K pc (za_const (.int v) (pc + 2)) :=
  zo_still (fun f f' _ hf => by
    cases hf
    refine ⟨rfl, fun p e R s m args below meth c H locs cells slots Q ls X hS hl kk => ?_⟩
    exact lv_ldc X.1 X.2.1 X.2.2.2.1 (X.2.2.2.2.1 _ hw) hd (kk ls hl)) (fun f f' hf => by cases hf; rfl)
theorem zo_ldcw {i : Nat} {v : Int32} (hd : decode cc pc = .ok (.ldc_w i, 3)) (hw : Cond.constant own i v ∈ Ts) : zz_O l Ts D cl fk cy z0 sp tys G own mn nL cc d K pc (za_const (.int v) (pc + 3)) :=
  zo_still (fun f f' _ hf => by
    cases hf
    refine ⟨rfl, fun p e R s m args below meth c H locs cells slots Q ls X hS hl kk => ?_⟩
    exact lv_ldcw X.1 X.2.1 X.2.2.2.1 (X.2.2.2.2.1 _ hw) hd (kk ls hl)) (fun f f' hf => by cases hf; rfl)
theorem zo_ldc2 {i : Nat} {v : Int64} (hd : decode cc pc = .ok (.ldc2_w i, 3)) (hw : Cond.constantLong own i v ∈ Ts) : zz_O l Ts D cl fk cy z0 sp tys G own mn nL cc d K pc (za_const (.long v) (pc + 3)) :=
  zo_still (fun f f' _ hf => by
    cases hf
    refine ⟨rfl, fun p e R s m args below meth c H locs cells slots Q ls X hS hl kk => ?_⟩
    exact lv_ldc2 X.1 X.2.1 X.2.2.2.1 (X.2.2.2.2.1 _ hw) hd (kk ls hl)) (fun f f' hf => by cases hf; rfl)
def za_iload (i n : Nat) : zz_A := fun _ f => match zz_lg f.2.1 i with
  | some (.int v) => some (n, f.2.1, .int v :: f.2.2.1, f.2.2.2)
  | _ => none
def za_lload (i n : Nat) : zz_A := fun _ f => match zz_lg f.2.1 i with
  | some (.long v) => some (n, f.2.1, .long v :: f.2.2.1, f.2.2.2)
  | _ => none
def za_aload (i n : Nat) : zz_A := fun _ f => match zz_lg f.2.1 i with
  | some (.ref v) => some (n, f.2.1, .ref v :: f.2.2.1, f.2.2.2)
  | some .null => some (n, f.2.1, .null :: f.2.2.1, f.2.2.2)
  | _ => none
theorem zo_iload_n {k : Fin 4} {i : Nat} (hd : decode cc pc = .ok (.iload_n k, 1)) (hi : (k : Nat) = i) : zz_O l Ts D cl fk cy z0 sp tys G own mn nL cc d K pc (za_iload i (pc + 1)) :=
  zo_still (fun f f' _ hf => by
    unfold za_iload at hf
    split at hf
    · rename_i v hv
      cases hf
      refine ⟨rfl, fun p e R s m args below meth c H locs cells slots Q ls X hS hl kk => ?_⟩
      exact lv_iload_n X.1 X.2.1 hd hi (zz_lg_at hl hv) (kk ls hl)
    · cases hf) (fun f f' hf => by
    unfold za_iload at hf
    split at hf
    · rename_i v hv
      cases hf
      rfl
    · cases hf)
theorem zo_iload {i : Nat} (hd : decode cc pc = .ok (.iload i, 2)) : zz_O l Ts D cl fk cy z0 sp tys G own mn nL cc d K pc (za_iload i (pc + 2)) :=
  zo_still (fun f f' _ hf => by
    unfold za_iload at hf
    split at hf
    · rename_i v hv
      cases hf
      refine ⟨rfl, fun p e R s m args below meth c H locs cells slots Q ls X hS hl kk => ?_⟩
      exact lv_iload X.1 X.2.1 hd (zz_lg_at hl hv) (kk ls hl)
    · cases hf) (fun f f' hf => by
    unfold za_iload at hf
    split at hf
    · rename_i v hv
      cases hf
      rfl
    · cases hf)
theorem zo_lload_n {k : Fin 4} {i : Nat} (hd : decode cc pc = .ok (.lload_n k, 1)) (hi : (k : Nat) = i) : zz_O l Ts D cl fk cy z0 sp tys G own mn nL cc d K pc (za_lload i (pc + 1)) :=
  zo_still (fun f f' _ hf => by
    unfold za_lload at hf
    split at hf
    · rename_i v hv
      cases hf
      refine ⟨rfl, fun p e R s m args below meth c H locs cells slots Q ls X hS hl kk => ?_⟩
      exact lv_lload_n X.1 X.2.1 hd hi (zz_lg_at hl hv) (kk ls hl)
    · cases hf) (fun f f' hf => by
    unfold za_lload at hf
    split at hf
    · rename_i v hv
      cases hf
      rfl
    · cases hf)
theorem zo_lload {i : Nat} (hd : decode cc pc = .ok (.lload i, 2)) : zz_O l Ts D cl fk cy z0 sp tys G own mn nL cc d K pc (za_lload i (pc + 2)) :=
  zo_still (fun f f' _ hf => by
    unfold za_lload at hf
    split at hf
    · rename_i v hv
      cases hf
      refine ⟨rfl, fun p e R s m args below meth c H locs cells slots Q ls X hS hl kk => ?_⟩
      exact lv_lload X.1 X.2.1 hd (zz_lg_at hl hv) (kk ls hl)
    · cases hf) (fun f f' hf => by
    unfold za_lload at hf
    split at hf
    · rename_i v hv
      cases hf
      rfl
    · cases hf)
theorem zo_aload_n {k : Fin 4} {i : Nat} (hd : decode cc pc = .ok (.aload_n k, 1)) (hi : (k : Nat) = i) : zz_O l Ts D cl fk cy z0 sp tys G own mn nL cc d K pc (za_aload i (pc + 1)) :=
  zo_still (fun f f' _ hf => by
    unfold za_aload at hf
    split at hf
    · rename_i v hv
      cases hf
      refine ⟨rfl, fun p e R s m args below meth c H locs cells slots Q ls X hS hl kk => ?_⟩
      exact lv_aload_n X.1 X.2.1 hd hi (zz_lg_at hl hv) (kk ls hl)
    · rename_i hv
      cases hf
      refine ⟨rfl, fun p e R s m args below meth c H locs cells slots Q ls X hS hl kk => ?_⟩
      exact lv_aload_nN X.1 X.2.1 hd hi (zz_lg_at hl hv) (kk ls hl)
    · cases hf) (fun f f' hf => by
    unfold za_aload at hf
    split at hf
    · rename_i v hv
      cases hf
      rfl
    · rename_i hv
      cases hf
      rfl
    · cases hf)
theorem zo_aload {i : Nat} (hd : decode cc pc = .ok (.aload i, 2)) : zz_O l Ts D cl fk cy z0 sp tys G own mn nL cc d K pc (za_aload i (pc + 2)) :=
  zo_still (fun f f' _ hf => by
    unfold za_aload at hf
    split at hf
    · rename_i v hv
      cases hf
      refine ⟨rfl, fun p e R s m args below meth c H locs cells slots Q ls X hS hl kk => ?_⟩
      exact lv_aload X.1 X.2.1 hd (zz_lg_at hl hv) (kk ls hl)
    · rename_i hv
      cases hf
      refine ⟨rfl, fun p e R s m args below meth c H locs cells slots Q ls X hS hl kk => ?_⟩
      exact lv_aloadN X.1 X.2.1 hd (zz_lg_at hl hv) (kk ls hl)
    · cases hf) (fun f f' hf => by
    unfold za_aload at hf
    split at hf
    · rename_i v hv
      cases hf
      rfl
    · rename_i hv
      cases hf
      rfl
    · cases hf)
noncomputable def za_istore (i n : Nat) : zz_A := fun _ f => match f.2.2.1 with
  | .int v :: r => zz_lf false i f.2.1 (fun l => some (n, (i, .int v) :: l, r, f.2.2.2))
  | _ => none
noncomputable def za_lstore (i n : Nat) : zz_A := fun _ f => match f.2.2.1 with
  | .long v :: r => zz_lf true i f.2.1 (fun l => some (n, (i, .long v) :: l, r, f.2.2.2))
  | _ => none
noncomputable def za_astore (i n : Nat) : zz_A := fun _ f => match f.2.2.1 with
  | .ref v :: r => zz_lf false i f.2.1 (fun l => some (n, (i, .ref v) :: l, r, f.2.2.2))
  | .null :: r => zz_lf false i f.2.1 (fun l => some (n, (i, .null) :: l, r, f.2.2.2))
  | _ => none
theorem zo_istore_n {k : Fin 4} {i : Nat} (hd : decode cc pc = .ok (.istore_n k, 1)) (hi : (k : Nat) = i) (hn : i < nL) : zz_O l Ts D cl fk cy z0 sp tys G own mn nL cc d K pc (za_istore i (pc + 1)) :=
  zo_still (fun f f' _ hf => by
    unfold za_istore at hf
    split at hf
    · rename_i v r hst
      rw [zz_lf_eq] at hf
      cases hf
      refine ⟨rfl, fun p e R s m args below meth c H locs cells slots Q ls X hS hl kk => ?_⟩
      rw [hst]
      exact lv_istore_n X.1 X.2.1 hd hi hl hn (by rw [← zz_lk1, zz_lv_filter]; rfl) (fun ls' hl' => kk ls' hl')
    · cases hf) (fun f f' hf => by
    unfold za_istore at hf
    split at hf
    · rename_i v r hst
      rw [zz_lf_eq] at hf
      cases hf
      rfl
    · cases hf)
theorem zo_istore {i : Nat} (hd : decode cc pc = .ok (.istore i, 2)) (hn : i < nL) : zz_O l Ts D cl fk cy z0 sp tys G own mn nL cc d K pc (za_istore i (pc + 2)) :=
  zo_still (fun f f' _ hf => by
    unfold za_istore at hf
    split at hf
    · rename_i v r hst
      rw [zz_lf_eq] at hf
      cases hf
      refine ⟨rfl, fun p e R s m args below meth c H locs cells slots Q ls X hS hl kk => ?_⟩
      rw [hst]
      exact lv_istore X.1 X.2.1 hd hl hn (by rw [← zz_lk1, zz_lv_filter]; rfl) (fun ls' hl' => kk ls' hl')
    · cases hf) (fun f f' hf => by
    unfold za_istore at hf
    split at hf
    · rename_i v r hst
      rw [zz_lf_eq] at hf
      cases hf
      rfl
    · cases hf)
theorem zo_lstore_n {k : Fin 4} {i : Nat} (hd : decode cc pc = .ok (.lstore_n k, 1)) (hi : (k : Nat) = i) (hn : i + 1 < nL) : zz_O l Ts D cl fk cy z0 sp tys G own mn nL cc d K pc (za_lstore i (pc + 1)) :=
  zo_still (fun f f' _ hf => by
    unfold za_lstore at hf
    split at hf
    · rename_i v r hst
      rw [zz_lf_eq] at hf
      cases hf
      refine ⟨rfl, fun p e R s m args below meth c H locs cells slots Q ls X hS hl kk => ?_⟩
      rw [hst]
      exact lv_lstore_n X.1 X.2.1 hd hi hl hn (by rw [← zz_lk2, zz_lv_filter]; rfl) (fun ls' hl' => kk ls' hl')
    · cases hf) (fun f f' hf => by
    unfold za_lstore at hf
    split at hf
    · rename_i v r hst
      rw [zz_lf_eq] at hf
      cases hf
      rfl
    · cases hf)
theorem zo_lstore {i : Nat} (hd : decode cc pc = .ok (.lstore i, 2)) (hn : i + 1 < nL) : zz_O l Ts D cl fk cy z0 sp tys G own mn nL cc d K pc (za_lstore i (pc + 2)) :=
  zo_still (fun f f' _ hf => by
    unfold za_lstore at hf
    split at hf
    · rename_i v r hst
      rw [zz_lf_eq] at hf
      cases hf
      refine ⟨rfl, fun p e R s m args below meth c H locs cells slots Q ls X hS hl kk => ?_⟩
      rw [hst]
      exact lv_lstore X.1 X.2.1 hd hl hn (by rw [← zz_lk2, zz_lv_filter]; rfl) (fun ls' hl' => kk ls' hl')
    · cases hf) (fun f f' hf => by
    unfold za_lstore at hf
    split at hf
    · rename_i v r hst
      rw [zz_lf_eq] at hf
      cases hf
      rfl
    · cases hf)
theorem zo_astore_n {k : Fin 4} {i : Nat} (hd : decode cc pc = .ok (.astore_n k, 1)) (hi : (k : Nat) = i) (hn : i < nL) : zz_O l Ts D cl fk cy z0 sp tys G own mn nL cc d K pc (za_astore i (pc + 1)) :=
  zo_still (fun f f' _ hf => by
    unfold za_astore at hf
    split at hf
    · rename_i v r hst
      rw [zz_lf_eq] at hf
      cases hf
      refine ⟨rfl, fun p e R s m args below meth c H locs cells slots Q ls X hS hl kk => ?_⟩
      rw [hst]
      exact lv_astore_n X.1 X.2.1 hd hi hl hn (by rw [← zz_lk1, zz_lv_filter]; rfl) (fun ls' hl' => kk ls' hl')
    · rename_i r hst
      rw [zz_lf_eq] at hf
      cases hf
      refine ⟨rfl, fun p e R s m args below meth c H locs cells slots Q ls X hS hl kk => ?_⟩
      rw [hst]
      exact lv_astore_nN X.1 X.2.1 hd hi hl hn (by rw [← zz_lk1, zz_lv_filter]; rfl) (fun ls' hl' => kk ls' hl')
    · cases hf) (fun f f' hf => by
    unfold za_astore at hf
    split at hf
    · rename_i v r hst
      rw [zz_lf_eq] at hf
      cases hf
      rfl
    · rename_i r hst
      rw [zz_lf_eq] at hf
      cases hf
      rfl
    · cases hf)
theorem zo_astore {i : Nat} (hd : decode cc pc = .ok (.astore i, 2)) (hn : i < nL) : zz_O l Ts D cl fk cy z0 sp tys G own mn nL cc d K pc (za_astore i (pc + 2)) :=
  zo_still (fun f f' _ hf => by
    unfold za_astore at hf
    split at hf
    · rename_i v r hst
      rw [zz_lf_eq] at hf
      cases hf
      refine ⟨rfl, fun p e R s m args below meth c H locs cells slots Q ls X hS hl kk => ?_⟩
      rw [hst]
      exact lv_astore X.1 X.2.1 hd hl hn (by rw [← zz_lk1, zz_lv_filter]; rfl) (fun ls' hl' => kk ls' hl')
    · rename_i r hst
      rw [zz_lf_eq] at hf
      cases hf
      refine ⟨rfl, fun p e R s m args below meth c H locs cells slots Q ls X hS hl kk => ?_⟩
      rw [hst]
      exact lv_astoreN X.1 X.2.1 hd hl hn (by rw [← zz_lk1, zz_lv_filter]; rfl) (fun ls' hl' => kk ls' hl')
    · cases hf) (fun f f' hf => by
    unfold za_astore at hf
    split at hf
    · rename_i v r hst
      rw [zz_lf_eq] at hf
      cases hf
      rfl
    · rename_i r hst
      rw [zz_lf_eq] at hf
      cases hf
      rfl
    · cases hf)
noncomputable def za_iinc (i : Nat) (v : Int32) (n : Nat) : zz_A := fun _ f => match zz_lg f.2.1 i with
  | some (.int x) => zz_fI (x + v) (fun z => zz_lf false i f.2.1 (fun l => some (n, (i, .int z) :: l, f.2.2.1, f.2.2.2)))
  | _ => none
theorem zo_iinc {i : Nat} {k : Int} {v : Int32} (hd : decode cc pc = .ok (.iinc i k, 3)) (hv : Int32.ofInt k = v) (hn : i < nL) : zz_O l Ts D cl fk cy z0 sp tys G own mn nL cc d K pc (za_iinc i v (pc + 3)) :=
  zo_still (fun f f' _ hf => by
    unfold za_iinc at hf
    split at hf
    · rename_i x hx
      rw [zz_fI_eq, zz_lf_eq] at hf
      cases hf
      refine ⟨rfl, fun p e R s m args below meth c H locs cells slots Q ls X hS hl kk => ?_⟩
      obtain ⟨j, hj⟩ := zz_lg_pl (z0 := z0) (sp := sp) hx
      exact lv_iinc X.1 X.2.1 hd hl hj (by rw [hv]) hn (by rw [← zz_lk1, zz_lv_filter]; rfl) (fun ls' hl' => kk ls' hl')
    · cases hf) (fun f f' hf => by
    unfold za_iinc at hf
    split at hf
    · rw [zz_fI_eq, zz_lf_eq] at hf
      cases hf
      rfl
    · cases hf)
noncomputable def za_goto (n : Nat) : zz_A := fun _ f => some (n, f.2.1, f.2.2.1, f.2.2.2)
theorem zo_goto {off : Int} {n : Nat} (hd : decode cc pc = .ok (.goto off, 3)) (ht : (pc : Int) + off = (n : Int)) : zz_O l Ts D cl fk cy z0 sp tys G own mn nL cc d K pc (za_goto n) :=
  zo_still (fun f f' _ hf => by
    cases hf
    refine ⟨rfl, fun p e R s m args below meth c H locs cells slots Q ls X hS hl kk => ?_⟩
    exact lv_goto X.1 X.2.1 hd ht (kk ls hl)) (fun f f' hf => by cases hf; rfl)
def za_if_eq (t n : Nat) : zz_A := fun _ f => match f.2.2.1 with
  | .int x :: r => if x = 0 then some (t, f.2.1, r, f.2.2.2) else some (n, f.2.1, r, f.2.2.2)
  | _ => none
theorem zo_if_eq {off : Int} {t : Nat} (hd : decode cc pc = .ok (.ifCond .eq off, 3)) (ht : (pc : Int) + off = (t : Int)) : zz_O l Ts D cl fk cy z0 sp tys G own mn nL cc d K pc (za_if_eq t (pc + 3)) :=
  zo_still (fun f f' _ hf => by
    unfold za_if_eq at hf
    split at hf
    · rename_i x r hst
      split at hf
      · rename_i hc
        cases hf
        refine ⟨rfl, fun p e R s m args below meth c H locs cells slots Q ls X hS hl kk => ?_⟩
        rw [hst]
        exact lv_if_eq X.1 X.2.1 hd ht (fun _ => kk ls hl) (fun h => absurd hc h)
      · rename_i hc
        cases hf
        refine ⟨rfl, fun p e R s m args below meth c H locs cells slots Q ls X hS hl kk => ?_⟩
        rw [hst]
        exact lv_if_eq X.1 X.2.1 hd ht (fun h => absurd h hc) (fun _ => kk ls hl)
    · cases hf) (fun f f' hf => by
    unfold za_if_eq at hf
    split at hf
    · rename_i x r hst
      split at hf
      · rename_i hc
        cases hf
        rfl
      · rename_i hc
        cases hf
        rfl
    · cases hf)
def za_if_ne (t n : Nat) : zz_A := fun _ f => match f.2.2.1 with
  | .int x :: r => if ¬ x = 0 then some (t, f.2.1, r, f.2.2.2) else some (n, f.2.1, r, f.2.2.2)
  | _ => none
theorem zo_if_ne {off : Int} {t : Nat} (hd : decode cc pc = .ok (.ifCond .ne off, 3)) (ht : (pc : Int) + off = (t : Int)) : zz_O l Ts D cl fk cy z0 sp tys G own mn nL cc d K pc (za_if_ne t (pc + 3)) :=
  zo_still (fun f f' _ hf => by
    unfold za_if_ne at hf
    split at hf
    · rename_i x r hst
      split at hf
      · rename_i hc
        cases hf
        refine ⟨rfl, fun p e R s m args below meth c H locs cells slots Q ls X hS hl kk => ?_⟩
        rw [hst]
        exact lv_if_ne X.1 X.2.1 hd ht (fun _ => kk ls hl) (fun h => absurd h hc)
      · rename_i hc
        cases hf
        refine ⟨rfl, fun p e R s m args below meth c H locs cells slots Q ls X hS hl kk => ?_⟩
        rw [hst]
        exact lv_if_ne X.1 X.2.1 hd ht (fun h => absurd h hc) (fun _ => kk ls hl)
    · cases hf) (fun f f' hf => by
    unfold za_if_ne at hf
    split at hf
    · rename_i x r hst
      split at hf
      · rename_i hc
        cases hf
        rfl
      · rename_i hc
        cases hf
        rfl
    · cases hf)
def za_if_lt (t n : Nat) : zz_A := fun _ f => match f.2.2.1 with
  | .int x :: r => if x < 0 then some (t, f.2.1, r, f.2.2.2) else some (n, f.2.1, r, f.2.2.2)
  | _ => none
theorem zo_if_lt {off : Int} {t : Nat} (hd : decode cc pc = .ok (.ifCond .lt off, 3)) (ht : (pc : Int) + off = (t : Int)) : zz_O l Ts D cl fk cy z0 sp tys G own mn nL cc d K pc (za_if_lt t (pc + 3)) :=
  zo_still (fun f f' _ hf => by
    unfold za_if_lt at hf
    split at hf
    · rename_i x r hst
      split at hf
      · rename_i hc
        cases hf
        refine ⟨rfl, fun p e R s m args below meth c H locs cells slots Q ls X hS hl kk => ?_⟩
        rw [hst]
        exact lv_if_lt X.1 X.2.1 hd ht (fun _ => kk ls hl) (fun h => absurd hc h)
      · rename_i hc
        cases hf
        refine ⟨rfl, fun p e R s m args below meth c H locs cells slots Q ls X hS hl kk => ?_⟩
        rw [hst]
        exact lv_if_lt X.1 X.2.1 hd ht (fun h => absurd h hc) (fun _ => kk ls hl)
    · cases hf) (fun f f' hf => by
    unfold za_if_lt at hf
    split at hf
    · rename_i x r hst
      split at hf
      · rename_i hc
        cases hf
        rfl
      · rename_i hc
        cases hf
        rfl
    · cases hf)
def za_if_ge (t n : Nat) : zz_A := fun _ f => match f.2.2.1 with
  | .int x :: r => if 0 ≤ x then some (t, f.2.1, r, f.2.2.2) else some (n, f.2.1, r, f.2.2.2)
  | _ => none
theorem zo_if_ge {off : Int} {t : Nat} (hd : decode cc pc = .ok (.ifCond .ge off, 3)) (ht : (pc : Int) + off = (t : Int)) : zz_O l Ts D cl fk cy z0 sp tys G own mn nL cc d K pc (za_if_ge t (pc + 3)) :=
  zo_still (fun f f' _ hf => by
    unfold za_if_ge at hf
    split at hf
    · rename_i x r hst
      split at hf
      · rename_i hc
        cases hf
        refine ⟨rfl, fun p e R s m args below meth c H locs cells slots Q ls X hS hl kk => ?_⟩
        rw [hst]
        exact lv_if_ge X.1 X.2.1 hd ht (fun _ => kk ls hl) (fun h => absurd hc h)
      · rename_i hc
        cases hf
        refine ⟨rfl, fun p e R s m args below meth c H locs cells slots Q ls X hS hl kk => ?_⟩
        rw [hst]
        exact lv_if_ge X.1 X.2.1 hd ht (fun h => absurd h hc) (fun _ => kk ls hl)
    · cases hf) (fun f f' hf => by
    unfold za_if_ge at hf
    split at hf
    · rename_i x r hst
      split at hf
      · rename_i hc
        cases hf
        rfl
      · rename_i hc
        cases hf
        rfl
    · cases hf)
def za_if_gt (t n : Nat) : zz_A := fun _ f => match f.2.2.1 with
  | .int x :: r => if 0 < x then some (t, f.2.1, r, f.2.2.2) else some (n, f.2.1, r, f.2.2.2)
  | _ => none
theorem zo_if_gt {off : Int} {t : Nat} (hd : decode cc pc = .ok (.ifCond .gt off, 3)) (ht : (pc : Int) + off = (t : Int)) : zz_O l Ts D cl fk cy z0 sp tys G own mn nL cc d K pc (za_if_gt t (pc + 3)) :=
  zo_still (fun f f' _ hf => by
    unfold za_if_gt at hf
    split at hf
    · rename_i x r hst
      split at hf
      · rename_i hc
        cases hf
        refine ⟨rfl, fun p e R s m args below meth c H locs cells slots Q ls X hS hl kk => ?_⟩
        rw [hst]
        exact lv_if_gt X.1 X.2.1 hd ht (fun _ => kk ls hl) (fun h => absurd hc h)
      · rename_i hc
        cases hf
        refine ⟨rfl, fun p e R s m args below meth c H locs cells slots Q ls X hS hl kk => ?_⟩
        rw [hst]
        exact lv_if_gt X.1 X.2.1 hd ht (fun h => absurd h hc) (fun _ => kk ls hl)
    · cases hf) (fun f f' hf => by
    unfold za_if_gt at hf
    split at hf
    · rename_i x r hst
      split at hf
      · rename_i hc
        cases hf
        rfl
      · rename_i hc
        cases hf
        rfl
    · cases hf)
def za_if_le (t n : Nat) : zz_A := fun _ f => match f.2.2.1 with
  | .int x :: r => if x ≤ 0 then some (t, f.2.1, r, f.2.2.2) else some (n, f.2.1, r, f.2.2.2)
  | _ => none
theorem zo_if_le {off : Int} {t : Nat} (hd : decode cc pc = .ok (.ifCond .le off, 3)) (ht : (pc : Int) + off = (t : Int)) : zz_O l Ts D cl fk cy z0 sp tys G own mn nL cc d K pc (za_if_le t (pc + 3)) :=
  zo_still (fun f f' _ hf => by
    unfold za_if_le at hf
    split at hf
    · rename_i x r hst
      split at hf
      · rename_i hc
        cases hf
        refine ⟨rfl, fun p e R s m args below meth c H locs cells slots Q ls X hS hl kk => ?_⟩
        rw [hst]
        exact lv_if_le X.1 X.2.1 hd ht (fun _ => kk ls hl) (fun h => absurd hc h)
      · rename_i hc
        cases hf
        refine ⟨rfl, fun p e R s m args below meth c H locs cells slots Q ls X hS hl kk => ?_⟩
        rw [hst]
        exact lv_if_le X.1 X.2.1 hd ht (fun h => absurd h hc) (fun _ => kk ls hl)
    · cases hf) (fun f f' hf => by
    unfold za_if_le at hf
    split at hf
    · rename_i x r hst
      split at hf
      · rename_i hc
        cases hf
        rfl
      · rename_i hc
        cases hf
        rfl
    · cases hf)
def za_icmp_eq (t n : Nat) : zz_A := fun _ f => match f.2.2.1 with
  | .int y :: .int x :: r => if x = y then some (t, f.2.1, r, f.2.2.2) else some (n, f.2.1, r, f.2.2.2)
  | _ => none
theorem zo_icmp_eq {off : Int} {t : Nat} (hd : decode cc pc = .ok (.if_icmp .eq off, 3)) (ht : (pc : Int) + off = (t : Int)) : zz_O l Ts D cl fk cy z0 sp tys G own mn nL cc d K pc (za_icmp_eq t (pc + 3)) :=
  zo_still (fun f f' _ hf => by
    unfold za_icmp_eq at hf
    split at hf
    · rename_i y x r hst
      split at hf
      · rename_i hc
        cases hf
        refine ⟨rfl, fun p e R s m args below meth c H locs cells slots Q ls X hS hl kk => ?_⟩
        rw [hst]
        exact lv_icmp_eq X.1 X.2.1 hd ht (fun _ => kk ls hl) (fun h => absurd hc h)
      · rename_i hc
        cases hf
        refine ⟨rfl, fun p e R s m args below meth c H locs cells slots Q ls X hS hl kk => ?_⟩
        rw [hst]
        exact lv_icmp_eq X.1 X.2.1 hd ht (fun h => absurd h hc) (fun _ => kk ls hl)
    · cases hf) (fun f f' hf => by
    unfold za_icmp_eq at hf
    split at hf
    · rename_i y x r hst
      split at hf
      · rename_i hc
        cases hf
        rfl
      · rename_i hc
        cases hf
        rfl
    · cases hf)
def za_icmp_ne (t n : Nat) : zz_A := fun _ f => match f.2.2.1 with
  | .int y :: .int x :: r => if ¬ x = y then some (t, f.2.1, r, f.2.2.2) else some (n, f.2.1, r, f.2.2.2)
  | _ => none
theorem zo_icmp_ne {off : Int} {t : Nat} (hd : decode cc pc = .ok (.if_icmp .ne off, 3)) (ht : (pc : Int) + off = (t : Int)) : zz_O l Ts D cl fk cy z0 sp tys G own mn nL cc d K pc (za_icmp_ne t (pc + 3)) :=
  zo_still (fun f f' _ hf => by
    unfold za_icmp_ne at hf
    split at hf
    · rename_i y x r hst
      split at hf
      · rename_i hc
        cases hf
        refine ⟨rfl, fun p e R s m args below meth c H locs cells slots Q ls X hS hl kk => ?_⟩
        rw [hst]
        exact lv_icmp_ne X.1 X.2.1 hd ht (fun _ => kk ls hl) (fun h => absurd h hc)
      · rename_i hc
        cases hf
        refine ⟨rfl, fun p e R s m args below meth c H locs cells slots Q ls X hS hl kk => ?_⟩
        rw [hst]
        exact lv_icmp_ne X.1 X.2.1 hd ht (fun h => absurd h hc) (fun _ => kk ls hl)
    · cases hf) (fun f f' hf => by
    unfold za_icmp_ne at hf
    split at hf
    · rename_i y x r hst
      split at hf
      · rename_i hc
        cases hf
        rfl
      · rename_i hc
        cases hf
        rfl
    · cases hf)
def za_icmp_lt (t n : Nat) : zz_A := fun _ f => match f.2.2.1 with
  | .int y :: .int x :: r => if x < y then some (t, f.2.1, r, f.2.2.2) else some (n, f.2.1, r, f.2.2.2)
  | _ => none
theorem zo_icmp_lt {off : Int} {t : Nat} (hd : decode cc pc = .ok (.if_icmp .lt off, 3)) (ht : (pc : Int) + off = (t : Int)) : zz_O l Ts D cl fk cy z0 sp tys G own mn nL cc d K pc (za_icmp_lt t (pc + 3)) :=
  zo_still (fun f f' _ hf => by
    unfold za_icmp_lt at hf
    split at hf
    · rename_i y x r hst
      split at hf
      · rename_i hc
        cases hf
        refine ⟨rfl, fun p e R s m args below meth c H locs cells slots Q ls X hS hl kk => ?_⟩
        rw [hst]
        exact lv_icmp_lt X.1 X.2.1 hd ht (fun _ => kk ls hl) (fun h => absurd hc h)
      · rename_i hc
        cases hf
        refine ⟨rfl, fun p e R s m args below meth c H locs cells slots Q ls X hS hl kk => ?_⟩
        rw [hst]
        exact lv_icmp_lt X.1 X.2.1 hd ht (fun h => absurd h hc) (fun _ => kk ls hl)
    · cases hf) (fun f f' hf => by
    unfold za_icmp_lt at hf
    split at hf
    · rename_i y x r hst
      split at hf
      · rename_i hc
        cases hf
        rfl
      · rename_i hc
        cases hf
        rfl
    · cases hf)
def za_icmp_ge (t n : Nat) : zz_A := fun _ f => match f.2.2.1 with
  | .int y :: .int x :: r => if y ≤ x then some (t, f.2.1, r, f.2.2.2) else some (n, f.2.1, r, f.2.2.2)
  | _ => none
theorem zo_icmp_ge {off : Int} {t : Nat} (hd : decode cc pc = .ok (.if_icmp .ge off, 3)) (ht : (pc : Int) + off = (t : Int)) : zz_O l Ts D cl fk cy z0 sp tys G own mn nL cc d K pc (za_icmp_ge t (pc + 3)) :=
  zo_still (fun f f' _ hf => by
    unfold za_icmp_ge at hf
    split at hf
    · rename_i y x r hst
      split at hf
      · rename_i hc
        cases hf
        refine ⟨rfl, fun p e R s m args below meth c H locs cells slots Q ls X hS hl kk => ?_⟩
        rw [hst]
        exact lv_icmp_ge X.1 X.2.1 hd ht (fun _ => kk ls hl) (fun h => absurd hc h)
      · rename_i hc
        cases hf
        refine ⟨rfl, fun p e R s m args below meth c H locs cells slots Q ls X hS hl kk => ?_⟩
        rw [hst]
        exact lv_icmp_ge X.1 X.2.1 hd ht (fun h => absurd h hc) (fun _ => kk ls hl)
    · cases hf) (fun f f' hf => by
    unfold za_icmp_ge at hf
    split at hf
    · rename_i y x r hst
      split at hf
      · rename_i hc
        cases hf
        rfl
      · rename_i hc
        cases hf
        rfl
    · cases hf)
def za_icmp_gt (t n : Nat) : zz_A := fun _ f => match f.2.2.1 with
  | .int y :: .int x :: r => if y < x then some (t, f.2.1, r, f.2.2.2) else some (n, f.2.1, r, f.2.2.2)
  | _ => none
theorem zo_icmp_gt {off : Int} {t : Nat} (hd : decode cc pc = .ok (.if_icmp .gt off, 3)) (ht : (pc : Int) + off = (t : Int)) : zz_O l Ts D cl fk cy z0 sp tys G own mn nL cc d K pc (za_icmp_gt t (pc + 3)) :=
  zo_still (fun f f' _ hf => by
    unfold za_icmp_gt at hf
    split at hf
    · rename_i y x r hst
      split at hf
      · rename_i hc
        cases hf
        refine ⟨rfl, fun p e R s m args below meth c H locs cells slots Q ls X hS hl kk => ?_⟩
        rw [hst]
        exact lv_icmp_gt X.1 X.2.1 hd ht (fun _ => kk ls hl) (fun h => absurd hc h)
      · rename_i hc
        cases hf
        refine ⟨rfl, fun p e R s m args below meth c H locs cells slots Q ls X hS hl kk => ?_⟩
        rw [hst]
        exact lv_icmp_gt X.1 X.2.1 hd ht (fun h => absurd h hc) (fun _ => kk ls hl)
    · cases hf) (fun f f' hf => by
    unfold za_icmp_gt at hf
    split at hf
    · rename_i y x r hst
      split at hf
      · rename_i hc
        cases hf
        rfl
      · rename_i hc
        cases hf
        rfl
    · cases hf)
def za_icmp_le (t n : Nat) : zz_A := fun _ f => match f.2.2.1 with
  | .int y :: .int x :: r => if x ≤ y then some (t, f.2.1, r, f.2.2.2) else some (n, f.2.1, r, f.2.2.2)
  | _ => none
theorem zo_icmp_le {off : Int} {t : Nat} (hd : decode cc pc = .ok (.if_icmp .le off, 3)) (ht : (pc : Int) + off = (t : Int)) : zz_O l Ts D cl fk cy z0 sp tys G own mn nL cc d K pc (za_icmp_le t (pc + 3)) :=
  zo_still (fun f f' _ hf => by
    unfold za_icmp_le at hf
    split at hf
    · rename_i y x r hst
      split at hf
      · rename_i hc
        cases hf
        refine ⟨rfl, fun p e R s m args below meth c H locs cells slots Q ls X hS hl kk => ?_⟩
        rw [hst]
        exact lv_icmp_le X.1 X.2.1 hd ht (fun _ => kk ls hl) (fun h => absurd hc h)
      · rename_i hc
        cases hf
        refine ⟨rfl, fun p e R s m args below meth c H locs cells slots Q ls X hS hl kk => ?_⟩
        rw [hst]
        exact lv_icmp_le X.1 X.2.1 hd ht (fun h => absurd h hc) (fun _ => kk ls hl)
    · cases hf) (fun f f' hf => by
    unfold za_icmp_le at hf
    split at hf
    · rename_i y x r hst
      split at hf
      · rename_i hc
        cases hf
        rfl
      · rename_i hc
        cases hf
        rfl
    · cases hf)
def za_ifnull (t n : Nat) : zz_A := fun _ f => match f.2.2.1 with
  | .ref _ :: r => some (n, f.2.1, r, f.2.2.2)
  | .null :: r => some (t, f.2.1, r, f.2.2.2)
  | _ => none
theorem zo_ifnull {off : Int} {t : Nat} (hd : decode cc pc = .ok (.ifnull off, 3)) (ht : (pc : Int) + off = (t : Int)) : zz_O l Ts D cl fk cy z0 sp tys G own mn nL cc d K pc (za_ifnull t (pc + 3)) :=
  zo_still (fun f f' _ hf => by
    unfold za_ifnull at hf
    split at hf
    · rename_i x r hst
      cases hf
      refine ⟨rfl, fun p e R s m args below meth c H locs cells slots Q ls X hS hl kk => ?_⟩
      rw [hst]
      exact lv_ifnull X.1 X.2.1 hd (kk ls hl)
    · rename_i r hst
      cases hf
      refine ⟨rfl, fun p e R s m args below meth c H locs cells slots Q ls X hS hl kk => ?_⟩
      rw [hst]
      exact lv_ifnullN X.1 X.2.1 hd ht (kk ls hl)
    · cases hf) (fun f f' hf => by
    unfold za_ifnull at hf
    split at hf
    · rename_i x r hst
      cases hf
      rfl
    · rename_i r hst
      cases hf
      rfl
    · cases hf)
def za_ifnonnull (t n : Nat) : zz_A := fun _ f => match f.2.2.1 with
  | .ref _ :: r => some (t, f.2.1, r, f.2.2.2)
  | .null :: r => some (n, f.2.1, r, f.2.2.2)
  | _ => none
theorem zo_ifnonnull {off : Int} {t : Nat} (hd : decode cc pc = .ok (.ifnonnull off, 3)) (ht : (pc : Int) + off = (t : Int)) : zz_O l Ts D cl fk cy z0 sp tys G own mn nL cc d K pc (za_ifnonnull t (pc + 3)) :=
  zo_still (fun f f' _ hf => by
    unfold za_ifnonnull at hf
    split at hf
    · rename_i x r hst
      cases hf
      refine ⟨rfl, fun p e R s m args below meth c H locs cells slots Q ls X hS hl kk => ?_⟩
      rw [hst]
      exact lv_ifnonnull X.1 X.2.1 hd ht (kk ls hl)
    · rename_i r hst
      cases hf
      refine ⟨rfl, fun p e R s m args below meth c H locs cells slots Q ls X hS hl kk => ?_⟩
      rw [hst]
      exact lv_ifnonnullN X.1 X.2.1 hd (kk ls hl)
    · cases hf) (fun f f' hf => by
    unfold za_ifnonnull at hf
    split at hf
    · rename_i x r hst
      cases hf
      rfl
    · rename_i r hst
      cases hf
      rfl
    · cases hf)
end ZS
