/-! EACH INSTRUCTION OF THE ABSTRACT MACHINE IS SOUND: zz_O says so of what stands at pc: where the abstract one goes from f to f', the real one comes home from f if it does from f'. -/
def zz_X (Ts : List Cond) (D : va_G) (cl : List vw_C) (tys : List (ClassId × FieldType)) (own : String) (nL : Nat) (cc : ByteArray) (p : Program) (s : State) (m : MethodId) (args : Array Value) (meth : Method) (c : Code) : Prop :=
  p.tables.exec = Jvm.exec ∧ c.code = cc ∧ c.maxLocals = nL ∧ s.vm.findClass own = some m.cls ∧ (∀ w ∈ Ts, w.before args s = true) ∧ va_K D cl tys s ∧ meth.locks = false
def zz_O (l : Launch) (Ts : List Cond) (D : va_G) (cl : List vw_C) (fk : Nat → Nat → Nat) (cy : Nat → ClassId) (z0 : Nat) (sp : Nat → Nat) (tys : List (ClassId × FieldType)) (own : String) (nL : Nat) (cc : ByteArray) (d : Nat) (K : zz_K) (pc : Nat) (act : zz_A) : Prop :=
  (∀ f f' : zz_F, act K f = some f' → f.2.2.2.1 ≤ f'.2.2.2.1 ∧ f.2.2.2.2.1 ≤ f'.2.2.2.2.1) ∧
  ∀ (p : Program) (e : Env) (R : Room) (s : State) (m : MethodId) (args : Array Value) (below : List Frame) (meth : Method) (c : Code), zz_X Ts D cl tys own nL cc p s m args meth c → d + 1 ≤ R.frames → 64 * (d + 1) ≤ R.locals →
  ∀ (H : Heap) (locs : List Loc) (n0 s0 : Nat) (Q : State → Prop) (ls : Array Slot) (f f' : zz_F), f.1 = pc → act K f = some f' → zz_I D cl fk cy z0 sp f.2.2.2 H → va_S (fun q : Nat => z0 ≤ q) s.heap H locs → lv_has ls nL (zz_lv z0 sp f.2.1) →
    n0 ≤ f.2.2.2.1 → s0 ≤ f.2.2.2.2.1 → f'.2.2.2.1 - n0 ≤ R.cells → f'.2.2.2.2.1 - s0 ≤ R.slots →
    (∀ (H' : Heap) (locs' : List Loc) (ls' : Array Slot), zz_I D cl fk cy z0 sp f'.2.2.2 H' → va_S (fun q : Nat => z0 ≤ q) s.heap H' locs' → lv_has ls' nL (zz_lv z0 sp f'.2.1) → W p l e R s m args below meth c H' locs' (f'.2.2.2.1 - n0) (f'.2.2.2.2.1 - s0) Q (F0 m f'.1 ls' (zz_sv z0 sp f'.2.2.1))) →
    W p l e R s m args below meth c H locs (f.2.2.2.1 - n0) (f.2.2.2.2.1 - s0) Q (F0 m pc ls (zz_sv z0 sp f.2.2.1))
section ZS
variable {l : Launch} {Ts : List Cond} {D : va_G} {cl : List vw_C} {fk : Nat → Nat → Nat} {cy : Nat → ClassId} {z0 : Nat} {sp : Nat → Nat} {tys : List (ClassId × FieldType)} {own : String} {nL : Nat} {cc : ByteArray} {d : Nat} {K : zz_K} {pc : Nat}
/-- an instruction that touches no cell -/
theorem zo_still {act : zz_A} (h : ∀ f f' : zz_F, f.1 = pc → act K f = some f' → f'.2.2.2 = f.2.2.2 ∧ ∀ (p : Program) (e : Env) (R : Room) (s : State) (m : MethodId) (args : Array Value) (below : List Frame) (meth : Method) (c : Code) (H : Heap) (locs : List Loc) (cells slots : Nat) (Q : State → Prop) (ls : Array Slot),
      zz_X Ts D cl tys own nL cc p s m args meth c → va_S (fun q : Nat => z0 ≤ q) s.heap H locs → lv_has ls nL (zz_lv z0 sp f.2.1) → (∀ ls' : Array Slot, lv_has ls' nL (zz_lv z0 sp f'.2.1) → W p l e R s m args below meth c H locs cells slots Q (F0 m f'.1 ls' (zz_sv z0 sp f'.2.2.1))) → W p l e R s m args below meth c H locs cells slots Q (F0 m pc ls (zz_sv z0 sp f.2.2.1)))
    (h2 : ∀ f f' : zz_F, act K f = some f' → f'.2.2.2 = f.2.2.2) : zz_O l Ts D cl fk cy z0 sp tys own nL cc d K pc act := by
  refine ⟨fun f f' hf => by rw [h2 f f' hf]; exact ⟨Nat.le_refl _, Nat.le_refl _⟩, ?_⟩
  intro p e R s m args below meth c X _ _ H locs n0 s0 Q ls f f' hpc hf hI hS hl _ _ _ _ kk
  obtain ⟨e1, h1⟩ := h f f' hpc hf
  refine h1 p e R s m args below meth c H locs _ _ Q ls X hS hl fun ls' hl' => ?_
  have k1 := kk H locs ls' (by rw [e1]; exact hI) hS hl'
  rw [e1] at k1
  exact k1
def za_const (v : Value) (n : Nat) : zz_A := fun _ f => some (n, f.2.1, v :: f.2.2.1, f.2.2.2)
theorem zo_iconst {k : Int} {v : Int32} (hd : decode cc pc = .ok (.iconst k, 1)) (hv : Int32.ofInt k = v) : zz_O l Ts D cl fk cy z0 sp tys own nL cc d K pc (za_const (.int v) (pc + 1)) :=
  zo_still (fun f f' _ hf => by
    cases hf
    refine ⟨rfl, fun p e R s m args below meth c H locs cells slots Q ls X _ hl kk => ?_⟩
    exact lv_iconst X.1 X.2.1 hd hv (kk ls hl)) (fun f f' hf => by cases hf; rfl)
theorem zo_bipush {k : Int} {v : Int32} (hd : decode cc pc = .ok (.bipush k, 2)) (hv : (Int8.ofInt k).toInt32 = v) : zz_O l Ts D cl fk cy z0 sp tys own nL cc d K pc (za_const (.int v) (pc + 2)) :=
  zo_still (fun f f' _ hf => by
    cases hf
    refine ⟨rfl, fun p e R s m args below meth c H locs cells slots Q ls X _ hl kk => ?_⟩
    exact lv_bipush X.1 X.2.1 hd hv (kk ls hl)) (fun f f' hf => by cases hf; rfl)
def za_load (i n : Nat) : zz_A := fun _ f => match zz_lg f.2.1 i with
  | some v => some (n, f.2.1, v :: f.2.2.1, f.2.2.2)
  | none => none
theorem zo_iload_n {k : Fin 4} {i : Nat} (hd : decode cc pc = .ok (.iload_n k, 1)) (hi : (k : Nat) = i) : zz_O l Ts D cl fk cy z0 sp tys own nL cc d K pc (fun K f => match zz_lg f.2.1 i with | some (.int v) => some (pc + 1, f.2.1, .int v :: f.2.2.1, f.2.2.2) | _ => none) :=
  zo_still (fun f f' _ hf => by
    dsimp only at hf
    split at hf
    · rename_i v hv
      cases hf
      refine ⟨rfl, fun p e R s m args below meth c H locs cells slots Q ls X _ hl kk => ?_⟩
      exact lv_iload_n X.1 X.2.1 hd hi (zz_lg_at hl hv) (kk ls hl)
    · cases hf) (fun f f' hf => by
    dsimp only at hf
    split at hf
    · cases hf; rfl
    · cases hf)
noncomputable def za_i2 (g : Int32 → Int32 → Int32) (n : Nat) : zz_A := fun _ f => match f.2.2.1 with
  | .int y :: .int x :: r => zz_fI (g x y) (fun z => some (n, f.2.1, .int z :: r, f.2.2.2))
  | _ => none
theorem zo_i2 {g : Int32 → Int32 → Int32} {n : Nat} (hrow : ∀ (p : Program) (e : Env) (R : Room) (s : State) (m : MethodId) (args : Array Value) (below : List Frame) (meth : Method) (c : Code) (H : Heap) (locs : List Loc) (cells slots : Nat) (Q : State → Prop) (ls : Array Slot) (x y : Int32) (rest : List Value), p.tables.exec = Jvm.exec → c.code = cc → W p l e R s m args below meth c H locs cells slots Q (F0 m n ls (.int (g x y) :: rest)) → W p l e R s m args below meth c H locs cells slots Q (F0 m pc ls (.int y :: .int x :: rest))) : zz_O l Ts D cl fk cy z0 sp tys own nL cc d K pc (za_i2 g n) :=
  zo_still (fun f f' _ hf => by
    unfold za_i2 at hf
    split at hf
    · rename_i y x r hst
      rw [zz_fI_eq] at hf
      cases hf
      refine ⟨rfl, fun p e R s m args below meth c H locs cells slots Q ls X _ hl kk => ?_⟩
      rw [hst]
      exact hrow p e R s m args below meth c H locs cells slots Q ls x y _ X.1 X.2.1 (kk ls hl)
    · cases hf) (fun f f' hf => by
    unfold za_i2 at hf
    split at hf
    · rw [zz_fI_eq] at hf
      cases hf; rfl
    · cases hf)
theorem zo_iadd (hd : decode cc pc = .ok (.iadd, 1)) : zz_O l Ts D cl fk cy z0 sp tys own nL cc d K pc (za_i2 (fun x y => x + y) (pc + 1)) := zo_i2 fun _ _ _ _ _ _ _ _ _ _ _ _ _ _ _ _ _ _ hx hb k => lv_iadd hx hb hd k
end ZS
