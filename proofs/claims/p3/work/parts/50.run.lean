/-! RUNS: from one frame to another, a method's whole run, calls; what a run of the abstract machine says of the real one -/
/-- kinds: 0 an instruction; returns: 1 of nothing, 2 of an int, 3 of a boolean, 4 of a long, 5 of a reference, 6 of a char, 7 of a byte -/
abbrev zz_T : Type := List (List (Nat × zz_A))
def zz_en0 : Nat × zz_A := (9, fun _ _ => none)
def zz_ent (T : zz_T) (pc : Nat) : Nat × zz_A := (T.getD (pc / 16) []).getD (pc % 16) zz_en0
/-- one instruction; at a return nothing -/
noncomputable def zz_go (T : zz_T) (K : zz_K) (f : zz_F) : Option zz_F := Nat.casesOn (zz_ent T f.1).1 ((zz_ent T f.1).2 K f) (fun _ => some f)
noncomputable def zz_it (T : zz_T) (K : zz_K) (k : Nat) : zz_F → Option zz_F :=
  Nat.rec (motive := fun _ => zz_F → Option zz_F) (fun f => zz_go T K f) (fun _ ih f => Option.casesOn (ih f) none (fun f1 => Nat.casesOn (zz_ent T f1.1).1 (ih f1) (fun _ => some f1))) k
/-- what a method's end gives -/
def zz_rt (T : zz_T) (f : zz_F) : Option (List Value × zz_W) := match (zz_ent T f.1).1, f.2.2.1 with
  | 1, [] => some ([], f.2.2.2)
  | 2, [.int v] => some ([.int v], f.2.2.2)
  | 3, [.int v] => cond (Nat.blt (zz_nI v) 2) (some ([.int v], f.2.2.2)) none
  | 4, [.long v] => some ([.long v], f.2.2.2)
  | 6, [.int v] => cond (Nat.blt (zz_nI v) 65536) (some ([.int v], f.2.2.2)) none
  | 7, [.int v] => cond (Nat.blt (zz_nI v) 128) (some ([.int v], f.2.2.2)) none
  | 5, [.ref v] => some ([.ref v], f.2.2.2)
  | 5, [.null] => some ([.null], f.2.2.2)
  | _, _ => none
noncomputable def zz_rn (T : zz_T) (ml : Nat) (K : zz_K) (as : List Value) (w : zz_W) : Option (List Value × zz_W) := cond (Nat.ble (zz_cs as) ml) (Option.casesOn (zz_it T K 30 (0, lv_args 0 as, [], w)) none (fun f => zz_rt T f)) none
noncomputable def zz_cl (P : Nat → zz_T) (ml : Nat → Nat) (d : Nat) : zz_K := Nat.rec (motive := fun _ => zz_K) (fun _ _ _ => none) (fun _ ih y as w => zz_rn (P y) (ml y) ih as w) d
/-- the real machine comes home from f if it does from f' -/
def zz_B (l : Launch) (Ts : List Cond) (D : va_G) (cl : List vw_C) (fk : Nat → Nat → Nat) (cy : Nat → ClassId) (z0 : Nat) (sp : Nat → Nat) (tys : List (ClassId × FieldType)) (G : State → Prop) (own mn : String) (nL : Nat) (cc : ByteArray) (d : Nat) (f f' : zz_F) : Prop :=
  (f.2.2.2.1 ≤ f'.2.2.2.1 ∧ f.2.2.2.2.1 ≤ f'.2.2.2.2.1) ∧
  ∀ (p : Program) (e : Env) (R : Room) (s : State) (m : MethodId) (args : Array Value) (below : List Frame) (meth : Method) (c : Code), zz_X Ts D cl tys G own mn nL cc p s m args meth c → d + 1 ≤ R.frames → 64 * (d + 1) ≤ R.locals →
  ∀ (H : Heap) (locs : List Loc) (n0 s0 : Nat) (Q : State → Prop) (ls : Array Slot), zz_I D cl fk cy z0 sp f.2.2.2 H → va_S (fun q : Nat => z0 ≤ q) s.heap H locs → lv_has ls nL (zz_lv z0 sp f.2.1) →
    n0 ≤ f.2.2.2.1 → s0 ≤ f.2.2.2.2.1 → f'.2.2.2.1 - n0 ≤ R.cells → f'.2.2.2.2.1 - s0 ≤ R.slots →
    (∀ (H' : Heap) (locs' : List Loc) (ls' : Array Slot), zz_I D cl fk cy z0 sp f'.2.2.2 H' → va_S (fun q : Nat => z0 ≤ q) s.heap H' locs' → lv_has ls' nL (zz_lv z0 sp f'.2.1) → W p l e R s m args below meth c H' locs' (f'.2.2.2.1 - n0) (f'.2.2.2.2.1 - s0) Q (F0 m f'.1 ls' (zz_sv z0 sp f'.2.2.1))) →
    W p l e R s m args below meth c H locs (f.2.2.2.1 - n0) (f.2.2.2.2.1 - s0) Q (F0 m f.1 ls (zz_sv z0 sp f.2.2.1))
section ZU
variable {l : Launch} {Ts : List Cond} {D : va_G} {cl : List vw_C} {fk : Nat → Nat → Nat} {cy : Nat → ClassId} {z0 : Nat} {sp : Nat → Nat} {tys : List (ClassId × FieldType)} {G : State → Prop} {own mn : String} {nL : Nat} {cc : ByteArray} {d : Nat} {K : zz_K} {pc : Nat}
theorem zz_B_rf (f : zz_F) : zz_B l Ts D cl fk cy z0 sp tys G own mn nL cc d f f :=
  ⟨⟨Nat.le_refl _, Nat.le_refl _⟩, fun _ _ _ _ _ _ _ _ _ _ _ _ H locs _ _ _ ls hI hS hl _ _ _ _ kk => kk H locs ls hI hS hl⟩
theorem zz_B_tr {f g h : zz_F} (h1 : zz_B l Ts D cl fk cy z0 sp tys G own mn nL cc d f g) (h2 : zz_B l Ts D cl fk cy z0 sp tys G own mn nL cc d g h) : zz_B l Ts D cl fk cy z0 sp tys G own mn nL cc d f h := by
  refine ⟨⟨Nat.le_trans h1.1.1 h2.1.1, Nat.le_trans h1.1.2 h2.1.2⟩, ?_⟩
  intro p e R s m args below meth c X r1 r2 H locs n0 s0 Q ls hI hS hl hn hs hc1 hc2 kk
  have q1 := h2.1.1
  have q2 := h2.1.2
  have q3 := h1.1.1
  have q4 := h1.1.2
  refine h1.2 p e R s m args below meth c X r1 r2 H locs n0 s0 Q ls hI hS hl hn hs (by omega) (by omega) fun H' locs' ls' hI' hS' hl' => ?_
  exact h2.2 p e R s m args below meth c X r1 r2 H' locs' n0 s0 Q ls' hI' hS' hl' (by omega) (by omega) hc1 hc2 kk
theorem zz_O_B {act : zz_A} (h : zz_O l Ts D cl fk cy z0 sp tys G own mn nL cc d K pc act) {f f' : zz_F} (hpc : f.1 = pc) (hf : act K f = some f') : zz_B l Ts D cl fk cy z0 sp tys G own mn nL cc d f f' := by
  refine ⟨h.1 f f' hf, ?_⟩
  intro p e R s m args below meth c X r1 r2 H locs n0 s0 Q ls hI hS hl hn hs hc1 hc2 kk
  have k1 := h.2 p e R s m args below meth c X r1 r2 H locs n0 s0 Q ls f f' hpc hf hI hS hl hn hs hc1 hc2 kk
  rw [hpc]
  exact k1
/-- all instructions of a table are sound -/
def zz_TO (l : Launch) (Ts : List Cond) (D : va_G) (cl : List vw_C) (fk : Nat → Nat → Nat) (cy : Nat → ClassId) (z0 : Nat) (sp : Nat → Nat) (tys : List (ClassId × FieldType)) (G : State → Prop) (own mn : String) (nL : Nat) (cc : ByteArray) (d : Nat) (K : zz_K) (T : zz_T) : Prop :=
  ∀ pc, (zz_ent T pc).1 = 0 → zz_O l Ts D cl fk cy z0 sp tys G own mn nL cc d K pc (zz_ent T pc).2
theorem zz_go_B {T : zz_T} (hT : zz_TO l Ts D cl fk cy z0 sp tys G own mn nL cc d K T) {f f' : zz_F} (h : zz_go T K f = some f') : zz_B l Ts D cl fk cy z0 sp tys G own mn nL cc d f f' := by
  unfold zz_go at h
  cases hk : (zz_ent T f.1).1 with
  | zero =>
    rw [hk] at h
    exact zz_O_B (hT f.1 hk) rfl h
  | succ k =>
    rw [hk] at h
    cases h
    exact zz_B_rf f
theorem zz_it_B {T : zz_T} (hT : zz_TO l Ts D cl fk cy z0 sp tys G own mn nL cc d K T) : ∀ (k : Nat) {f f' : zz_F}, zz_it T K k f = some f' → zz_B l Ts D cl fk cy z0 sp tys G own mn nL cc d f f'
  | 0, f, f', h => zz_go_B hT h
  | k + 1, f, f', h => by
    have h : Option.casesOn (motive := fun _ => Option zz_F) (zz_it T K k f) none (fun f1 => Nat.casesOn (motive := fun _ => Option zz_F) (zz_ent T f1.1).1 (zz_it T K k f1) (fun _ => some f1)) = some f' := h
    cases hf : zz_it T K k f with
    | none => rw [hf] at h; cases h
    | some f1 =>
      rw [hf] at h
      have b1 := zz_it_B hT k hf
      have h : Nat.casesOn (motive := fun _ => Option zz_F) (zz_ent T f1.1).1 (zz_it T K k f1) (fun _ => some f1) = some f' := h
      cases hk : (zz_ent T f1.1).1 with
      | zero =>
        rw [hk] at h
        exact zz_B_tr b1 (zz_it_B hT k h)
      | succ j =>
        rw [hk] at h
        cases h
        exact b1
def zz_Pc (D : va_G) (cl : List vw_C) (fk : Nat → Nat → Nat) (cy : Nat → ClassId) (z0 : Nat) (sp : Nat → Nat) (tys : List (ClassId × FieldType)) (G : State → Prop) (as : List Value) (w : zz_W) : Array Value → State → Prop := fun v U => v = (zz_sv z0 sp as).toArray ∧ zz_I D cl fk cy z0 sp w U.heap ∧ va_K D cl tys U ∧ G U
def zz_Qc (D : va_G) (cl : List vw_C) (fk : Nat → Nat → Nat) (cy : Nat → ClassId) (z0 : Nat) (sp : Nat → Nat) (rv : List Value) (w : zz_W) : Array Value → State → Outcome → State → Prop := fun _ st oc t => (oc = .returned (zz_sv z0 sp rv).head? ∧ zz_I D cl fk cy z0 sp w t.heap) ∧ va_F (fun q : Nat => z0 ≤ q) st t
/-- calls of the abstract machine are sound at a depth: each has its contract -/
def zz_KS (l : Launch) (D : va_G) (cl : List vw_C) (fk : Nat → Nat → Nat) (cy : Nat → ClassId) (z0 : Nat) (sp : Nat → Nat) (tys : List (ClassId × FieldType)) (G : State → Prop) (yn : Nat → MethodName) (wn : Nat → List Cond) (d : Nat) (K : zz_K) : Prop :=
  ∀ (y : Nat) (as : List Value) (w : zz_W) (rv : List Value) (w' : zz_W), K y as w = some (rv, w') → (w.1 ≤ w'.1 ∧ w.2.1 ≤ w'.2.1) ∧ rv.length ≤ 1 ∧
    Met l (yn y) (wn y) { frames := d, cells := w'.1 - w.1, slots := w'.2.1 - w.2.1, locals := 64 * d } (zz_Pc D cl fk cy z0 sp tys G as w) (zz_Qc D cl fk cy z0 sp rv w') (w'.1 - w.1) (w'.2.1 - w.2.1) (fun q => z0 ≤ q)
/-- what stays of G when cells above z0 alone change -/
def zz_GS (z0 : Nat) (G : State → Prop) : Prop := ∀ U V : State, U.WarmedH V.vm → z0 ≤ U.heap.size → (∀ q : Nat, q < z0 → V.heap[q]? = U.heap[q]?) → G U → G V
theorem zz_lv_args : ∀ (i : Nat) (as : List Value), lv_args i (zz_sv z0 sp as) = zz_lv z0 sp (lv_args i as)
  | _, [] => rfl
  | i, v :: vs => by
    show (i, zz_v z0 sp v) :: lv_args (if (zz_v z0 sp v).category = 2 then i + 2 else i + 1) (zz_sv z0 sp vs) = _
    rw [zz_v_cat, zz_lv_args]
    rfl
end ZU
