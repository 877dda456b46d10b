section
/-! RUNS: from one frame to another, a method's whole run, calls; what a run of the abstract machine says of the real one -/
/-- kinds: 0 an instruction; returns: 1 of nothing, 2 of an int, 3 of a boolean, 4 of a long, 5 of a reference, 6 of a char, 7 of a byte -/
abbrev zz_T : Type := List (List (Nat × zz_A))
def zz_en0 : Nat × zz_A := (9, fun _ _ => none)
def zz_ent (T : zz_T) (pc : Nat) : Nat × zz_A := (T.getD (pc / 16) []).getD (pc % 16) zz_en0
/-- one instruction; at a return nothing -/
noncomputable def zz_go (T : zz_T) (K : zz_K) (f : zz_F) : Option zz_F := Nat.casesOn (zz_ent T f.1).1 ((zz_ent T f.1).2 K f) (fun _ => some f)
noncomputable def zz_it (T : zz_T) (K : zz_K) (k : Nat) : zz_F → Option zz_F :=
  Nat.rec (motive := fun _ => zz_F → Option zz_F) (fun f => zz_go T K f) (fun _ ih f => Option.casesOn (ih f) none (fun f1 => Nat.casesOn (zz_ent T f1.1).1 (ih f1) (fun _ => some f1))) k
/-- what a method's end gives -/
def zz_rt (T : zz_T) (f : zz_F) : Option (List Value × zz_W) := match (zz_ent T f.1).1, f.2.2.1 with
  | 1, [] => some ([], f.2.2.2)
  | 2, [.int v] => some ([.int v], f.2.2.2)
  | 3, [.int v] => cond (Nat.blt (zz_nI v) 2) (some ([.int v], f.2.2.2)) none
  | 4, [.long v] => some ([.long v], f.2.2.2)
  | 6, [.int v] => cond (Nat.blt (zz_nI v) 65536) (some ([.int v], f.2.2.2)) none
  | 7, [.int v] => cond (Nat.blt (zz_nI v) 128) (some ([.int v], f.2.2.2)) none
  | 5, [.ref v] => some ([.ref v], f.2.2.2)
  | 5, [.null] => some ([.null], f.2.2.2)
  | _, _ => none
noncomputable def zz_rn (T : zz_T) (ml : Nat) (K : zz_K) (as : List Value) (w : zz_W) : Option (List Value × zz_W) := cond (Nat.ble (zz_cs as) ml) (Option.casesOn (zz_it T K 30 (0, lv_args 0 as, [], w)) none (fun f => zz_rt T f)) none
noncomputable def zz_cl (P : Nat → zz_T) (ml : Nat → Nat) (d : Nat) : zz_K := Nat.rec (motive := fun _ => zz_K) (fun _ _ _ => none) (fun _ ih y as w => zz_rn (P y) (ml y) ih as w) d
/-- the real machine comes home from f if it does from f' -/
def zz_B (l : Launch) (Ts : List Cond) (D : va_G) (cl : List vw_C) (fk : Nat → Nat → Nat) (cy : Nat → ClassId) (z0 : Nat) (sp : Nat → Nat) (tys : List (ClassId × FieldType)) (G : State → Prop) (own mn : String) (nL : Nat) (cc : ByteArray) (d : Nat) (f f' : zz_F) : Prop :=
  (f.2.2.2.1 ≤ f'.2.2.2.1 ∧ f.2.2.2.2.1 ≤ f'.2.2.2.2.1) ∧
  ∀ (p : Program) (e : Env) (R : Room) (s : State) (m : MethodId) (args : Array Value) (below : List Frame) (meth : Method) (c : Code), zz_X Ts D cl tys G own mn nL cc p s m args meth c → d + 1 ≤ R.frames → 64 * (d + 1) ≤ R.locals →
  ∀ (H : Heap) (locs : List Loc) (n0 s0 : Nat) (Q : State → Prop) (ls : Array Slot), zz_I D cl fk cy z0 sp f.2.2.2 H → va_S (fun q : Nat => z0 ≤ q) s.heap H locs → lv_has ls nL (zz_lv z0 sp f.2.1) →
    n0 ≤ f.2.2.2.1 → s0 ≤ f.2.2.2.2.1 → f'.2.2.2.1 - n0 ≤ R.cells → f'.2.2.2.2.1 - s0 ≤ R.slots →
    (∀ (H' : Heap) (locs' : List Loc) (ls' : Array Slot), zz_I D cl fk cy z0 sp f'.2.2.2 H' → va_S (fun q : Nat => z0 ≤ q) s.heap H' locs' → lv_has ls' nL (zz_lv z0 sp f'.2.1) → W p l e R s m args below meth c H' locs' (f'.2.2.2.1 - n0) (f'.2.2.2.2.1 - s0) Q (F0 m f'.1 ls' (zz_sv z0 sp f'.2.2.1))) →
    W p l e R s m args below meth c H locs (f.2.2.2.1 - n0) (f.2.2.2.2.1 - s0) Q (F0 m f.1 ls (zz_sv z0 sp f.2.2.1))
section ZU
variable {l : Launch} {Ts : List Cond} {D : va_G} {cl : List vw_C} {fk : Nat → Nat → Nat} {cy : Nat → ClassId} {z0 : Nat} {sp : Nat → Nat} {tys : List (ClassId × FieldType)} {G : State → Prop} {own mn : String} {nL : Nat} {cc : ByteArray} {d : Nat} {K : zz_K} {pc : Nat}
theorem zz_B_rf (f : zz_F) : zz_B l Ts D cl fk cy z0 sp tys G own mn nL cc d f f :=
  ⟨⟨Nat.le_refl _, Nat.le_refl _⟩, fun _ _ _ _ _ _ _ _ _ _ _ _ H locs _ _ _ ls hI hS hl _ _ _ _ kk => kk H locs ls hI hS hl⟩
theorem zz_B_tr {f g h : zz_F} (h1 : zz_B l Ts D cl fk cy z0 sp tys G own mn nL cc d f g) (h2 : zz_B l Ts D cl fk cy z0 sp tys G own mn nL cc d g h) : zz_B l Ts D cl fk cy z0 sp tys G own mn nL cc d f h := by
  refine ⟨⟨Nat.le_trans h1.1.1 h2.1.1, Nat.le_trans h1.1.2 h2.1.2⟩, ?_⟩
  intro p e R s m args below meth c X r1 r2 H locs n0 s0 Q ls hI hS hl hn hs hc1 hc2 kk
  have q1 := h2.1.1
  have q2 := h2.1.2
  have q3 := h1.1.1
  have q4 := h1.1.2
  refine h1.2 p e R s m args below meth c X r1 r2 H locs n0 s0 Q ls hI hS hl hn hs (by omega) (by omega) fun H' locs' ls' hI' hS' hl' => ?_
  exact h2.2 p e R s m args below meth c X r1 r2 H' locs' n0 s0 Q ls' hI' hS' hl' (by omega) (by omega) hc1 hc2 kk
theorem zz_O_B {act : zz_A} (h : zz_O l Ts D cl fk cy z0 sp tys G own mn nL cc d K pc act) {f f' : zz_F} (hpc : f.1 = pc) (hf : act K f = some f') : zz_B l Ts D cl fk cy z0 sp tys G own mn nL cc d f f' := by
  refine ⟨h.1 f f' hf, ?_⟩
  intro p e R s m args below meth c X r1 r2 H locs n0 s0 Q ls hI hS hl hn hs hc1 hc2 kk
  have k1 := h.2 p e R s m args below meth c X r1 r2 H locs n0 s0 Q ls f f' hpc hf hI hS hl hn hs hc1 hc2 kk
  rw [hpc]
  exact k1
/-- all instructions of a table are sound -/
def zz_TO (l : Launch) (Ts : List Cond) (D : va_G) (cl : List vw_C) (fk : Nat → Nat → Nat) (cy : Nat → ClassId) (z0 : Nat) (sp : Nat → Nat) (tys : List (ClassId × FieldType)) (G : State → Prop) (own mn : String) (nL : Nat) (cc : ByteArray) (d : Nat) (K : zz_K) (T : zz_T) : Prop :=
  ∀ pc, (zz_ent T pc).1 = 0 → zz_O l Ts D cl fk cy z0 sp tys G own mn nL cc d K pc (zz_ent T pc).2
theorem zz_go_B {T : zz_T} (hT : zz_TO l Ts D cl fk cy z0 sp tys G own mn nL cc d K T) {f f' : zz_F} (h : zz_go T K f = some f') : zz_B l Ts D cl fk cy z0 sp tys G own mn nL cc d f f' := by
  unfold zz_go at h
  cases hk : (zz_ent T f.1).1 with
  | zero =>
    rw [hk] at h
    exact zz_O_B (hT f.1 hk) rfl h
  | succ k =>
    rw [hk] at h
    cases h
    exact zz_B_rf f
theorem zz_it_B {T : zz_T} (hT : zz_TO l Ts D cl fk cy z0 sp tys G own mn nL cc d K T) : ∀ (k : Nat) {f f' : zz_F}, zz_it T K k f = some f' → zz_B l Ts D cl fk cy z0 sp tys G own mn nL cc d f f'
  | 0, f, f', h => zz_go_B hT h
  | k + 1, f, f', h => by
    have h : Option.casesOn (motive := fun _ => Option zz_F) (zz_it T K k f) none (fun f1 => Nat.casesOn (motive := fun _ => Option zz_F) (zz_ent T f1.1).1 (zz_it T K k f1) (fun _ => some f1)) = some f' := h
    cases hf : zz_it T K k f with
    | none => rw [hf] at h; cases h
    | some f1 =>
      rw [hf] at h
      have b1 := zz_it_B hT k hf
      have h : Nat.casesOn (motive := fun _ => Option zz_F) (zz_ent T f1.1).1 (zz_it T K k f1) (fun _ => some f1) = some f' := h
      cases hk : (zz_ent T f1.1).1 with
      | zero =>
        rw [hk] at h
        exact zz_B_tr b1 (zz_it_B hT k h)
      | succ j =>
        rw [hk] at h
        cases h
        exact b1
def zz_Pc (D : va_G) (cl : List vw_C) (fk : Nat → Nat → Nat) (cy : Nat → ClassId) (z0 : Nat) (sp : Nat → Nat) (tys : List (ClassId × FieldType)) (G : State → Prop) (as : List Value) (w : zz_W) : Array Value → State → Prop := fun v U => v = (zz_sv z0 sp as).toArray ∧ zz_I D cl fk cy z0 sp w U.heap ∧ va_K D cl tys U ∧ G U
def zz_Qc (D : va_G) (cl : List vw_C) (fk : Nat → Nat → Nat) (cy : Nat → ClassId) (z0 : Nat) (sp : Nat → Nat) (rv : List Value) (w : zz_W) : Array Value → State → Outcome → State → Prop := fun _ st oc t => (oc = .returned (zz_sv z0 sp rv).head? ∧ zz_I D cl fk cy z0 sp w t.heap) ∧ va_F (fun q : Nat => z0 ≤ q) st t
/-- calls of the abstract machine are sound at a depth: each has its contract -/
def zz_KS (l : Launch) (D : va_G) (cl : List vw_C) (fk : Nat → Nat → Nat) (cy : Nat → ClassId) (z0 : Nat) (sp : Nat → Nat) (tys : List (ClassId × FieldType)) (G : State → Prop) (yn : Nat → MethodName) (wn : Nat → List Cond) (d : Nat) (K : zz_K) : Prop :=
  ∀ (y : Nat) (as : List Value) (w : zz_W) (rv : List Value) (w' : zz_W), K y as w = some (rv, w') → (w.1 ≤ w'.1 ∧ w.2.1 ≤ w'.2.1) ∧ rv.length ≤ 1 ∧
    Met l (yn y) (wn y) { frames := d, cells := w'.1 - w.1, slots := w'.2.1 - w.2.1, locals := 64 * d } (zz_Pc D cl fk cy z0 sp tys G as w) (zz_Qc D cl fk cy z0 sp rv w') (w'.1 - w.1) (w'.2.1 - w.2.1) (fun q => z0 ≤ q)
/-- what stays of G when cells above z0 alone change -/
def zz_GS (z0 : Nat) (G : State → Prop) : Prop := ∀ U V : State, U.WarmedH V.vm → z0 ≤ U.heap.size → (∀ q : Nat, q < z0 → V.heap[q]? = U.heap[q]?) → G U → G V
theorem zz_lv_args : ∀ (i : Nat) (as : List Value), lv_args i (zz_sv z0 sp as) = zz_lv z0 sp (lv_args i as)
  | _, [] => rfl
  | i, v :: vs => by
    show (i, zz_v z0 sp v) :: lv_args (if (zz_v z0 sp v).category = 2 then i + 2 else i + 1) (zz_sv z0 sp vs) = _
    rw [zz_v_cat, zz_lv_args]
    rfl
end ZU
end
section
/-! CALLS -/
/-- what is known of the things that stood there before: it stays when cells above z0 alone change -/
def zz_GF (z0 : Nat) (G : State → Prop) : Prop := zz_GS z0 G ∧ (∀ U V : State, V.vm = U.vm → V.heap = U.heap → G U → G V) ∧ ∀ U, G U → z0 ≤ U.heap.size
noncomputable def zz_tk {β : Type} (na : Nat) : List Value → List Value → (List Value → List Value → Option β) → Option β :=
  Nat.rec (motive := fun _ => List Value → List Value → (List Value → List Value → Option β) → Option β) (fun st acc k => k acc st) (fun _ ih st acc k => List.casesOn st none (fun x xs => ih xs (x :: acc) k)) na
theorem zz_tk_ok {β : Type} {k : List Value → List Value → Option β} {b : β} : ∀ (na : Nat) (st acc : List Value), zz_tk na st acc k = some b → ∃ as rest, st = as.reverse ++ rest ∧ as.length = na ∧ k (as ++ acc) rest = some b
  | 0, st, acc, h => ⟨[], st, rfl, rfl, h⟩
  | na + 1, [], acc, h => by cases h
  | na + 1, x :: xs, acc, h => by
    have h : zz_tk na xs (x :: acc) k = some b := h
    obtain ⟨as, rest, e1, e2, e3⟩ := zz_tk_ok na xs (x :: acc) h
    refine ⟨as ++ [x], rest, ?_, ?_, ?_⟩
    · rw [e1]; simp
    · rw [List.length_append, e2]; rfl
    · rw [List.append_assoc]; exact e3
/-- what a call leaves: its answer, if it has one, above the rest -/
noncomputable def zz_cr (n : Nat) (lv : List (Nat × Value)) (r : List Value) (q : Option (List Value × zz_W)) : Option zz_F :=
  Option.casesOn q none (fun q => List.casesOn q.1 (some (n, lv, r, q.2)) (fun v _ => some (n, lv, v :: r, q.2)))
theorem zz_cr_ok {n : Nat} {lv : List (Nat × Value)} {r : List Value} {q : Option (List Value × zz_W)} {f' : zz_F} (h : zz_cr n lv r q = some f') : ∃ rv w', q = some (rv, w') ∧ (rv.length ≤ 1 → f' = (n, lv, rv ++ r, w')) ∧ f'.2.2.2 = w' := by
  cases q with
  | none => cases h
  | some q =>
    obtain ⟨rv, w'⟩ := q
    cases rv with
    | nil => cases h; exact ⟨[], w', rfl, fun _ => rfl, rfl⟩
    | cons v t =>
      cases h
      refine ⟨v :: t, w', rfl, fun hl => ?_, rfl⟩
      have : t = [] := List.length_eq_zero_iff.mp (by simpa using hl)
      subst this
      rfl
def zz_ic (w : zz_W) (i ci : Nat) : Bool := Nat.blt i w.1 && (Nat.blt i 1000000 && (Nat.beq (zz_g w i).1 3 && Nat.beq (zz_g w i).2.1 ci))
theorem zz_ic_ok {w : zz_W} {i ci : Nat} (h : zz_ic w i ci = true) : i < w.1 ∧ i < 1000000 ∧ (zz_g w i).1 = 3 ∧ (zz_g w i).2.1 = ci := by
  unfold zz_ic at h
  obtain ⟨h1, h⟩ := zz_and h
  obtain ⟨h2, h⟩ := zz_and h
  obtain ⟨h3, h4⟩ := zz_and h
  exact ⟨zz_blt h1, zz_blt h2, zz_beq h3, zz_beq h4⟩
noncomputable def za_callV (ci y na n : Nat) : zz_A := fun K f => zz_tk na f.2.2.1 [] (fun as r => match r with
  | .ref b :: r' => cond (zz_ic f.2.2.2 b ci && Nat.ble (zz_cs r') 8) (zz_cr n f.2.1 r' (K y (.ref b :: as) f.2.2.2)) none
  | _ => none)
noncomputable def za_callS (y na n : Nat) : zz_A := fun K f => zz_tk na f.2.2.1 [] (fun as r => cond (Nat.ble (zz_cs r) 8) (zz_cr n f.2.1 r (K y as f.2.2.2)) none)
section ZY
variable {l : Launch} {Ts : List Cond} {D : va_G} {cl : List vw_C} {fk : Nat → Nat → Nat} {cy : Nat → ClassId} {z0 : Nat} {sp : Nat → Nat} {tys : List (ClassId × FieldType)} {G : State → Prop} {own mn : String} {nL : Nat} {cc : ByteArray} {d : Nat} {K : zz_K} {pc : Nat}
variable {yn : Nat → MethodName} {cn : Nat → ByteArray} {ml : Nat → Nat} {rt : Nat → Option FieldType}
theorem zz_sv_app (a b : List Value) : zz_sv z0 sp (a ++ b) = zz_sv z0 sp a ++ zz_sv z0 sp b := List.map_append
theorem zz_sv_rev (a : List Value) : zz_sv z0 sp a.reverse = (zz_sv z0 sp a).reverse := List.map_reverse
theorem zz_blind {as : List Value} {w : zz_W} (hG : zz_GF z0 G) : FrameBlind (zz_Pc D cl fk cy z0 sp tys G as w) := fun a U g mk q => ⟨q.1, q.2.1, va_K.moved (u := U) (U := U.calling g mk a) (Vm.Alike.refl U.vm) q.2.2.1, hG.2.1 U (U.calling g mk a) rfl rfl q.2.2.2⟩
/-- G holds at every call -/
theorem zz_G_at {p : Program} {s : State} {m : MethodId} {args : Array Value} {meth : Method} {c : Code} (X : zz_X Ts D cl tys G own mn nL cc p s m args meth c) (hG : zz_GF z0 G) {H : Heap} {locs : List Loc} (hS : va_S (fun q : Nat => z0 ≤ q) s.heap H locs) {U : State} (hU : U.heap = H) (hW : s.WarmedH U.vm) : G U := by
  have hg := X.2.2.2.2.2.2.2.2
  have hz := hG.2.2 s hg
  refine hG.1 s U hW hz (fun q hq => ?_) hg
  rw [hU]
  exact hS.2.1 q (Nat.lt_of_lt_of_le hq hz) (by omega)
/-- behind a call -/
theorem zz_behind {p : Program} {e : Env} {R : Room} {s : State} {m : MethodId} {args : Array Value} {below : List Frame} {meth : Method} {c : Code} {H : Heap} {locs : List Loc} {cells slots mc ms : Nat} {Q : State → Prop} {ls : Array Slot} {st0 rest : List Value} {a : Array Value} {rv : List Value} {w' : zz_W} {pc : Nat} (hrv : rv.length ≤ 1)
    (hr : va_Run p l e R s m args below meth c H locs cells slots mc ms (F0 m pc ls st0) (zz_sv z0 sp rest) (zz_Qc D cl fk cy z0 sp rv w' a) (fun q => z0 ≤ q)) (hS : va_S (fun q : Nat => z0 ≤ q) s.heap H locs)
    (kk : ∀ (H1 : Heap) (locs1 : List Loc), zz_I D cl fk cy z0 sp w' H1 → va_S (fun q : Nat => z0 ≤ q) s.heap H1 locs1 → W p l e R s m args below meth c H1 locs1 (cells + mc) (slots + ms) Q (F0 m (pc + 3) ls (zz_sv z0 sp (rv ++ rest)))) : W p l e R s m args below meth c H locs cells slots Q (F0 m pc ls st0) := by
  intro T hT X
  obtain ⟨v, st₀, t, T', L, h0, X', hL, e1, e2, ⟨⟨hv, hI⟩, hz, hk⟩, st⟩ := hr T hT X
  rw [h0] at hz hk
  have hv : v = (zz_sv z0 sp rv).head? := by
    injection hv
  obtain ⟨t2, a1, b1⟩ := kk T'.heap (locs ++ L) (by rw [e1]; exact hI)
    ⟨Nat.le_trans hS.1 (by rw [e1]; exact hz), fun q h1 h2 => by rw [e1, hk q (Nat.lt_of_lt_of_le h1 hS.1) h2]; exact hS.2.1 q h1 h2, fun q hq => by
      rcases List.mem_append.mp hq with h | h
      · exact hS.2.2 q h
      · exact hL q h⟩ T' rfl X'
  refine ⟨t2, st t2 ?_, b1⟩
  have e3 : v.toList ++ zz_sv z0 sp rest = zz_sv z0 sp (rv ++ rest) := by
    rw [hv]
    match rv, hrv with
    | [], _ => rfl
    | [x], _ => rfl
    | _ :: _ :: _, h => exact absurd h (by simp)
  rw [e3]
  exact a1
theorem zz_goodIn {ws : List Cond} (hgood : ∀ w ∈ Ts, goodWord w = true) (h : ∀ w ∈ ws, w ∈ Ts) : GoodIn Ts ws := fun w hw => ⟨h w hw, good_of_word (hgood w (h w hw))⟩
theorem zo_callV {y index na ci N : Nat} {C : String} {T : u_T} (hd : decode cc pc = .ok (.invokevirtual index, 3)) (hKS : zz_KS l D cl fk cy z0 sp tys G yn (fun y => Cond.code (yn y) (cn y) (ml y) (rt y) :: Ts) d K) (hgood : ∀ w ∈ Ts, goodWord w = true) (hG : zz_GF z0 G) (hc : cl[ci]? = some (C, T, N))
    (hy : (yn y).cls = C ∧ (yn y).cls ≠ "java/lang/invoke/MethodHandle" ∧ (yn y).cls ≠ "java/lang/invoke/VarHandle" ∧ (parseMethodDescriptor (yn y).desc).map (fun d => d.parameters.length) = some na) (hml : ml y ≤ 45) (hw : ∀ w ∈ ([.methodLink own index (yn y), .instanceMethod (yn y), .selects C (yn y) (yn y), .initialized C, .code (yn y) (cn y) (ml y) (rt y)] : List Cond), w ∈ Ts) : zz_O l Ts D cl fk cy z0 sp tys G own mn nL cc d K pc (za_callV ci y na (pc + 3)) := by
  refine ⟨fun f f' hf => ?_, ?_⟩
  · unfold za_callV at hf
    obtain ⟨as, r, -, -, hf⟩ := zz_tk_ok _ _ _ hf
    split at hf
    · obtain ⟨-, hf⟩ := zz_cond hf
      obtain ⟨rv, w', hq, -, e1⟩ := zz_cr_ok hf
      rw [e1]
      exact (hKS _ _ _ _ _ hq).1
    · cases hf
  · intro p e R s m args below meth c X hR1 hR2 H locs n0 s0 Q ls f f' hpc hf hI hS hl hn hs hc1 hc2 kk
    unfold za_callV at hf
    obtain ⟨as, r, hst, hlen, hf⟩ := zz_tk_ok _ _ _ hf
    split at hf
    · rename_i b r'
      obtain ⟨hb, hf⟩ := zz_cond hf
      obtain ⟨hb1, hb2⟩ := zz_and hb
      obtain ⟨i1, i2, i3, i4⟩ := zz_ic_ok hb1
      obtain ⟨rv, w', hq, e1, e2⟩ := zz_cr_ok hf
      obtain ⟨⟨m1, m2⟩, hrv, hM⟩ := hKS _ _ _ _ _ hq
      have e1 := e1 hrv
      subst e1
      rw [List.append_nil] at hM
      have hst2 : zz_sv z0 sp f.2.2.1 = (zz_sv z0 sp as).reverse ++ .ref (zz_ad z0 sp b) :: zz_sv z0 sp r' := by
        rw [hst, zz_sv_app, zz_sv_rev]
        show _ ++ zz_v z0 sp (.ref b) :: zz_sv z0 sp r' = _
        rw [zz_v_ref i2]
      rw [hst2]
      have he := zz_ws_get (fk := fk) (cy := cy) (z0 := z0) (sp := sp) i1
      rw [zz_e_o i3 i4] at he
      have hcw : CallW R s args own C index (yn y) (cn y) (ml y) (rt y) (Cond.code (yn y) (cn y) (ml y) (rt y) :: Ts) { frames := d, cells := w'.1 - f.2.2.2.1, slots := w'.2.1 - f.2.2.2.2.1, locals := 64 * d } (w'.1 - f.2.2.2.1) (w'.2.1 - f.2.2.2.2.1) na :=
        cwV na X.2.2.2.2.1 (zz_goodIn hgood (fun w h => by
          rcases List.mem_append.mp h with h | h
          · exact hw w (by simp only [List.mem_cons, List.not_mem_nil, or_false] at h ⊢; rcases h with h | h | h | h <;> simp [h])
          · rcases List.mem_cons.mp h with h | h
            · rw [h]; exact hw _ (by simp)
            · exact h)) rfl rfl rfl hy ⟨hR1, by show 8 + (ml y + 11) + 64 * d ≤ _; omega⟩
      have hc1' : w'.1 - n0 ≤ R.cells := hc1
      have hc2' : w'.2.1 - s0 ≤ R.slots := hc2
      refine zz_behind (fk := fk) (cy := cy) (D := D) (cl := cl) (mc := w'.1 - f.2.2.2.1) (ms := w'.2.1 - f.2.2.2.2.1) (rest := r') hrv (va_runV (As := zz_sv z0 sp as) ⟨X.1, X.2.1, X.2.2.1, X.2.2.2.1, X.2.2.2.2.1⟩ hM hcw ⟨zz_blind hG, va_recv X.2.2.2.2.2.1 hI.2 hc he, fun U hU hW => ⟨by show (Value.ref (zz_ad z0 sp b) :: zz_sv z0 sp as).toArray = (zz_v z0 sp (.ref b) :: zz_sv z0 sp as).toArray; rw [zz_v_ref i2], by rw [hU]; exact hI, va_K.moved hW.alike X.2.2.2.2.2.1, zz_G_at X hG hS hU hW⟩⟩ rfl (by unfold zz_sv; rw [List.length_map]; exact hlen) hl.1 rfl (lv_room (by rw [zz_cs_sv]; exact zz_ble hb2)) hd ⟨by omega, by omega⟩) hS fun H1 locs1 hI1 hS1 => ?_
      have k1 := kk H1 locs1 ls hI1 hS1 hl
      have q1 : w'.1 - n0 = f.2.2.2.1 - n0 + (w'.1 - f.2.2.2.1) := by omega
      have q2 : w'.2.1 - s0 = f.2.2.2.2.1 - s0 + (w'.2.1 - f.2.2.2.2.1) := by omega
      have k2 : W p l e R s m args below meth c H1 locs1 (w'.1 - n0) (w'.2.1 - s0) Q (F0 m (pc + 3) ls (zz_sv z0 sp (rv ++ r'))) := k1
      rw [q1, q2] at k2
      exact k2
    · cases hf
theorem zo_callI {y index na ci N : Nat} {C : String} {T : u_T} (hd : decode cc pc = .ok (.invokespecial index, 3)) (hKS : zz_KS l D cl fk cy z0 sp tys G yn (fun y => Cond.code (yn y) (cn y) (ml y) (rt y) :: Ts) d K) (hgood : ∀ w ∈ Ts, goodWord w = true) (hG : zz_GF z0 G) (hrt : rt y = none) (hnm : (yn y).name = "<init>")
    (hy : (yn y).cls ≠ "java/lang/invoke/MethodHandle" ∧ (yn y).cls ≠ "java/lang/invoke/VarHandle" ∧ (parseMethodDescriptor (yn y).desc).map (fun d => d.parameters.length) = some na) (hml : ml y ≤ 45) (hw : ∀ w ∈ ([.methodLink own index (yn y), .instanceMethod (yn y), .initialized (yn y).cls, .code (yn y) (cn y) (ml y) (rt y)] : List Cond), w ∈ Ts) : zz_O l Ts D cl fk cy z0 sp tys G own mn nL cc d K pc (za_callV ci y na (pc + 3)) := by
  refine ⟨fun f f' hf => ?_, ?_⟩
  · unfold za_callV at hf
    obtain ⟨as, r, -, -, hf⟩ := zz_tk_ok _ _ _ hf
    split at hf
    · obtain ⟨-, hf⟩ := zz_cond hf
      obtain ⟨rv, w', hq, -, e1⟩ := zz_cr_ok hf
      rw [e1]
      exact (hKS _ _ _ _ _ hq).1
    · cases hf
  · intro p e R s m args below meth c X hR1 hR2 H locs n0 s0 Q ls f f' hpc hf hI hS hl hn hs hc1 hc2 kk
    unfold za_callV at hf
    obtain ⟨as, r, hst, hlen, hf⟩ := zz_tk_ok _ _ _ hf
    split at hf
    · rename_i b r'
      obtain ⟨hb, hf⟩ := zz_cond hf
      obtain ⟨hb1, hb2⟩ := zz_and hb
      obtain ⟨i1, i2, i3, i4⟩ := zz_ic_ok hb1
      obtain ⟨rv, w', hq, e1, e2⟩ := zz_cr_ok hf
      obtain ⟨⟨m1, m2⟩, hrv, hM⟩ := hKS _ _ _ _ _ hq
      have e1 := e1 hrv
      subst e1
      rw [List.append_nil] at hM
      have hst2 : zz_sv z0 sp f.2.2.1 = (zz_sv z0 sp as).reverse ++ .ref (zz_ad z0 sp b) :: zz_sv z0 sp r' := by
        rw [hst, zz_sv_app, zz_sv_rev]
        show _ ++ zz_v z0 sp (.ref b) :: zz_sv z0 sp r' = _
        rw [zz_v_ref i2]
      rw [hst2]
      have hw0 := hw
      rw [hrt] at hw0
      have hcw : CallB R s args own index (yn y) (cn y) (ml y) none (Cond.code (yn y) (cn y) (ml y) (rt y) :: Ts) { frames := d, cells := w'.1 - f.2.2.2.1, slots := w'.2.1 - f.2.2.2.2.1, locals := 64 * d } (w'.1 - f.2.2.2.1) (w'.2.1 - f.2.2.2.2.1) na ∧ (yn y).name = "<init>" ∧ (Cond.instanceMethod (yn y)).before args s = true :=
        cwI na X.2.2.2.2.1 (zz_goodIn hgood (fun w h => by
          rcases List.mem_cons.mp h with h | h
          · rw [h]; exact hw _ (by simp)
          · exact h)) (by rw [hrt]) rfl rfl (X.2.2.2.2.1 _ (hw _ (by simp))) (X.2.2.2.2.1 _ (hw _ (by simp))) (X.2.2.2.2.1 _ (hw _ (by simp))) hnm hy ⟨hR1, by show 8 + (ml y + 11) + 64 * d ≤ _; omega⟩
      have hc1' : w'.1 - n0 ≤ R.cells := hc1
      have hc2' : w'.2.1 - s0 ≤ R.slots := hc2
      refine zz_behind (fk := fk) (cy := cy) (D := D) (cl := cl) (mc := w'.1 - f.2.2.2.1) (ms := w'.2.1 - f.2.2.2.2.1) (rest := r') hrv (va_runI (As := zz_sv z0 sp as) (b := zz_ad z0 sp b) ⟨X.1, X.2.1, X.2.2.1, X.2.2.2.1, X.2.2.2.2.1⟩ hM hcw ⟨zz_blind hG, fun U hU hW => ⟨by show (Value.ref (zz_ad z0 sp b) :: zz_sv z0 sp as).toArray = (zz_v z0 sp (.ref b) :: zz_sv z0 sp as).toArray; rw [zz_v_ref i2], by rw [hU]; exact hI, va_K.moved hW.alike X.2.2.2.2.2.1, zz_G_at X hG hS hU hW⟩⟩ rfl (by unfold zz_sv; rw [List.length_map]; exact hlen) hl.1 rfl (lv_room (by rw [zz_cs_sv]; exact zz_ble hb2)) hd ⟨by omega, by omega⟩) hS fun H1 locs1 hI1 hS1 => ?_
      have k1 := kk H1 locs1 ls hI1 hS1 hl
      have q1 : w'.1 - n0 = f.2.2.2.1 - n0 + (w'.1 - f.2.2.2.1) := by omega
      have q2 : w'.2.1 - s0 = f.2.2.2.2.1 - s0 + (w'.2.1 - f.2.2.2.2.1) := by omega
      have k2 : W p l e R s m args below meth c H1 locs1 (w'.1 - n0) (w'.2.1 - s0) Q (F0 m (pc + 3) ls (zz_sv z0 sp (rv ++ r'))) := k1
      rw [q1, q2] at k2
      exact k2
    · cases hf
theorem zo_callS {y index na : Nat} (hd : decode cc pc = .ok (.invokestatic index, 3)) (hKS : zz_KS l D cl fk cy z0 sp tys G yn (fun y => Cond.code (yn y) (cn y) (ml y) (rt y) :: Ts) d K) (hgood : ∀ w ∈ Ts, goodWord w = true) (hG : zz_GF z0 G)
    (hy : (yn y).cls ≠ "java/lang/invoke/MethodHandle" ∧ (yn y).cls ≠ "java/lang/invoke/VarHandle" ∧ (parseMethodDescriptor (yn y).desc).map (fun d => d.parameters.length) = some na) (hml : ml y ≤ 45) (hw : ∀ w ∈ ([.methodLink own index (yn y), .static (yn y), .initialized (yn y).cls, .code (yn y) (cn y) (ml y) (rt y)] : List Cond), w ∈ Ts) : zz_O l Ts D cl fk cy z0 sp tys G own mn nL cc d K pc (za_callS y na (pc + 3)) := by
  refine ⟨fun f f' hf => ?_, ?_⟩
  · unfold za_callS at hf
    obtain ⟨as, r, -, -, hf⟩ := zz_tk_ok _ _ _ hf
    obtain ⟨-, hf⟩ := zz_cond hf
    obtain ⟨rv, w', hq, -, e1⟩ := zz_cr_ok hf
    rw [e1]
    exact (hKS _ _ _ _ _ hq).1
  · intro p e R s m args below meth c X hR1 hR2 H locs n0 s0 Q ls f f' hpc hf hI hS hl hn hs hc1 hc2 kk
    unfold za_callS at hf
    obtain ⟨as, r', hst, hlen, hf⟩ := zz_tk_ok _ _ _ hf
    obtain ⟨hb2, hf⟩ := zz_cond hf
    obtain ⟨rv, w', hq, e1, e2⟩ := zz_cr_ok hf
    obtain ⟨⟨m1, m2⟩, hrv, hM⟩ := hKS _ _ _ _ _ hq
    have e1 := e1 hrv
    subst e1
    rw [List.append_nil] at hM
    have hst2 : zz_sv z0 sp f.2.2.1 = (zz_sv z0 sp as).reverse ++ zz_sv z0 sp r' := by
      rw [hst, zz_sv_app, zz_sv_rev]
    rw [hst2]
    have hcw : CallB R s args own index (yn y) (cn y) (ml y) (rt y) (Cond.code (yn y) (cn y) (ml y) (rt y) :: Ts) { frames := d, cells := w'.1 - f.2.2.2.1, slots := w'.2.1 - f.2.2.2.2.1, locals := 64 * d } (w'.1 - f.2.2.2.1) (w'.2.1 - f.2.2.2.2.1) na ∧ (Cond.static (yn y)).before args s = true :=
      ⟨callB_of na X.2.2.2.2.1 (zz_goodIn hgood (fun w h => by
          rcases List.mem_cons.mp h with h | h
          · rw [h]; exact hw _ (by simp)
          · exact h)) rfl rfl rfl (X.2.2.2.2.1 _ (hw _ (by simp))) (X.2.2.2.2.1 _ (hw _ (by simp))) hy ⟨hR1, by show 8 + (ml y + 11) + 64 * d ≤ _; omega⟩, X.2.2.2.2.1 _ (hw _ (by simp))⟩
    have hc1' : w'.1 - n0 ≤ R.cells := hc1
    have hc2' : w'.2.1 - s0 ≤ R.slots := hc2
    refine zz_behind (fk := fk) (cy := cy) (D := D) (cl := cl) (mc := w'.1 - f.2.2.2.1) (ms := w'.2.1 - f.2.2.2.2.1) (rest := r') hrv (va_runS (As := zz_sv z0 sp as) ⟨X.1, X.2.1, X.2.2.1, X.2.2.2.1, X.2.2.2.2.1⟩ hM hcw ⟨zz_blind hG, fun U hU hW => ⟨rfl, by rw [hU]; exact hI, va_K.moved hW.alike X.2.2.2.2.2.1, zz_G_at X hG hS hU hW⟩⟩ rfl (by unfold zz_sv; rw [List.length_map]; exact hlen) hl.1 rfl (lv_room (by rw [zz_cs_sv]; exact zz_ble hb2)) hd ⟨by omega, by omega⟩) hS fun H1 locs1 hI1 hS1 => ?_
    have k1 := kk H1 locs1 ls hI1 hS1 hl
    have q1 : w'.1 - n0 = f.2.2.2.1 - n0 + (w'.1 - f.2.2.2.1) := by omega
    have q2 : w'.2.1 - s0 = f.2.2.2.2.1 - s0 + (w'.2.1 - f.2.2.2.2.1) := by omega
    have k2 : W p l e R s m args below meth c H1 locs1 (w'.1 - n0) (w'.2.1 - s0) Q (F0 m (pc + 3) ls (zz_sv z0 sp (rv ++ r'))) := k1
    rw [q1, q2] at k2
    exact k2
end ZY
end
section
/-! EVERY RUN OF THE ABSTRACT MACHINE IS A CONTRACT OF THE REAL ONE -/
/-- returns stand where the table says so -/
def zz_RO (cc : ByteArray) (rt : Option FieldType) (T : zz_T) : Prop :=
  (∀ pc, (zz_ent T pc).1 = 1 → decode cc pc = .ok (.return_, 1) ∧ rt = none) ∧ (∀ pc, (zz_ent T pc).1 = 2 → decode cc pc = .ok (.ireturn, 1) ∧ rt = some .int) ∧ (∀ pc, (zz_ent T pc).1 = 3 → decode cc pc = .ok (.ireturn, 1) ∧ rt = some .boolean) ∧
  (∀ pc, (zz_ent T pc).1 = 4 → decode cc pc = .ok (.lreturn, 1) ∧ rt = some .long) ∧ (∀ pc, (zz_ent T pc).1 = 5 → decode cc pc = .ok (.areturn, 1) ∧ ∃ t, rt = some t ∧ ((∃ n, t = .object n) ∨ ∃ u, t = .array u)) ∧
  (∀ pc, (zz_ent T pc).1 = 6 → decode cc pc = .ok (.ireturn, 1) ∧ rt = some .char) ∧ (∀ pc, (zz_ent T pc).1 = 7 → decode cc pc = .ok (.ireturn, 1) ∧ rt = some .byte)
theorem zz_lg_len : ∀ vs : List Value, (lg_sl vs).length = zz_cs vs
  | [] => rfl
  | v :: vs => by
    have h1 : lg_sl (v :: vs) = (if v.category = 2 then [.val v, .second] else [.val v]) ++ lg_sl vs := rfl
    have h2 : zz_cs (v :: vs) = v.category + zz_cs vs := by unfold zz_cs; simp
    rw [h1, List.length_append, zz_lg_len vs, h2]
    rcases lv_cat v with h | h
    · rw [h]; rfl
    · rw [h]; rfl
theorem zz_nb : ∀ n, n < 128 → narrow .byte (.int (Int32.ofNat n)) = .int (Int32.ofNat n) := by decide
section ZM
variable {l : Launch} {Ts : List Cond} {D : va_G} {cl : List vw_C} {fk : Nat → Nat → Nat} {cy : Nat → ClassId} {z0 : Nat} {sp : Nat → Nat} {tys : List (ClassId × FieldType)} {G : State → Prop}
variable {yn : Nat → MethodName} {cn : Nat → ByteArray} {ml : Nat → Nat} {rt : Nat → Option FieldType} {P : Nat → zz_T}
theorem zz_cs_svv (as : List Value) : zz_cs (zz_sv z0 sp as) = zz_cs as := zz_cs_sv as
theorem zz_rt_ok {y : Nat} (hR : zz_RO (cn y) (rt y) (P y)) {f : zz_F} {rv : List Value} {w' : zz_W} (h : zz_rt (P y) f = some (rv, w')) : rv.length ≤ 1 ∧ w' = f.2.2.2 ∧
    ∀ (p : Program) (e : Env) (R : Room) (s : State) (m : MethodId) (args : Array Value) (below : List Frame) (meth : Method) (c : Code) (H : Heap) (locs : List Loc) (cells slots : Nat) (ls : Array Slot) (Qc : Array Value → State → Outcome → State → Prop) (free : Addr → Prop),
      p.tables.exec = Jvm.exec → c.code = cn y → meth.sig.returnType = rt y → meth.locks = false → (∀ t : State, t.heap = H → s.WarmedH t.vm → Qc args s (.returned (zz_sv z0 sp rv).head?) t) → (∀ q ∈ locs, free q.base) →
      W p l e R s m args below meth c H locs cells slots (MQ below Qc args s cells slots free) (F0 m f.1 ls (zz_sv z0 sp f.2.2.1)) := by
  unfold zz_rt at h
  split at h
  · rename_i hk hst
    cases h
    refine ⟨Nat.zero_le _, rfl, fun p e R s m args below meth c H locs cells slots ls Qc free hx hb hr hlocks hq hf => ?_⟩
    obtain ⟨hd, ht⟩ := hR.1 f.1 hk
    rw [hst]
    exact W.vret hx hb (hr.trans ht) hq hf hd hlocks
  · rename_i v hk hst
    cases h
    refine ⟨Nat.le_refl _, rfl, fun p e R s m args below meth c H locs cells slots ls Qc free hx hb hr hlocks hq hf => ?_⟩
    obtain ⟨hd, ht⟩ := hR.2.1 f.1 hk
    rw [hst]
    exact W.iret hx hb (hr.trans ht) hq hf hd hlocks
  · rename_i v hk hst
    obtain ⟨hv, h⟩ := zz_cond h
    cases h
    refine ⟨Nat.le_refl _, rfl, fun p e R s m args below meth c H locs cells slots ls Qc free hx hb hr hlocks hq hf => ?_⟩
    obtain ⟨hd, ht⟩ := hR.2.2.1 f.1 hk
    rw [hst]
    exact W.zret (ty := .boolean) hx hb (hr.trans ht) (by rcases zz_b01 (zz_blt hv) with rfl | rfl <;> rfl) hq hf hd hlocks
  · rename_i v hk hst
    cases h
    refine ⟨Nat.le_refl _, rfl, fun p e R s m args below meth c H locs cells slots ls Qc free hx hb hr hlocks hq hf => ?_⟩
    obtain ⟨hd, ht⟩ := hR.2.2.2.1 f.1 hk
    rw [hst]
    exact W.lret hx hb (hr.trans ht) hq hf hd hlocks
  · rename_i v hk hst
    obtain ⟨hv, h⟩ := zz_cond h
    cases h
    refine ⟨Nat.le_refl _, rfl, fun p e R s m args below meth c H locs cells slots ls Qc free hx hb hr hlocks hq hf => ?_⟩
    obtain ⟨hd, ht⟩ := hR.2.2.2.2.2.1 f.1 hk
    rw [hst]
    exact W.zret (ty := .char) hx hb (hr.trans ht) (by rw [← zz_nI_of v]; exact (pk_charN (zz_blt hv)).1) hq hf hd hlocks
  · rename_i v hk hst
    obtain ⟨hv, h⟩ := zz_cond h
    cases h
    refine ⟨Nat.le_refl _, rfl, fun p e R s m args below meth c H locs cells slots ls Qc free hx hb hr hlocks hq hf => ?_⟩
    obtain ⟨hd, ht⟩ := hR.2.2.2.2.2.2 f.1 hk
    rw [hst]
    exact W.zret (ty := .byte) hx hb (hr.trans ht) (by rw [← zz_nI_of v]; exact zz_nb _ (zz_blt hv)) hq hf hd hlocks
  · rename_i v hk hst
    cases h
    refine ⟨Nat.le_refl _, rfl, fun p e R s m args below meth c H locs cells slots ls Qc free hx hb hr hlocks hq hf => ?_⟩
    obtain ⟨hd, t, ht, hrt⟩ := hR.2.2.2.2.1 f.1 hk
    rw [hst]
    exact W.aret hx hb (hr.trans ht) hrt (Or.inr ⟨_, rfl⟩) hq hf hd hlocks
  · rename_i hk hst
    cases h
    refine ⟨Nat.le_refl _, rfl, fun p e R s m args below meth c H locs cells slots ls Qc free hx hb hr hlocks hq hf => ?_⟩
    obtain ⟨hd, t, ht, hrt⟩ := hR.2.2.2.2.1 f.1 hk
    rw [hst]
    exact W.aret hx hb (hr.trans ht) hrt (Or.inl rfl) hq hf hd hlocks
  · cases h
theorem zz_KS_all (hP : ∀ (d : Nat) (K : zz_K), zz_KS l D cl fk cy z0 sp tys G yn (fun y => Cond.code (yn y) (cn y) (ml y) (rt y) :: Ts) d K → ∀ y, zz_TO l Ts D cl fk cy z0 sp tys G (yn y).cls (yn y).name (ml y) (cn y) d K (P y)) (hR : ∀ y, zz_RO (cn y) (rt y) (P y)) (hy : ∀ y, plainName (yn y).cls = true) :
    ∀ d : Nat, zz_KS l D cl fk cy z0 sp tys G yn (fun y => Cond.code (yn y) (cn y) (ml y) (rt y) :: Ts) d (zz_cl P ml d)
  | 0 => fun y as w rv w' h => by cases h
  | d + 1 => fun y as w rv w' h => by
    have h : zz_rn (P y) (ml y) (zz_cl P ml d) as w = some (rv, w') := h
    unfold zz_rn at h
    obtain ⟨ha, h⟩ := zz_cond h
    cases hf : zz_it (P y) (zz_cl P ml d) 30 (0, lv_args 0 as, [], w) with
    | none => rw [hf] at h; cases h
    | some f =>
      rw [hf] at h
      have h : zz_rt (P y) f = some (rv, w') := h
      have hB := zz_it_B (hP d _ (zz_KS_all hP hR hy d) y) 30 hf
      obtain ⟨hrv, e1, hend⟩ := zz_rt_ok (l := l) (z0 := z0) (sp := sp) (hR y) h
      subst e1
      refine ⟨hB.1, hrv, ?_⟩
      refine Met.ofW (cc := cn y) (maxL := ml y) (ret := rt y) (hy y) rfl ?_
      intro p e s m args below meth c s₁ B hml hv
      obtain ⟨rfl, hI, hK, hG⟩ := hv
      have hts := atoms_spec (ws := Cond.code (yn y) (cn y) (ml y) (rt y) :: Ts) B.pre
      have X : zz_X Ts D cl tys G (yn y).cls (yn y).name (ml y) (cn y) p s m (zz_sv z0 sp as).toArray meth c := ⟨B.exec, B.bytes, hml, findClass_of_methodNamed B.named, fun w hw => hts w (List.mem_cons_of_mem _ hw), hK, B.notSynchronized, (name_of_methodNamed B.named B.method).1, hG⟩
      have hl := lv_entry (zz_sv z0 sp as) (n := ml y) (by rw [zz_lg_len, zz_cs_svv]; exact zz_ble ha)
      rw [zz_lv_args] at hl
      rw [lg_entry_eq]
      have k1 := hB.2 p e (headSpec (Cond.code (yn y) (cn y) (ml y) (rt y) :: Ts) { frames := d + 1, cells := f.2.2.2.1 - w.1, slots := f.2.2.2.2.1 - w.2.1, locals := 64 * (d + 1) }).room s m (zz_sv z0 sp as).toArray below meth c X (Nat.le_refl _) (Nat.le_refl _) s.heap [] w.1 w.2.1 (MQ below (zz_Qc D cl fk cy z0 sp rv f.2.2.2) (zz_sv z0 sp as).toArray s (f.2.2.2.1 - w.1) (f.2.2.2.2.1 - w.2.1) (fun q => z0 ≤ q)) _ hI va_S.rf hl (Nat.le_refl _) (Nat.le_refl _) (Nat.le_refl _) (Nat.le_refl _) (fun H' locs' ls' hI' hS' hl' => hend p e _ s m _ below meth c H' locs' _ _ ls' _ _ B.exec B.bytes B.returns B.notSynchronized (fun t ht _ => ⟨⟨rfl, by rw [ht]; exact hI'⟩, hS'.F ht⟩) hS'.2.2)
      have k2 : W p l e (headSpec (Cond.code (yn y) (cn y) (ml y) (rt y) :: Ts) { frames := d + 1, cells := f.2.2.2.1 - w.1, slots := f.2.2.2.2.1 - w.2.1, locals := 64 * (d + 1) }).room s m (zz_sv z0 sp as).toArray below meth c s.heap [] (w.1 - w.1) (w.2.1 - w.2.1) (MQ below (zz_Qc D cl fk cy z0 sp rv f.2.2.2) (zz_sv z0 sp as).toArray s (f.2.2.2.1 - w.1) (f.2.2.2.2.1 - w.2.1) (fun q => z0 ≤ q)) (F0 m 0 ((lg_sl (zz_sv z0 sp as) ++ List.replicate (ml y - (lg_sl (zz_sv z0 sp as)).length) Slot.unset).toArray) []) := k1
      rw [Nat.sub_self, Nat.sub_self] at k2
      exact k2
end ZM
end
section
/-! TABLES: their instructions one by one -/
section ZTB
variable {l : Launch} {Ts : List Cond} {D : va_G} {cl : List vw_C} {fk : Nat → Nat → Nat} {cy : Nat → ClassId} {z0 : Nat} {sp : Nat → Nat} {tys : List (ClassId × FieldType)} {G : State → Prop} {own mn : String} {nL : Nat} {cc : ByteArray} {d : Nat} {K : zz_K}
/-- a chunk's instructions from pc on, by a property of place and instruction -/
def zz_CO (Pr : Nat → zz_A → Prop) : Nat → List (Nat × zz_A) → Prop
  | _, [] => True
  | pc, e :: r => (e.1 = 0 → Pr pc e.2) ∧ zz_CO Pr (pc + 1) r
def zz_TC (Pr : Nat → zz_A → Prop) : Nat → zz_T → Prop
  | _, [] => True
  | i, ch :: r => zz_CO Pr (16 * i) ch ∧ zz_TC Pr (i + 1) r
theorem zz_CO_at {Pr : Nat → zz_A → Prop} : ∀ (pc : Nat) (ch : List (Nat × zz_A)), zz_CO Pr pc ch → ∀ j e, ch[j]? = some e → e.1 = 0 → Pr (pc + j) e.2
  | _, [], _, j, e, he, _ => by cases he
  | pc, x :: r, h, 0, e, he, h0 => by
    cases he
    exact h.1 h0
  | pc, x :: r, h, j + 1, e, he, h0 => by
    have := zz_CO_at (pc + 1) r h.2 j e he h0
    rw [show pc + 1 + j = pc + (j + 1) by omega] at this
    exact this
theorem zz_TC_at {Pr : Nat → zz_A → Prop} : ∀ (i : Nat) (T : zz_T), zz_TC Pr i T → ∀ k ch, T[k]? = some ch → zz_CO Pr (16 * (i + k)) ch
  | _, [], _, k, ch, he => by cases he
  | i, x :: r, h, 0, ch, he => by
    cases he
    exact h.1
  | i, x :: r, h, k + 1, ch, he => by
    have := zz_TC_at (i + 1) r h.2 k ch he
    rw [show i + 1 + k = i + (k + 1) by omega] at this
    exact this
theorem zz_ent_at {Pr : Nat → zz_A → Prop} {T : zz_T} (h : zz_TC Pr 0 T) (pc : Nat) (h0 : (zz_ent T pc).1 = 0) : Pr pc (zz_ent T pc).2 := by
  unfold zz_ent at h0 ⊢
  cases hc : T[pc / 16]? with
  | none =>
    have e1 : T.getD (pc / 16) [] = [] := by rw [List.getD_eq_getElem?_getD, hc]; rfl
    rw [e1] at h0
    simp [zz_en0] at h0
  | some ch =>
    have e1 : T.getD (pc / 16) [] = ch := by rw [List.getD_eq_getElem?_getD, hc]; rfl
    rw [e1] at h0 ⊢
    cases he : ch[pc % 16]? with
    | none =>
      have e2 : ch.getD (pc % 16) zz_en0 = zz_en0 := by rw [List.getD_eq_getElem?_getD, he]; rfl
      rw [e2] at h0
      cases h0
    | some e =>
      have e2 : ch.getD (pc % 16) zz_en0 = e := by rw [List.getD_eq_getElem?_getD, he]; rfl
      rw [e2] at h0 ⊢
      have h1 := zz_CO_at _ _ (zz_TC_at 0 T h (pc / 16) ch hc) (pc % 16) e he h0
      rw [show 16 * (0 + pc / 16) + pc % 16 = pc by omega] at h1
      exact h1
theorem zz_TO_of {T : zz_T} (h : zz_TC (fun pc act => zz_O l Ts D cl fk cy z0 sp tys G own mn nL cc d K pc act) 0 T) : zz_TO l Ts D cl fk cy z0 sp tys G own mn nL cc d K T := fun pc h0 => zz_ent_at h pc h0
/-- returns, read off a table by a program -/
def zz_rk (f : Nat → Nat → Bool) : Nat → List (Nat × zz_A) → Bool
  | _, [] => true
  | pc, e :: r => f pc e.1 && zz_rk f (pc + 1) r
def zz_rkT (f : Nat → Nat → Bool) : Nat → zz_T → Bool
  | _, [] => true
  | i, ch :: r => zz_rk f (16 * i) ch && zz_rkT f (i + 1) r
theorem zz_rk_at {f : Nat → Nat → Bool} : ∀ (pc : Nat) (ch : List (Nat × zz_A)), zz_rk f pc ch = true → ∀ j e, ch[j]? = some e → f (pc + j) e.1 = true
  | _, [], _, j, e, he => by cases he
  | pc, x :: r, h, 0, e, he => by
    cases he
    exact (zz_and h).1
  | pc, x :: r, h, j + 1, e, he => by
    have := zz_rk_at (pc + 1) r (zz_and h).2 j e he
    rw [show pc + 1 + j = pc + (j + 1) by omega] at this
    exact this
theorem zz_rkT_at {f : Nat → Nat → Bool} : ∀ (i : Nat) (T : zz_T), zz_rkT f i T = true → ∀ k ch, T[k]? = some ch → zz_rk f (16 * (i + k)) ch = true
  | _, [], _, k, ch, he => by cases he
  | i, x :: r, h, 0, ch, he => by
    cases he
    exact (zz_and h).1
  | i, x :: r, h, k + 1, ch, he => by
    have := zz_rkT_at (i + 1) r (zz_and h).2 k ch he
    rw [show i + 1 + k = i + (k + 1) by omega] at this
    exact this
theorem zz_rk_ent {f : Nat → Nat → Bool} {T : zz_T} (h : zz_rkT f 0 T = true) (h9 : ∀ pc, f pc 9 = true) (pc : Nat) : f pc (zz_ent T pc).1 = true := by
  unfold zz_ent
  cases hc : T[pc / 16]? with
  | none =>
    have e1 : T.getD (pc / 16) [] = [] := by rw [List.getD_eq_getElem?_getD, hc]; rfl
    rw [e1]
    exact h9 pc
  | some ch =>
    have e1 : T.getD (pc / 16) [] = ch := by rw [List.getD_eq_getElem?_getD, hc]; rfl
    rw [e1]
    cases he : ch[pc % 16]? with
    | none =>
      have e2 : ch.getD (pc % 16) zz_en0 = zz_en0 := by rw [List.getD_eq_getElem?_getD, he]; rfl
      rw [e2]
      exact h9 pc
    | some e =>
      have e2 : ch.getD (pc % 16) zz_en0 = e := by rw [List.getD_eq_getElem?_getD, he]; rfl
      rw [e2]
      have h1 := zz_rk_at _ _ (zz_rkT_at 0 T h (pc / 16) ch hc) (pc % 16) e he
      rw [show 16 * (0 + pc / 16) + pc % 16 = pc by omega] at h1
      exact h1
def zz_isRef (rt : Option FieldType) : Bool := match rt with
  | some t => zz_isR t
  | none => false
def zz_rf (cc : ByteArray) (rt : Option FieldType) (pc k : Nat) : Bool := match k with
  | 1 => decide (decode cc pc = .ok (.return_, 1)) && decide (rt = none)
  | 2 => decide (decode cc pc = .ok (.ireturn, 1)) && decide (rt = some .int)
  | 3 => decide (decode cc pc = .ok (.ireturn, 1)) && decide (rt = some .boolean)
  | 4 => decide (decode cc pc = .ok (.lreturn, 1)) && decide (rt = some .long)
  | 5 => decide (decode cc pc = .ok (.areturn, 1)) && zz_isRef rt
  | 6 => decide (decode cc pc = .ok (.ireturn, 1)) && decide (rt = some .char)
  | 7 => decide (decode cc pc = .ok (.ireturn, 1)) && decide (rt = some .byte)
  | _ => true
theorem zz_RO_of {cc : ByteArray} {rt : Option FieldType} {T : zz_T} (h : zz_rkT (zz_rf cc rt) 0 T = true) : zz_RO cc rt T := by
  have h1 : ∀ pc, zz_rf cc rt pc (zz_ent T pc).1 = true := zz_rk_ent h (fun _ => rfl)
  refine ⟨fun pc hk => ?_, fun pc hk => ?_, fun pc hk => ?_, fun pc hk => ?_, fun pc hk => ?_, fun pc hk => ?_, fun pc hk => ?_⟩
  all_goals
    have h2 := h1 pc
    rw [hk] at h2
    obtain ⟨a, b⟩ := zz_and h2
    refine ⟨of_decide_eq_true a, ?_⟩
  · exact of_decide_eq_true b
  · exact of_decide_eq_true b
  · exact of_decide_eq_true b
  · exact of_decide_eq_true b
  · cases rt with
    | none => cases b
    | some t =>
      refine ⟨t, rfl, ?_⟩
      cases t with
      | object n => exact Or.inl ⟨n, rfl⟩
      | array u => exact Or.inr ⟨u, rfl⟩
      | _ => cases b
  · exact of_decide_eq_true b
  · exact of_decide_eq_true b
end ZTB
end
section
/-! SWITCHES BY KEYS -/
def zz_lo (d : Nat) (l : List (Int × Nat)) (x : Int) : Option Nat := match l with
  | [] => some d
  | q :: r => if x = q.1 then some q.2 else zz_lo d r x
theorem zz_lo_ok0 {pc dt : Nat} {dflt : Int} (h1 : (pc : Int) + dflt = (dt : Int)) : ∀ (ps : List (Int × Int)) (l : List (Int × Nat)), ps.map (fun q => (q.1, (pc : Int) + q.2)) = l.map (fun q => (q.1, (q.2 : Int))) → ∀ x t, zz_lo dt l x = some t → (pc : Int) + Op.lookupswitch.offset ps dflt x = (t : Int)
  | [], [], _, x, t, h => by
    cases h
    exact h1
  | [], _ :: _, h, _, _, _ => by cases h
  | _ :: _, [], h, _, _, _ => by cases h
  | (a, o) :: ps, (b, u) :: l, h, x, t, hx => by
    simp only [List.map_cons, List.cons.injEq, Prod.mk.injEq] at h
    obtain ⟨⟨e1, e2⟩, e3⟩ := h
    unfold zz_lo at hx
    by_cases hc : x = b
    · rw [if_pos hc] at hx
      cases hx
      have : Op.lookupswitch.offset ((a, o) :: ps) dflt x = o := by
        rw [hc, ← e1]
        simp [Op.lookupswitch.offset]
      rw [this]
      exact e2
    · rw [if_neg hc] at hx
      have : Op.lookupswitch.offset ((a, o) :: ps) dflt x = Op.lookupswitch.offset ps dflt x := by
        have hn : ¬ a = x := fun q => hc (q ▸ e1)
        have hn2 : ¬ x = a := fun q => hn q.symm
        simp [Op.lookupswitch.offset, hn, hn2]
      rw [this]
      exact zz_lo_ok0 h1 ps l e3 x t hx
theorem zz_lo_ok {pc dt : Nat} {dflt : Int} {ps : Array (Int × Int)} {l : List (Int × Nat)} (h1 : (pc : Int) + dflt = (dt : Int)) (h2 : ps.toList.map (fun q => (q.1, (pc : Int) + q.2)) = l.map (fun q => (q.1, (q.2 : Int)))) : ∀ x t, zz_lo dt l x = some t → (pc : Int) + Op.lookupswitch.offset ps.toList dflt x = (t : Int) := zz_lo_ok0 h1 ps.toList l h2
end
section
/-! WHAT STOOD THERE BEFORE: texts, constant rows, statics; rows of references -/
section ZK
variable {l : Launch} {Ts : List Cond} {D : va_G} {cl : List vw_C} {fk : Nat → Nat → Nat} {cy : Nat → ClassId} {z0 : Nat} {sp : Nat → Nat} {tys : List (ClassId × FieldType)} {G : State → Prop} {own mn : String} {nL : Nat} {cc : ByteArray} {d : Nat} {K : zz_K} {pc : Nat}
theorem zo_ldcS {index k : Nat} {tx : String} (hd : decode cc pc = .ok (.ldc index, 2)) (hR : ∀ U, G U → vk_R own index tx (sp k) U) : zz_O l Ts D cl fk cy z0 sp tys G own mn nL cc d K pc (za_const (.ref (1000000 + k)) (pc + 2)) :=
  zo_still (fun f f' _ hf => by
    cases hf
    refine ⟨rfl, fun p e R s m args below meth c H locs cells slots Q ls X hS hl kk => ?_⟩
    have k1 := kk ls hl
    have e1 : zz_sv z0 sp (Value.ref (1000000 + k) :: f.2.2.1) = .ref (sp k) :: zz_sv z0 sp f.2.2.1 := by
      show Value.ref (zz_r z0 sp (1000000 + k)) :: _ = _
      rw [zz_r, if_neg (by omega), show 1000000 + k - 1000000 = k by omega]
      rfl
    rw [e1] at k1
    exact va_ldcS X.1 X.2.1 X.2.2.2.1 (hR s X.2.2.2.2.2.2.2.2) hd k1) (fun f f' hf => by cases hf; rfl)
/-- getstatic of what is known -/
theorem zo_gets {index : Nat} {C n ds : String} {v : Value} (hd : decode cc pc = .ok (.getstatic index, 3)) (hw : Cond.fieldLink own index C n ds ∈ Ts) (hZ : ∀ U, G U → va_Z C n ds (zz_v z0 sp v) (fun q : Nat => z0 ≤ q) U U.heap) : zz_O l Ts D cl fk cy z0 sp tys G own mn nL cc d K pc (za_const v (pc + 3)) :=
  zo_still (fun f f' _ hf => by
    cases hf
    refine ⟨rfl, fun p e R s m args below meth c H locs cells slots Q ls X hS hl kk => ?_⟩
    exact va_gets X.1 X.2.1 (hZ s X.2.2.2.2.2.2.2.2) hS X.2.2.2.1 (X.2.2.2.2.1 _ hw) (fun _ h => h) hd (kk ls hl)) (fun f f' hf => by cases hf; rfl)
theorem zo_getsN {index : Nat} {C n ds host : String} {v : Value} (hd : decode cc pc = .ok (.getstatic index, 3)) (hw : ∀ U, G U → va_Nw (.fieldLinkNest own index C n ds host) U) (hZ : ∀ U, G U → va_Z C n ds (zz_v z0 sp v) (fun q : Nat => z0 ≤ q) U U.heap) : zz_O l Ts D cl fk cy z0 sp tys G own mn nL cc d K pc (za_const v (pc + 3)) :=
  zo_still (fun f f' _ hf => by
    cases hf
    refine ⟨rfl, fun p e R s m args below meth c H locs cells slots Q ls X hS hl kk => ?_⟩
    exact va_getsN X.1 X.2.1 (hZ s X.2.2.2.2.2.2.2.2) hS X.2.2.2.1 (va_Nw.use rfl (hw s X.2.2.2.2.2.2.2.2)) (fun _ h => h) hd (kk ls hl)) (fun f f' hf => by cases hf; rfl)
/-- a field of a thing that stood there before -/
def za_kf (g : Nat → Option Value) (n : Nat) : zz_A := fun _ f => match f.2.2.1 with
  | .ref i :: r => match g i with
    | some v => some (n, f.2.1, v :: r, f.2.2.2)
    | none => none
  | _ => none
theorem zo_kf {g : Nat → Option Value} {index : Nat} {o n ds : String} (hd : decode cc pc = .ok (.getfield index, 3)) (hw : Cond.fieldLink own index o n ds ∈ Ts) (hg : ∀ i v, g i = some v → ∀ U, G U → va_OF o n ds (zz_v z0 sp v) (zz_r z0 sp i) (fun q : Nat => z0 ≤ q) U U.heap) : zz_O l Ts D cl fk cy z0 sp tys G own mn nL cc d K pc (za_kf g (pc + 3)) :=
  zo_still (fun f f' _ hf => by
    unfold za_kf at hf
    split at hf
    · rename_i i r hst
      split at hf
      · rename_i v hv
        cases hf
        refine ⟨rfl, fun p e R s m args below meth c H locs cells slots Q ls X hS hl kk => ?_⟩
        rw [hst]
        exact vk_getf X.1 X.2.1 (hg i v hv s X.2.2.2.2.2.2.2.2) hS X.2.2.2.1 (X.2.2.2.2.1 _ hw) (fun _ h => h) hd (kk ls hl)
      · cases hf
    · cases hf) (fun f f' hf => by
    unfold za_kf at hf
    split at hf
    · split at hf
      · cases hf
        rfl
      · cases hf
    · cases hf)
/-- a place of a constant row -/
noncomputable def za_kl (g : Nat → Nat → Option Nat) (n : Nat) : zz_A := fun _ f => match f.2.2.1 with
  | .int j :: .ref i :: r => match g i (zz_nI j) with
    | some v => zz_fN v (fun v => some (n, f.2.1, .int (Int32.ofNat v) :: r, f.2.2.2))
    | none => none
  | _ => none
/-- what is known of a constant row of elements ty, by its numbers -/
def zz_KR (G : State → Prop) (z0 : Nat) (sp : Nat → Nat) (ty : FieldType) (g : Nat → Nat → Option Nat) : Prop := ∀ i j v, g i j = some v → ∃ (N : Nat) (h : Nat → Value), (∀ U, G U → va_T ty (zz_r z0 sp i) N h (fun q : Nat => z0 ≤ q) U U.heap) ∧ j < N ∧ N ≤ 2147483648 ∧ h j = .int (Int32.ofNat v)
theorem zo_kli {g : Nat → Nat → Option Nat} (hd : decode cc pc = .ok (.iaload, 1)) (hg : zz_KR G z0 sp .int g) : zz_O l Ts D cl fk cy z0 sp tys G own mn nL cc d K pc (za_kl g (pc + 1)) :=
  zo_still (fun f f' _ hf => by
    unfold za_kl at hf
    split at hf
    · rename_i j i r hst
      split at hf
      · rename_i v hv
        rw [zz_fN_eq] at hf
        cases hf
        refine ⟨rfl, fun p e R s m args below meth c H locs cells slots Q ls X hS hl kk => ?_⟩
        obtain ⟨N, h, h1, h2, h3, h4⟩ := hg _ _ _ hv
        obtain ⟨hin, hcl⟩ := zz_idx h2 h3
        rw [hst]
        exact va_ti X.1 X.2.1 (h1 s X.2.2.2.2.2.2.2.2) hS hin (v := .int (Int32.ofNat v)) (by rw [hcl]; exact h4) hd (kk ls hl)
      · cases hf
    · cases hf) (fun f f' hf => by
    unfold za_kl at hf
    split at hf
    · split at hf
      · rw [zz_fN_eq] at hf
        cases hf
        rfl
      · cases hf
    · cases hf)
theorem zo_klb {g : Nat → Nat → Option Nat} (hd : decode cc pc = .ok (.baload, 1)) (hg : zz_KR G z0 sp .byte g) : zz_O l Ts D cl fk cy z0 sp tys G own mn nL cc d K pc (za_kl g (pc + 1)) :=
  zo_still (fun f f' _ hf => by
    unfold za_kl at hf
    split at hf
    · rename_i j i r hst
      split at hf
      · rename_i v hv
        rw [zz_fN_eq] at hf
        cases hf
        refine ⟨rfl, fun p e R s m args below meth c H locs cells slots Q ls X hS hl kk => ?_⟩
        obtain ⟨N, h, h1, h2, h3, h4⟩ := hg _ _ _ hv
        obtain ⟨hin, hcl⟩ := zz_idx h2 h3
        rw [hst]
        exact va_tb X.1 X.2.1 (h1 s X.2.2.2.2.2.2.2.2) hS hin (v := .int (Int32.ofNat v)) (by rw [hcl]; exact h4) hd (kk ls hl)
      · cases hf
    · cases hf) (fun f f' hf => by
    unfold za_kl at hf
    split at hf
    · split at hf
      · rw [zz_fN_eq] at hf
        cases hf
        rfl
      · cases hf
    · cases hf)
/-- a constant row's length -/
noncomputable def za_kn (g : Nat → Option Nat) (n : Nat) : zz_A := fun _ f => match f.2.2.1 with
  | .ref i :: r => match g i with
    | some v => zz_fN v (fun v => some (n, f.2.1, .int (Int32.ofNat v) :: r, f.2.2.2))
    | none => none
  | _ => none
theorem zo_kn {g : Nat → Option Nat} (hd : decode cc pc = .ok (.arraylength, 1)) (hg : ∀ i v, g i = some v → ∃ (ty : FieldType) (h : Nat → Value), ∀ U, G U → va_T ty (zz_r z0 sp i) v h (fun q : Nat => z0 ≤ q) U U.heap) : zz_O l Ts D cl fk cy z0 sp tys G own mn nL cc d K pc (za_kn g (pc + 1)) :=
  zo_still (fun f f' _ hf => by
    unfold za_kn at hf
    split at hf
    · rename_i i r hst
      split at hf
      · rename_i v hv
        rw [zz_fN_eq] at hf
        cases hf
        refine ⟨rfl, fun p e R s m args below meth c H locs cells slots Q ls X hS hl kk => ?_⟩
        obtain ⟨ty, h, h1⟩ := hg _ _ hv
        rw [hst]
        exact va_tlen X.1 X.2.1 (h1 s X.2.2.2.2.2.2.2.2) hS rfl hd (kk ls hl)
      · cases hf
    · cases hf) (fun f f' hf => by
    unfold za_kn at hf
    split at hf
    · split at hf
      · rw [zz_fN_eq] at hf
        cases hf
        rfl
      · cases hf
    · cases hf)
/-- a new row of references -/
noncomputable def za_newq (t n : Nat) : zz_A := fun _ f => match f.2.2.1 with
  | .int x :: r => zz_fN (zz_nI x) (fun N => cond (Nat.ble N 1000000) (zz_nw f.2.2.2 (2, t, N, 0) N (fun w => some (n, f.2.1, .ref f.2.2.2.1 :: r, w))) none)
  | _ => none
theorem zo_newq (hsp0 : sp 18446744073709551616 = 0) {t index : Nat} {C : String} (hd : decode cc pc = .ok (.anewarray index, 3)) (hw1 : Cond.classLink own index C ∈ Ts) (hao : ∀ U, G U → va_AO C U) (ht : tys[t]? = some (cy t, .object C)) : zz_O l Ts D cl fk cy z0 sp tys G own mn nL cc d K pc (za_newq t (pc + 3)) := by
  refine zo_born hsp0 (fun f f' _ hf => ?_) (fun f f' hf => ?_)
  · unfold za_newq at hf
    split at hf
    · rename_i x r hst
      rw [zz_fN_eq] at hf
      obtain ⟨hx, hf⟩ := zz_cond hf
      have hx := zz_ble hx
      obtain ⟨hn, w', hk1, e1, e2, hg⟩ := zz_nw_ok hf
      cases hk1
      refine ⟨_, _, e1, e2, rfl, hg, fun p e R s m args below meth c H locs cells slots Q ls X hI hc1 hc2 kk => ?_⟩
      have h1 : zz_nI x < 1000001 := by omega
      obtain ⟨hin, hcl2⟩ := zz_idx h1 (by decide)
      rw [hst]
      show W _ _ _ _ _ _ _ _ _ _ _ _ _ _ _ (F0 m pc ls (Value.int x :: zz_sv z0 sp r))
      refine W.anew X.1 X.2.1 X.2.2.2.1 (X.2.2.2.2.1 _ hw1) (va_AO.use (hao s X.2.2.2.2.2.2.2.2)) rfl hd rfl (fun q => hin (Or.inl q)) (by rw [hcl2]; omega) hc1 (by rw [hcl2]; exact hc2) fun cA kA comp f1 f2 f3 f4 => ?_
      obtain ⟨kA', comp', k1, k2, k3, k4⟩ := (X.2.2.2.2.2.1.2 t _ ht).2
      have hcA : cA = cy t := Option.some.inj (f1.symm.trans k4)
      subst hcA
      rw [hcl2]
      generalize hH1 : H.push ({ cls := cy t, slots := Array.replicate (zz_nI x) .null, vm := .none } : Cell) = H1
      have z1 : H1.size = H.size + 1 := by rw [← hH1, Array.size_push]
      have g1 : H1[H.size]? = some (arrV (cy t) (zz_nI x) (fun _ => .null)) := by rw [← hH1, Array.getElem?_push_size, ← arrV_new]
      have o1 : ∀ q : Nat, q < H.size → H1[q]? = H[q]? := fun q hq => by rw [← hH1, Array.getElem?_push, if_neg (Nat.ne_of_lt hq)]
      have k5 := kk H1 z1 o1 (by
        rw [zz_e_q (t := t) rfl rfl, ← hI.1]
        show H1[H.size]? = some (vp_cell _ _)
        rw [g1, vp_cell_q]
        congr 2
        funext q
        rw [zz_at_0]
        rfl)
      have hv : zz_sv z0 sp (Value.ref f.2.2.2.1 :: r) = Value.ref H.size :: zz_sv z0 sp r := by
        show zz_v z0 sp (Value.ref f.2.2.2.1) :: zz_sv z0 sp r = _
        rw [zz_v_ref hn, zz_ad_0 hsp0, hI.1]
      have k6 : W p l e R s m args below meth c H1 locs (cells + 1) (slots + zz_nI x) Q (F0 m (pc + 3) ls (zz_sv z0 sp (Value.ref f.2.2.2.1 :: r))) := k5
      rw [hv] at k6
      exact k6
    · cases hf
  · unfold za_newq at hf
    split at hf
    · rw [zz_fN_eq] at hf
      obtain ⟨hx, hf⟩ := zz_cond hf
      obtain ⟨hn, w', hk1, e1, e2, hg⟩ := zz_nw_ok hf
      cases hk1
      show _ ≤ w'.1 ∧ _ ≤ w'.2.1
      rw [e1, e2]
      exact ⟨Nat.le_succ _, Nat.le_add_right _ _⟩
    · cases hf
/-- a store of an object of class ci into a row of references -/
noncomputable def za_astA (t ci n : Nat) : zz_A := fun _ f => match f.2.2.1 with
  | .ref v :: .int j :: .ref i :: r => cond (zz_ic f.2.2.2 v ci) (zz_pr f.2.2.2 i 2 t 32 (zz_nI j) (v + 1) (fun w => some (n, f.2.1, r, w))) none
  | _ => none
theorem zo_aastore {t ci N : Nat} {C : String} {T : u_T} (hd : decode cc pc = .ok (.aastore, 1)) (ht : tys[t]? = some (cy t, .object C)) (hc : cl[ci]? = some (C, T, N)) : zz_O l Ts D cl fk cy z0 sp tys G own mn nL cc d K pc (za_astA t ci (pc + 1)) :=
  zo_write (fun f f' _ hf => by
    unfold za_astA at hf
    split at hf
    · rename_i v j i r hst
      obtain ⟨hv, hf⟩ := zz_cond hf
      obtain ⟨v1, v2, v3, v4⟩ := zz_ic_ok hv
      obtain ⟨hi, w', hk1, e1, e2, hg⟩ := zz_pr_ok hf
      obtain ⟨h1, h2, h3, h4, h5, h6⟩ := zz_ir_ok hi
      obtain ⟨hin, hcl⟩ := zz_idx h5 h6
      cases hk1
      refine ⟨e1, e2, rfl, fun p e R s m args below meth c H locs cells slots Q ls X hI kk => ?_⟩
      have he := zz_I_at hI h1
      rw [zz_e_q h3 h4] at he
      have hev := zz_I_at hI v1
      rw [zz_e_o v3 v4] at hev
      obtain ⟨r', hr', cellV, g1, g2, g3, -⟩ := hev
      have hcls := (X.2.2.2.2.2.1.1 ci _ hc).2
      obtain ⟨kA, comp, k1, k2, k3, -⟩ := (X.2.2.2.2.2.1.2 t _ ht).2
      have hcomp : comp = D.1 ci := Option.some.inj (k3.symm.trans hcls.1)
      subst hcomp
      obtain ⟨kC, hkC, hkind⟩ := hcls.2
      have hlt : j.toNatClampNeg < (zz_g f.2.2.2 i).2.2.1 := by rw [hcl]; exact h5
      rw [hst]
      show W _ _ _ _ _ _ _ _ _ _ _ _ _ _ _ (F0 m pc ls (zz_v z0 sp (.ref v) :: Value.int j :: zz_v z0 sp (.ref i) :: zz_sv z0 sp r))
      rw [zz_v_ref h2, zz_v_ref v2]
      refine W.aast X.1 X.2.1 he (fun q h => by cases h) (fun h => by cases h) k1 k2 rfl hkC ⟨fun q => hin (Or.inl q), by show _ < (arrV _ _ _).slots.size; rw [arrV_size]; exact hlt⟩ g1 (fun q h => by rw [g3] at h; cases h) (by rw [g2]; exact hkC) (by rw [g2]; exact va_assign hcls) rfl rfl hd fun H1 g1 z1 o1 => ?_
      refine kk H1 (zz_ad z0 sp i) _ (Nat.le_add_right _ _) z1 o1 (zz_I_set hI e1 hg ?_ z1 o1)
      rw [zz_e_q (t := t) rfl rfl]
      show H1[zz_ad z0 sp i]? = some (vp_cell _ _)
      rw [g1]
      show some ((vp_cell (cy t) _).setSlot _ _) = _
      rw [vp_cell_q, vp_cell_q, arrV_store]
      congr 2
      funext q
      have hv32 : v + 1 < 2 ^ 32 := Nat.lt_of_le_of_lt (Nat.succ_le_of_lt v2) (by decide)
      by_cases hq : q = j.toNatClampNeg
      · subst hq
        rw [hcl, zz_at_to hv32, if_pos rfl]
        have e5 : zz_o z0 sp (v + 1) = some (zz_ad z0 sp v) := by
          unfold zz_o
          rw [if_neg (Nat.succ_ne_zero v)]
          show some (zz_r z0 sp v) = _
          rw [zz_rm v2]
        rw [e5]
        simp [updV, va_rf]
      · rw [zz_at_to hv32, if_neg (by rw [← hcl]; exact hq)]
        simp [updV, hq]
    · cases hf) (fun f f' hf => by
    unfold za_astA at hf
    split at hf
    · obtain ⟨hv, hf⟩ := zz_cond hf
      obtain ⟨hi, w', hk1, e1, e2, hg⟩ := zz_pr_ok hf
      cases hk1
      exact ⟨e1, e2⟩
    · cases hf)
end ZK
end
section
/-! CALLS OF NEST MATES' PRIVATE METHODS, COPIES OF ROWS -/
section ZN
variable {l : Launch} {Ts : List Cond} {D : va_G} {cl : List vw_C} {fk : Nat → Nat → Nat} {cy : Nat → ClassId} {z0 : Nat} {sp : Nat → Nat} {tys : List (ClassId × FieldType)} {G : State → Prop} {own mn : String} {nL : Nat} {cc : ByteArray} {d : Nat} {K : zz_K} {pc : Nat}
variable {yn : Nat → MethodName} {cn : Nat → ByteArray} {ml : Nat → Nat} {rt : Nat → Option FieldType}
theorem zo_callSN {y index na : Nat} {host : String} (hd : decode cc pc = .ok (.invokestatic index, 3)) (hKS : zz_KS l D cl fk cy z0 sp tys G yn (fun y => Cond.code (yn y) (cn y) (ml y) (rt y) :: Ts) d K) (hgood : ∀ w ∈ Ts, goodWord w = true) (hG : zz_GF z0 G)
    (hy : (yn y).cls ≠ "java/lang/invoke/MethodHandle" ∧ (yn y).cls ≠ "java/lang/invoke/VarHandle" ∧ (parseMethodDescriptor (yn y).desc).map (fun d => d.parameters.length) = some na) (hml : ml y ≤ 45) (hnw : ∀ U, G U → va_Nw (.methodLinkNest own index (yn y) host) U) (hw2 : Cond.static (yn y) ∈ Ts) (hw3 : Cond.initialized (yn y).cls ∈ Ts) (hw4 : Cond.code (yn y) (cn y) (ml y) (rt y) ∈ Ts) : zz_O l Ts D cl fk cy z0 sp tys G own mn nL cc d K pc (za_callS y na (pc + 3)) := by
  refine ⟨fun f f' hf => ?_, ?_⟩
  · unfold za_callS at hf
    obtain ⟨as, r, -, -, hf⟩ := zz_tk_ok _ _ _ hf
    obtain ⟨-, hf⟩ := zz_cond hf
    obtain ⟨rv, w', hq, -, e1⟩ := zz_cr_ok hf
    rw [e1]
    exact (hKS _ _ _ _ _ hq).1
  · intro p e R s m args below meth c X hR1 hR2 H locs n0 s0 Q ls f f' hpc hf hI hS hl hn hs hc1 hc2 kk
    unfold za_callS at hf
    obtain ⟨as, r', hst, hlen, hf⟩ := zz_tk_ok _ _ _ hf
    obtain ⟨hb2, hf⟩ := zz_cond hf
    obtain ⟨rv, w', hq, e1, e2⟩ := zz_cr_ok hf
    obtain ⟨⟨m1, m2⟩, hrv, hM⟩ := hKS _ _ _ _ _ hq
    have e1 := e1 hrv
    subst e1
    rw [List.append_nil] at hM
    have hst2 : zz_sv z0 sp f.2.2.1 = (zz_sv z0 sp as).reverse ++ zz_sv z0 sp r' := by
      rw [hst, zz_sv_app, zz_sv_rev]
    rw [hst2]
    have hcw : va_CN R s args own index (yn y) host (cn y) (ml y) (rt y) (Cond.code (yn y) (cn y) (ml y) (rt y) :: Ts) { frames := d, cells := w'.1 - f.2.2.2.1, slots := w'.2.1 - f.2.2.2.2.1, locals := 64 * d } (w'.1 - f.2.2.2.1) (w'.2.1 - f.2.2.2.2.1) na ∧ (Cond.static (yn y)).before args s = true ∧ True :=
      ⟨va_cnB na X.2.2.2.2.1 (zz_goodIn hgood (fun w h => by
          rcases List.mem_cons.mp h with h | h
          · rw [h]; exact hw4
          · exact h)) rfl rfl rfl (hnw s X.2.2.2.2.2.2.2.2) (X.2.2.2.2.1 _ hw3) hy ⟨hR1, by show 8 + (ml y + 11) + 64 * d ≤ _; omega⟩, X.2.2.2.2.1 _ hw2, trivial⟩
    have hc1' : w'.1 - n0 ≤ R.cells := hc1
    have hc2' : w'.2.1 - s0 ≤ R.slots := hc2
    refine zz_behind (fk := fk) (cy := cy) (D := D) (cl := cl) (mc := w'.1 - f.2.2.2.1) (ms := w'.2.1 - f.2.2.2.2.1) (rest := r') hrv (va_runSN (As := zz_sv z0 sp as) ⟨X.1, X.2.1, X.2.2.1, X.2.2.2.1, X.2.2.2.2.1⟩ hM hcw ⟨zz_blind hG, fun U hU hW => ⟨rfl, by rw [hU]; exact hI, va_K.moved hW.alike X.2.2.2.2.2.1, zz_G_at X hG hS hU hW⟩⟩ rfl (by unfold zz_sv; rw [List.length_map]; exact hlen) hl.1 rfl (lv_room (by rw [zz_cs_sv]; exact zz_ble hb2)) hd ⟨by omega, by omega⟩) hS fun H1 locs1 hI1 hS1 => ?_
    have k1 := kk H1 locs1 ls hI1 hS1 hl
    have q1 : w'.1 - n0 = f.2.2.2.1 - n0 + (w'.1 - f.2.2.2.1) := by omega
    have q2 : w'.2.1 - s0 = f.2.2.2.2.1 - s0 + (w'.2.1 - f.2.2.2.2.1) := by omega
    have k2 : W p l e R s m args below meth c H1 locs1 (w'.1 - n0) (w'.2.1 - s0) Q (F0 m (pc + 3) ls (zz_sv z0 sp (rv ++ r'))) := k1
    rw [q1, q2] at k2
    exact k2
/-- a virtual call of a text's method: the receiver stood there before -/
noncomputable def za_callK (g : Nat → Bool) (y na n : Nat) : zz_A := fun K f => zz_tk na f.2.2.1 [] (fun as r => match r with
  | .ref b :: r' => cond (g b && Nat.ble (zz_cs r') 8) (zz_cr n f.2.1 r' (K y (.ref b :: as) f.2.2.2)) none
  | _ => none)
theorem zo_callK {y index na : Nat} {C : String} {g : Nat → Bool} (hd : decode cc pc = .ok (.invokevirtual index, 3)) (hKS : zz_KS l D cl fk cy z0 sp tys G yn (fun y => Cond.code (yn y) (cn y) (ml y) (rt y) :: Ts) d K) (hgood : ∀ w ∈ Ts, goodWord w = true) (hG : zz_GF z0 G) (hg : ∀ b, g b = true → ∀ U, G U → va_O C (zz_r z0 sp b) (fun q : Nat => z0 ≤ q) U U.heap)
    (hy : (yn y).cls = C ∧ (yn y).cls ≠ "java/lang/invoke/MethodHandle" ∧ (yn y).cls ≠ "java/lang/invoke/VarHandle" ∧ (parseMethodDescriptor (yn y).desc).map (fun d => d.parameters.length) = some na) (hml : ml y ≤ 45) (hw : ∀ w ∈ ([.methodLink own index (yn y), .instanceMethod (yn y), .selects C (yn y) (yn y), .initialized C, .code (yn y) (cn y) (ml y) (rt y)] : List Cond), w ∈ Ts) : zz_O l Ts D cl fk cy z0 sp tys G own mn nL cc d K pc (za_callK g y na (pc + 3)) := by
  refine ⟨fun f f' hf => ?_, ?_⟩
  · unfold za_callK at hf
    obtain ⟨as, r, -, -, hf⟩ := zz_tk_ok _ _ _ hf
    split at hf
    · obtain ⟨-, hf⟩ := zz_cond hf
      obtain ⟨rv, w', hq, -, e1⟩ := zz_cr_ok hf
      rw [e1]
      exact (hKS _ _ _ _ _ hq).1
    · cases hf
  · intro p e R s m args below meth c X hR1 hR2 H locs n0 s0 Q ls f f' hpc hf hI hS hl hn hs hc1 hc2 kk
    unfold za_callK at hf
    obtain ⟨as, r, hst, hlen, hf⟩ := zz_tk_ok _ _ _ hf
    split at hf
    · rename_i b r'
      obtain ⟨hb, hf⟩ := zz_cond hf
      obtain ⟨hb1, hb2⟩ := zz_and hb
      obtain ⟨rv, w', hq, e1, e2⟩ := zz_cr_ok hf
      obtain ⟨⟨m1, m2⟩, hrv, hM⟩ := hKS _ _ _ _ _ hq
      have e1 := e1 hrv
      subst e1
      rw [List.append_nil] at hM
      have hst2 : zz_sv z0 sp f.2.2.1 = (zz_sv z0 sp as).reverse ++ .ref (zz_r z0 sp b) :: zz_sv z0 sp r' := by
        rw [hst, zz_sv_app, zz_sv_rev]
        rfl
      rw [hst2]
      obtain ⟨cell, o1, o2, o3, o4⟩ := hg b hb1 s X.2.2.2.2.2.2.2.2
      have hrecv : ∃ cellB : Cell, H[zz_r z0 sp b]? = some cellB ∧ cellB.vm.isStatics = false ∧ s.vm.findClass C = some cellB.cls := ⟨cell, by rw [hS.2.1 _ (Array.getElem?_eq_some_iff.mp o1).1 o4]; exact o1, o2, o3⟩
      have hcw : CallW R s args own C index (yn y) (cn y) (ml y) (rt y) (Cond.code (yn y) (cn y) (ml y) (rt y) :: Ts) { frames := d, cells := w'.1 - f.2.2.2.1, slots := w'.2.1 - f.2.2.2.2.1, locals := 64 * d } (w'.1 - f.2.2.2.1) (w'.2.1 - f.2.2.2.2.1) na :=
        cwV na X.2.2.2.2.1 (zz_goodIn hgood (fun w h => by
          rcases List.mem_append.mp h with h | h
          · exact hw w (by simp only [List.mem_cons, List.not_mem_nil, or_false] at h ⊢; rcases h with h | h | h | h <;> simp [h])
          · rcases List.mem_cons.mp h with h | h
            · rw [h]; exact hw _ (by simp)
            · exact h)) rfl rfl rfl hy ⟨hR1, by show 8 + (ml y + 11) + 64 * d ≤ _; omega⟩
      have hc1' : w'.1 - n0 ≤ R.cells := hc1
      have hc2' : w'.2.1 - s0 ≤ R.slots := hc2
      refine zz_behind (fk := fk) (cy := cy) (D := D) (cl := cl) (mc := w'.1 - f.2.2.2.1) (ms := w'.2.1 - f.2.2.2.2.1) (rest := r') hrv (va_runV (As := zz_sv z0 sp as) ⟨X.1, X.2.1, X.2.2.1, X.2.2.2.1, X.2.2.2.2.1⟩ hM hcw ⟨zz_blind hG, hrecv, fun U hU hW => ⟨rfl, by rw [hU]; exact hI, va_K.moved hW.alike X.2.2.2.2.2.1, zz_G_at X hG hS hU hW⟩⟩ rfl (by unfold zz_sv; rw [List.length_map]; exact hlen) hl.1 rfl (lv_room (by rw [zz_cs_sv]; exact zz_ble hb2)) hd ⟨by omega, by omega⟩) hS fun H1 locs1 hI1 hS1 => ?_
      have k1 := kk H1 locs1 ls hI1 hS1 hl
      have q1 : w'.1 - n0 = f.2.2.2.1 - n0 + (w'.1 - f.2.2.2.1) := by omega
      have q2 : w'.2.1 - s0 = f.2.2.2.2.1 - s0 + (w'.2.1 - f.2.2.2.2.1) := by omega
      have k2 : W p l e R s m args below meth c H1 locs1 (w'.1 - n0) (w'.2.1 - s0) Q (F0 m (pc + 3) ls (zz_sv z0 sp (rv ++ r'))) := k1
      rw [q1, q2] at k2
      exact k2
    · cases hf
end ZN
end
section
/-! COPIES OF ROWS OF INTS -/
/-- k elements of the row N from place i on, laid into the row M from place j on -/
def zz_cp (w N M i j k : Nat) : Nat := M ^^^ ((((M >>> (w * j)) % 2 ^ (w * k)) ^^^ ((N >>> (w * i)) % 2 ^ (w * k))) <<< (w * j))
theorem zz_at_cp {w N M i j k : Nat} (q : Nat) : zz_at w (zz_cp w N M i j k) q = if j ≤ q ∧ q < j + k then zz_at w N (i + (q - j)) else zz_at w M q := by
  apply Nat.eq_of_testBit_eq
  intro b
  have hr : (if j ≤ q ∧ q < j + k then zz_at w N (i + (q - j)) else zz_at w M q).testBit b = (decide (b < w) && (if j ≤ q ∧ q < j + k then N.testBit (w * (i + (q - j)) + b) else M.testBit (w * q + b))) := by
    split
    · rw [zz_at_bit]
    · rw [zz_at_bit]
  rw [hr, zz_at_bit]
  by_cases hb : b < w
  · unfold zz_cp
    rw [Nat.testBit_xor, Nat.testBit_shiftLeft, Nat.testBit_xor, Nat.testBit_mod_two_pow, Nat.testBit_mod_two_pow, Nat.testBit_shiftRight, Nat.testBit_shiftRight]
    by_cases h1 : j ≤ q
    · have e1 : w * j ≤ w * q := Nat.mul_le_mul_left w h1
      have e2 : w * (q - j) = w * q - w * j := Nat.mul_sub w q j
      have e3 : w * j + (w * q + b - w * j) = w * q + b := by omega
      have e4 : w * i + (w * q + b - w * j) = w * (i + (q - j)) + b := by rw [Nat.mul_add, e2]; omega
      have e0 : w * q + b ≥ w * j := by omega
      rw [e3, e4]
      by_cases h2 : q < j + k
      · have e5 : w * (q + 1) ≤ w * (j + k) := Nat.mul_le_mul_left w h2
        rw [Nat.mul_add, Nat.mul_add, Nat.mul_one] at e5
        have e6 : w * q + b - w * j < w * k := by omega
        rw [if_pos ⟨h1, h2⟩]
        simp [hb, e0, e6]
      · have e5 : w * (j + k) ≤ w * q := Nat.mul_le_mul_left w (by omega)
        rw [Nat.mul_add] at e5
        have e6 : ¬ w * q + b - w * j < w * k := by omega
        rw [if_neg (by omega)]
        simp [hb, e6]
    · have e1 : w * (q + 1) ≤ w * j := Nat.mul_le_mul_left w (by omega)
      rw [Nat.mul_add, Nat.mul_one] at e1
      have e0 : ¬ w * q + b ≥ w * j := by omega
      rw [if_neg (by omega)]
      simp [hb, e0]
  · simp [hb]
section ZCP
variable {l : Launch} {Ts : List Cond} {D : va_G} {cl : List vw_C} {fk : Nat → Nat → Nat} {cy : Nat → ClassId} {z0 : Nat} {sp : Nat → Nat} {tys : List (ClassId × FieldType)} {G : State → Prop} {own mn : String} {nL : Nat} {cc : ByteArray} {d : Nat} {K : zz_K} {pc : Nat}
def zz_ik (w : zz_W) (i t j k : Nat) : Bool := Nat.blt i w.1 && (Nat.blt i 1000000 && (Nat.beq (zz_g w i).1 0 && (Nat.beq (zz_g w i).2.1 t && (Nat.ble (j + k) (zz_g w i).2.2.1 && Nat.blt (zz_g w i).2.2.1 2147483648))))
theorem zz_ik_ok {w : zz_W} {i t j k : Nat} (h : zz_ik w i t j k = true) : i < w.1 ∧ i < 1000000 ∧ (zz_g w i).1 = 0 ∧ (zz_g w i).2.1 = t ∧ j + k ≤ (zz_g w i).2.2.1 ∧ (zz_g w i).2.2.1 < 2147483648 := by
  unfold zz_ik at h
  obtain ⟨h1, h⟩ := zz_and h
  obtain ⟨h2, h⟩ := zz_and h
  obtain ⟨h3, h⟩ := zz_and h
  obtain ⟨h4, h⟩ := zz_and h
  obtain ⟨h5, h6⟩ := zz_and h
  exact ⟨zz_blt h1, zz_blt h2, Nat.eq_of_beq_eq_true h3, Nat.eq_of_beq_eq_true h4, zz_ble h5, zz_blt h6⟩
noncomputable def za_copyI (t n : Nat) : zz_A := fun _ f => match f.2.2.1 with
  | .int k :: .int j :: .ref b :: .int i :: .ref a :: r => cond (zz_ik f.2.2.2 a t (zz_nI i) (zz_nI k) && (zz_ik f.2.2.2 b t (zz_nI j) (zz_nI k) && Nat.ble (zz_cs r) 8))
      (zz_fN (zz_cp 32 (zz_g f.2.2.2 a).2.2.2 (zz_g f.2.2.2 b).2.2.2 (zz_nI i) (zz_nI j) (zz_nI k)) (fun N => zz_st f.2.2.2 b (0, t, (zz_g f.2.2.2 b).2.2.1, N) none (fun w' => some (n, f.2.1, r, w')))) none
  | _ => none
theorem zz_i32 {z : Int32} {n : Nat} (h : zz_nI z ≤ n) (hn : n < 2147483648) : ¬ z < 0 ∧ z.toNatClampNeg = zz_nI z ∧ z.toInt = (zz_nI z : Int) := by
  obtain ⟨h1, h2⟩ := zz_idx (j := z) (n := 2147483648) (by omega) (Nat.le_refl _)
  have h0 : ¬ z < 0 := fun h => h1 (Or.inl h)
  refine ⟨h0, h2, ?_⟩
  have hz0 : (0 : Int) ≤ z.toInt := by
    have := Int32.not_lt.mp h0
    simpa using Int32.le_iff_toInt_le.mp this
  have e : z.toInt.toNat = zz_nI z := h2
  omega
theorem zo_copyI {t index : Nat} (hd : decode cc pc = .ok (.invokestatic index, 3)) (ht : tys[t]? = some (cy t, .int)) (hw1 : Cond.methodLink own index arraycopyName ∈ Ts) (hw2 : Cond.native arraycopyName ∈ Ts) (hw3 : Cond.static arraycopyName ∈ Ts) (hw4 : Cond.initialized "java/lang/System" ∈ Ts) : zz_O l Ts D cl fk cy z0 sp tys G own mn nL cc d K pc (za_copyI t (pc + 3)) := by
  refine ⟨fun f f' hf => ?_, ?_⟩
  · unfold za_copyI at hf
    split at hf
    · obtain ⟨-, hf⟩ := zz_cond hf
      rw [zz_fN_eq] at hf
      obtain ⟨w', hk, e1, e2, -⟩ := zz_st_ok hf
      cases hk
      exact ⟨Nat.le_of_eq e1.symm, Nat.le_of_eq e2.symm⟩
    · cases hf
  · intro p e R s m args below meth c X hR1 hR2 H locs n0 s0 Q ls f f' hpc hf hI hS hl hn hs hc1 hc2 kk
    unfold za_copyI at hf
    split at hf
    · rename_i k j b i a r hst
      obtain ⟨hb, hf⟩ := zz_cond hf
      obtain ⟨ha, hb⟩ := zz_and hb
      obtain ⟨hb, hr⟩ := zz_and hb
      obtain ⟨a1, a2, a3, a4, a5, a6⟩ := zz_ik_ok ha
      obtain ⟨b1, b2, b3, b4, b5, b6⟩ := zz_ik_ok hb
      obtain ⟨i1, i2, i3⟩ := zz_i32 (z := i) (n := (zz_g f.2.2.2 a).2.2.1) (by omega) a6
      obtain ⟨j1, j2, j3⟩ := zz_i32 (z := j) (n := (zz_g f.2.2.2 b).2.2.1) (by omega) b6
      obtain ⟨k1, k2, k3⟩ := zz_i32 (z := k) (n := (zz_g f.2.2.2 b).2.2.1) (by omega) b6
      rw [zz_fN_eq] at hf
      obtain ⟨w', hk, e1, e2, hg⟩ := zz_st_ok hf
      cases hk
      have hea := zz_I_at hI a1
      rw [zz_e_i a3 a4] at hea
      have heb := zz_I_at hI b1
      rw [zz_e_i b3 b4] at heb
      rw [hst]
      show W _ _ _ _ _ _ _ _ _ _ _ _ _ _ _ (F0 m pc ls (Value.int k :: Value.int j :: zz_v z0 sp (.ref b) :: Value.int i :: zz_v z0 sp (.ref a) :: zz_sv z0 sp r))
      rw [zz_v_ref a2, zz_v_ref b2]
      intro T hT XX
      obtain ⟨-, k0, hk0, cm0, hkk0⟩ := (X.2.2.2.2.2.1.2 t _ ht).1 (zz_g f.2.2.2 a).2.2.1 (fun q => .int (Int32.ofNat (zz_at 32 (zz_g f.2.2.2 a).2.2.2 q)))
      obtain ⟨-, k4, hk4, cm4, hkk4⟩ := (X.2.2.2.2.2.1.2 t _ ht).1 (zz_g f.2.2.2 b).2.2.1 (fun q => .int (Int32.ofNat (zz_at 32 (zz_g f.2.2.2 b).2.2.2 q)))
      obtain ⟨vm', X', step⟩ := XX.arraycopy X.1 X.2.2.2.1 (X.2.2.2.2.1 _ hw1) (X.2.2.2.2.1 _ hw2) (X.2.2.2.2.1 _ hw3) (X.2.2.2.2.1 _ hw4) (src := zz_ad z0 sp a) (dst := zz_ad z0 sp b) (cs := (vp_cell (cy t) ((zz_g f.2.2.2 a).2.2.1, .inl (fun q => Int32.ofNat (zz_at 32 (zz_g f.2.2.2 a).2.2.2 q))))) (cd := (vp_cell (cy t) ((zz_g f.2.2.2 b).2.2.1, .inl (fun q => Int32.ofNat (zz_at 32 (zz_g f.2.2.2 b).2.2.2 q))))) (srcPos := i) (destPos := j) (n := k) (by rw [hT]; exact hea) (by rw [hT]; exact heb)
        (fun _ h => by cases h) (fun _ h => by cases h) (fun h => by cases h) (fun h => by cases h) hk0 hk4 hkk0 hkk4 (by simp [refKind]) i1 j1 k1
        (by rw [i3, k3]; show ¬ _ > ((arrV _ _ _).slots.size : Int); rw [arrV_size]; omega)
        (by rw [j3, k3]; show ¬ _ > ((arrV _ _ _).slots.size : Int); rw [arrV_size]; omega)
        (fun vm₁ _ q hq => by
          have ee : (vp_cell (cy t) ((zz_g f.2.2.2 a).2.2.1, .inl (fun q => Int32.ofNat (zz_at 32 (zz_g f.2.2.2 a).2.2.2 q)))).slots.getD (i.toNatClampNeg + q) .null = .int (Int32.ofNat (zz_at 32 (zz_g f.2.2.2 a).2.2.2 (i.toNatClampNeg + q))) := by
            show (arrV (cy t) (zz_g f.2.2.2 a).2.2.1 (fun q => .int (Int32.ofNat (zz_at 32 (zz_g f.2.2.2 a).2.2.2 q)))).slots.getD (i.toNatClampNeg + q) .null = _
            rw [Array.getD_eq_getD_getElem?, arrV_read _ _ (by omega)]
            rfl
          refine ⟨?_, ?_⟩
          · rw [ee]
            rfl
          · rw [ee]
            exact trivial)
        (g := F0 m pc ls (.int k :: .int j :: .ref (zz_ad z0 sp b) :: .int i :: .ref (zz_ad z0 sp a) :: zz_sv z0 sp r)) rfl (by rw [X.2.2.1]; exact hl.1) (rest := zz_sv z0 sp r) rfl (by rw [X.2.1]; exact hd) (by omega) (by
          have q2 := zz_ble hr
          have q3 : nativeFrameWords "java/lang/System" "arraycopy" 5 + 11 ≤ 45 := by decide +kernel
          show 2 * 0 + ((zz_sv z0 sp r).map (fun v => v.category)).sum + _ ≤ _
          rw [zz_cs_sv]
          omega)
      have ec : copied (vp_cell (cy t) ((zz_g f.2.2.2 a).2.2.1, .inl (fun q => Int32.ofNat (zz_at 32 (zz_g f.2.2.2 a).2.2.2 q)))) (vp_cell (cy t) ((zz_g f.2.2.2 b).2.2.1, .inl (fun q => Int32.ofNat (zz_at 32 (zz_g f.2.2.2 b).2.2.2 q)))) i j k = vp_cell (cy t) ((zz_g f.2.2.2 b).2.2.1, .inl (fun q => Int32.ofNat (zz_at 32 (zz_cp 32 (zz_g f.2.2.2 a).2.2.2 (zz_g f.2.2.2 b).2.2.2 (zz_nI i) (zz_nI j) (zz_nI k)) q))) := by
        have e0 : copied (vp_cell (cy t) ((zz_g f.2.2.2 a).2.2.1, .inl (fun q => Int32.ofNat (zz_at 32 (zz_g f.2.2.2 a).2.2.2 q)))) (vp_cell (cy t) ((zz_g f.2.2.2 b).2.2.1, .inl (fun q => Int32.ofNat (zz_at 32 (zz_g f.2.2.2 b).2.2.2 q)))) i j k = vp_cell (cy t) ((zz_g f.2.2.2 b).2.2.1, .inl (va_cpy (fun q => Int32.ofNat (zz_at 32 (zz_g f.2.2.2 a).2.2.2 q)) (fun q => Int32.ofNat (zz_at 32 (zz_g f.2.2.2 b).2.2.2 q)) i.toNatClampNeg j.toNatClampNeg k.toNatClampNeg)) := va_copied (fun z => .int z) (cy t) (cy t) (fun q => Int32.ofNat (zz_at 32 (zz_g f.2.2.2 a).2.2.2 q)) (fun q => Int32.ofNat (zz_at 32 (zz_g f.2.2.2 b).2.2.2 q)) (by rw [i2, k2]; exact a5)
        rw [e0]
        congr 3
        funext q
        rw [zz_at_cp, i2, j2, k2]
        unfold va_cpy
        by_cases hq : zz_nI j ≤ q ∧ q < zz_nI j + zz_nI k
        · rw [if_pos hq, if_pos hq]
        · rw [if_neg hq, if_neg hq]
      rw [ec] at X' step
      have hlb : zz_ad z0 sp b < H.size := (Array.getElem?_eq_some_iff.mp heb).1
      have hheap : ((T.setVm vm').setCell (zz_ad z0 sp b) (vp_cell (cy t) ((zz_g f.2.2.2 b).2.2.1, .inl (fun q => Int32.ofNat (zz_at 32 (zz_cp 32 (zz_g f.2.2.2 a).2.2.2 (zz_g f.2.2.2 b).2.2.2 (zz_nI i) (zz_nI j) (zz_nI k)) q))))).heap = H.setIfInBounds (zz_ad z0 sp b) (vp_cell (cy t) ((zz_g f.2.2.2 b).2.2.1, .inl (fun q => Int32.ofNat (zz_at 32 (zz_cp 32 (zz_g f.2.2.2 a).2.2.2 (zz_g f.2.2.2 b).2.2.2 (zz_nI i) (zz_nI j) (zz_nI k)) q)))) := by rw [← hT]; rfl
      have oq : ∀ q : Nat, q ≠ zz_ad z0 sp b → (H.setIfInBounds (zz_ad z0 sp b) (vp_cell (cy t) ((zz_g f.2.2.2 b).2.2.1, .inl (fun q => Int32.ofNat (zz_at 32 (zz_cp 32 (zz_g f.2.2.2 a).2.2.2 (zz_g f.2.2.2 b).2.2.2 (zz_nI i) (zz_nI j) (zz_nI k)) q)))))[q]? = H[q]? := fun q hq => by simp [Array.getElem?_setIfInBounds, Ne.symm hq]
      have hz : (H.setIfInBounds (zz_ad z0 sp b) (vp_cell (cy t) ((zz_g f.2.2.2 b).2.2.1, .inl (fun q => Int32.ofNat (zz_at 32 (zz_cp 32 (zz_g f.2.2.2 a).2.2.2 (zz_g f.2.2.2 b).2.2.2 (zz_nI i) (zz_nI j) (zz_nI k)) q))))).size = H.size := by simp
      have hI1 := zz_I_set hI e1 hg (H1 := H.setIfInBounds (zz_ad z0 sp b) (vp_cell (cy t) ((zz_g f.2.2.2 b).2.2.1, .inl (fun q => Int32.ofNat (zz_at 32 (zz_cp 32 (zz_g f.2.2.2 a).2.2.2 (zz_g f.2.2.2 b).2.2.2 (zz_nI i) (zz_nI j) (zz_nI k)) q))))) (by
        rw [zz_e_i (t := t) rfl rfl]
        show (H.setIfInBounds (zz_ad z0 sp b) _)[zz_ad z0 sp b]? = some (vp_cell _ _)
        simp [Array.getElem?_setIfInBounds, hlb]) hz oq
      have kq := fun (locs1 : List Loc) (hS1 : va_S (fun q : Nat => z0 ≤ q) s.heap _ locs1) => kk _ locs1 ls hI1 hS1 hl
      have q1 : w'.1 - n0 = f.2.2.2.1 - n0 := by rw [e1]
      have q2 : w'.2.1 - s0 = f.2.2.2.2.1 - s0 := by rw [e2]
      have kq2 : ∀ (locs1 : List Loc), va_S (fun q : Nat => z0 ≤ q) s.heap _ locs1 → W p l e R s m args below meth c _ locs1 (w'.1 - n0) (w'.2.1 - s0) Q (F0 m (pc + 3) ls (zz_sv z0 sp r)) := kq
      rw [q1, q2] at kq2
      obtain ⟨t', a1, b1⟩ := kq2 _ ⟨by rw [hz]; exact hS.1, fun q g1 g2 => by
          rw [oq q (fun e => g2 (by rw [e]; exact Nat.le_add_right _ _))]
          exact hS.2.1 q g1 g2, fun q hq => by
          rcases List.mem_append.mp hq with h | h
          · exact hS.2.2 q h
          · obtain ⟨z, -, hz⟩ := List.mem_map.mp h
            rw [← hz]
            exact Nat.le_add_right _ _⟩ _ hheap X'
      exact ⟨t', step t' a1, b1⟩
    · cases hf
end ZCP
end
section
/-! COPIES OF ROWS OF BYTES: signs below 128 -/
theorem zz_fb7 : ∀ n, n < 128 → fits .byte (.int (Int32.ofNat n)) = true := by decide
theorem zz_fb8 : ∀ m, m < 128 → fits .byte (.int (Int32.ofNat (4294967168 + m))) = true := by decide +kernel
theorem zz_fb9 {v : Nat} (hv : v < 2 ^ 32) (h : v < 128 ∨ 4294967168 ≤ v) : fits .byte (.int (Int32.ofNat v)) = true := by
  rcases h with h | h
  · exact zz_fb7 v h
  · have := zz_fb8 (v - 4294967168) (by omega)
    rw [show 4294967168 + (v - 4294967168) = v by omega] at this
    exact this
/-- k elements of the row N from place i on are bytes -/
def zz_a7 (N i k : Nat) : Bool := Nat.rec true (fun q ih => (Nat.blt (zz_at 32 N (i + q)) 128 || Nat.ble 4294967168 (zz_at 32 N (i + q))) && ih) k
theorem zz_a7_ok {N i : Nat} : ∀ {k : Nat}, zz_a7 N i k = true → ∀ q, q < k → zz_at 32 N (i + q) < 128 ∨ 4294967168 ≤ zz_at 32 N (i + q)
  | 0, _, q, h => absurd h (Nat.not_lt_zero q)
  | k + 1, h, q, hq => by
    obtain ⟨h1, h2⟩ := zz_and (show ((Nat.blt (zz_at 32 N (i + k)) 128 || Nat.ble 4294967168 (zz_at 32 N (i + k))) && zz_a7 N i k) = true from h)
    by_cases e : q = k
    · rw [e]
      rcases Bool.or_eq_true_iff.mp h1 with h1 | h1
      · exact Or.inl (zz_blt h1)
      · exact Or.inr (zz_ble h1)
    · exact zz_a7_ok h2 q (by omega)
theorem zz_al {N i k j : Nat} (h : zz_a7 N i k = true) (q : Nat) (hq : q < k) (hj : j = i + q) : zz_at 32 N j < 128 ∨ 4294967168 ≤ zz_at 32 N j := by rw [hj]; exact zz_a7_ok h q hq
theorem zz_a7_of {N i : Nat} : ∀ {k : Nat}, (∀ q, q < k → zz_at 32 N (i + q) < 128 ∨ 4294967168 ≤ zz_at 32 N (i + q)) → zz_a7 N i k = true
  | 0, _ => rfl
  | k + 1, h => by
    show ((Nat.blt (zz_at 32 N (i + k)) 128 || Nat.ble 4294967168 (zz_at 32 N (i + k))) && zz_a7 N i k) = true
    rw [zz_a7_of fun q hq => h q (by omega)]
    rcases h k (by omega) with e | e
    · rw [show Nat.blt (zz_at 32 N (i + k)) 128 = true from Nat.ble_eq.mpr e]
      rfl
    · rw [show Nat.ble 4294967168 (zz_at 32 N (i + k)) = true from Nat.ble_eq.mpr e, Bool.or_true]
      rfl
section ZCB
variable {l : Launch} {Ts : List Cond} {D : va_G} {cl : List vw_C} {fk : Nat → Nat → Nat} {cy : Nat → ClassId} {z0 : Nat} {sp : Nat → Nat} {tys : List (ClassId × FieldType)} {G : State → Prop} {own mn : String} {nL : Nat} {cc : ByteArray} {d : Nat} {K : zz_K} {pc : Nat}
noncomputable def za_copyB (t n : Nat) : zz_A := fun _ f => match f.2.2.1 with
  | .int k :: .int j :: .ref b :: .int i :: .ref a :: r => cond (zz_ik f.2.2.2 a t (zz_nI i) (zz_nI k) && (zz_ik f.2.2.2 b t (zz_nI j) (zz_nI k) && (Nat.ble (zz_cs r) 8 && zz_a7 (zz_g f.2.2.2 a).2.2.2 (zz_nI i) (zz_nI k))))
      (zz_fN (zz_cp 32 (zz_g f.2.2.2 a).2.2.2 (zz_g f.2.2.2 b).2.2.2 (zz_nI i) (zz_nI j) (zz_nI k)) (fun N => zz_st f.2.2.2 b (0, t, (zz_g f.2.2.2 b).2.2.1, N) none (fun w' => some (n, f.2.1, r, w')))) none
  | _ => none
theorem zo_copyB {t index : Nat} (hd : decode cc pc = .ok (.invokestatic index, 3)) (ht : tys[t]? = some (cy t, .byte)) (hw1 : Cond.methodLink own index arraycopyName ∈ Ts) (hw2 : Cond.native arraycopyName ∈ Ts) (hw3 : Cond.static arraycopyName ∈ Ts) (hw4 : Cond.initialized "java/lang/System" ∈ Ts) : zz_O l Ts D cl fk cy z0 sp tys G own mn nL cc d K pc (za_copyB t (pc + 3)) := by
  refine ⟨fun f f' hf => ?_, ?_⟩
  · unfold za_copyB at hf
    split at hf
    · obtain ⟨-, hf⟩ := zz_cond hf
      rw [zz_fN_eq] at hf
      obtain ⟨w', hk, e1, e2, -⟩ := zz_st_ok hf
      cases hk
      exact ⟨Nat.le_of_eq e1.symm, Nat.le_of_eq e2.symm⟩
    · cases hf
  · intro p e R s m args below meth c X hR1 hR2 H locs n0 s0 Q ls f f' hpc hf hI hS hl hn hs hc1 hc2 kk
    unfold za_copyB at hf
    split at hf
    · rename_i k j b i a r hst
      obtain ⟨hb, hf⟩ := zz_cond hf
      obtain ⟨ha, hb⟩ := zz_and hb
      obtain ⟨hb, hr⟩ := zz_and hb
      obtain ⟨hr, hall⟩ := zz_and hr
      obtain ⟨a1, a2, a3, a4, a5, a6⟩ := zz_ik_ok ha
      obtain ⟨b1, b2, b3, b4, b5, b6⟩ := zz_ik_ok hb
      obtain ⟨i1, i2, i3⟩ := zz_i32 (z := i) (n := (zz_g f.2.2.2 a).2.2.1) (by omega) a6
      obtain ⟨j1, j2, j3⟩ := zz_i32 (z := j) (n := (zz_g f.2.2.2 b).2.2.1) (by omega) b6
      obtain ⟨k1, k2, k3⟩ := zz_i32 (z := k) (n := (zz_g f.2.2.2 b).2.2.1) (by omega) b6
      rw [zz_fN_eq] at hf
      obtain ⟨w', hk, e1, e2, hg⟩ := zz_st_ok hf
      cases hk
      have hea := zz_I_at hI a1
      rw [zz_e_i a3 a4] at hea
      have heb := zz_I_at hI b1
      rw [zz_e_i b3 b4] at heb
      rw [hst]
      show W _ _ _ _ _ _ _ _ _ _ _ _ _ _ _ (F0 m pc ls (Value.int k :: Value.int j :: zz_v z0 sp (.ref b) :: Value.int i :: zz_v z0 sp (.ref a) :: zz_sv z0 sp r))
      rw [zz_v_ref a2, zz_v_ref b2]
      intro T hT XX
      obtain ⟨-, k0, hk0, cm0, hkk0⟩ := (X.2.2.2.2.2.1.2 t _ ht).1 (zz_g f.2.2.2 a).2.2.1 (fun q => .int (Int32.ofNat (zz_at 32 (zz_g f.2.2.2 a).2.2.2 q)))
      obtain ⟨-, k4, hk4, cm4, hkk4⟩ := (X.2.2.2.2.2.1.2 t _ ht).1 (zz_g f.2.2.2 b).2.2.1 (fun q => .int (Int32.ofNat (zz_at 32 (zz_g f.2.2.2 b).2.2.2 q)))
      obtain ⟨vm', X', step⟩ := XX.arraycopy X.1 X.2.2.2.1 (X.2.2.2.2.1 _ hw1) (X.2.2.2.2.1 _ hw2) (X.2.2.2.2.1 _ hw3) (X.2.2.2.2.1 _ hw4) (src := zz_ad z0 sp a) (dst := zz_ad z0 sp b) (cs := (vp_cell (cy t) ((zz_g f.2.2.2 a).2.2.1, .inl (fun q => Int32.ofNat (zz_at 32 (zz_g f.2.2.2 a).2.2.2 q))))) (cd := (vp_cell (cy t) ((zz_g f.2.2.2 b).2.2.1, .inl (fun q => Int32.ofNat (zz_at 32 (zz_g f.2.2.2 b).2.2.2 q))))) (srcPos := i) (destPos := j) (n := k) (by rw [hT]; exact hea) (by rw [hT]; exact heb)
        (fun _ h => by cases h) (fun _ h => by cases h) (fun h => by cases h) (fun h => by cases h) hk0 hk4 hkk0 hkk4 (by simp [refKind]) i1 j1 k1
        (by rw [i3, k3]; show ¬ _ > ((arrV _ _ _).slots.size : Int); rw [arrV_size]; omega)
        (by rw [j3, k3]; show ¬ _ > ((arrV _ _ _).slots.size : Int); rw [arrV_size]; omega)
        (fun vm₁ _ q hq => by
          have ee : (vp_cell (cy t) ((zz_g f.2.2.2 a).2.2.1, .inl (fun q => Int32.ofNat (zz_at 32 (zz_g f.2.2.2 a).2.2.2 q)))).slots.getD (i.toNatClampNeg + q) .null = .int (Int32.ofNat (zz_at 32 (zz_g f.2.2.2 a).2.2.2 (i.toNatClampNeg + q))) := by
            show (arrV (cy t) (zz_g f.2.2.2 a).2.2.1 (fun q => .int (Int32.ofNat (zz_at 32 (zz_g f.2.2.2 a).2.2.2 q)))).slots.getD (i.toNatClampNeg + q) .null = _
            rw [Array.getD_eq_getD_getElem?, arrV_read _ _ (by omega)]
            rfl
          refine ⟨?_, ?_⟩
          · rw [ee]
            exact zz_fb9 (zz_at_lt 32 _ _) (zz_al hall _ (by rw [k2] at hq; exact hq) (by rw [i2]))
          · rw [ee]
            exact trivial)
        (g := F0 m pc ls (.int k :: .int j :: .ref (zz_ad z0 sp b) :: .int i :: .ref (zz_ad z0 sp a) :: zz_sv z0 sp r)) rfl (by rw [X.2.2.1]; exact hl.1) (rest := zz_sv z0 sp r) rfl (by rw [X.2.1]; exact hd) (by omega) (by
          have q2 := zz_ble hr
          have q3 : nativeFrameWords "java/lang/System" "arraycopy" 5 + 11 ≤ 45 := by decide +kernel
          show 2 * 0 + ((zz_sv z0 sp r).map (fun v => v.category)).sum + _ ≤ _
          rw [zz_cs_sv]
          omega)
      have ec : copied (vp_cell (cy t) ((zz_g f.2.2.2 a).2.2.1, .inl (fun q => Int32.ofNat (zz_at 32 (zz_g f.2.2.2 a).2.2.2 q)))) (vp_cell (cy t) ((zz_g f.2.2.2 b).2.2.1, .inl (fun q => Int32.ofNat (zz_at 32 (zz_g f.2.2.2 b).2.2.2 q)))) i j k = vp_cell (cy t) ((zz_g f.2.2.2 b).2.2.1, .inl (fun q => Int32.ofNat (zz_at 32 (zz_cp 32 (zz_g f.2.2.2 a).2.2.2 (zz_g f.2.2.2 b).2.2.2 (zz_nI i) (zz_nI j) (zz_nI k)) q))) := by
        have e0 : copied (vp_cell (cy t) ((zz_g f.2.2.2 a).2.2.1, .inl (fun q => Int32.ofNat (zz_at 32 (zz_g f.2.2.2 a).2.2.2 q)))) (vp_cell (cy t) ((zz_g f.2.2.2 b).2.2.1, .inl (fun q => Int32.ofNat (zz_at 32 (zz_g f.2.2.2 b).2.2.2 q)))) i j k = vp_cell (cy t) ((zz_g f.2.2.2 b).2.2.1, .inl (va_cpy (fun q => Int32.ofNat (zz_at 32 (zz_g f.2.2.2 a).2.2.2 q)) (fun q => Int32.ofNat (zz_at 32 (zz_g f.2.2.2 b).2.2.2 q)) i.toNatClampNeg j.toNatClampNeg k.toNatClampNeg)) := va_copied (fun z => .int z) (cy t) (cy t) (fun q => Int32.ofNat (zz_at 32 (zz_g f.2.2.2 a).2.2.2 q)) (fun q => Int32.ofNat (zz_at 32 (zz_g f.2.2.2 b).2.2.2 q)) (by rw [i2, k2]; exact a5)
        rw [e0]
        congr 3
        funext q
        rw [zz_at_cp, i2, j2, k2]
        unfold va_cpy
        by_cases hq : zz_nI j ≤ q ∧ q < zz_nI j + zz_nI k
        · rw [if_pos hq, if_pos hq]
        · rw [if_neg hq, if_neg hq]
      rw [ec] at X' step
      have hlb : zz_ad z0 sp b < H.size := (Array.getElem?_eq_some_iff.mp heb).1
      have hheap : ((T.setVm vm').setCell (zz_ad z0 sp b) (vp_cell (cy t) ((zz_g f.2.2.2 b).2.2.1, .inl (fun q => Int32.ofNat (zz_at 32 (zz_cp 32 (zz_g f.2.2.2 a).2.2.2 (zz_g f.2.2.2 b).2.2.2 (zz_nI i) (zz_nI j) (zz_nI k)) q))))).heap = H.setIfInBounds (zz_ad z0 sp b) (vp_cell (cy t) ((zz_g f.2.2.2 b).2.2.1, .inl (fun q => Int32.ofNat (zz_at 32 (zz_cp 32 (zz_g f.2.2.2 a).2.2.2 (zz_g f.2.2.2 b).2.2.2 (zz_nI i) (zz_nI j) (zz_nI k)) q)))) := by rw [← hT]; rfl
      have oq : ∀ q : Nat, q ≠ zz_ad z0 sp b → (H.setIfInBounds (zz_ad z0 sp b) (vp_cell (cy t) ((zz_g f.2.2.2 b).2.2.1, .inl (fun q => Int32.ofNat (zz_at 32 (zz_cp 32 (zz_g f.2.2.2 a).2.2.2 (zz_g f.2.2.2 b).2.2.2 (zz_nI i) (zz_nI j) (zz_nI k)) q)))))[q]? = H[q]? := fun q hq => by simp [Array.getElem?_setIfInBounds, Ne.symm hq]
      have hz : (H.setIfInBounds (zz_ad z0 sp b) (vp_cell (cy t) ((zz_g f.2.2.2 b).2.2.1, .inl (fun q => Int32.ofNat (zz_at 32 (zz_cp 32 (zz_g f.2.2.2 a).2.2.2 (zz_g f.2.2.2 b).2.2.2 (zz_nI i) (zz_nI j) (zz_nI k)) q))))).size = H.size := by simp
      have hI1 := zz_I_set hI e1 hg (H1 := H.setIfInBounds (zz_ad z0 sp b) (vp_cell (cy t) ((zz_g f.2.2.2 b).2.2.1, .inl (fun q => Int32.ofNat (zz_at 32 (zz_cp 32 (zz_g f.2.2.2 a).2.2.2 (zz_g f.2.2.2 b).2.2.2 (zz_nI i) (zz_nI j) (zz_nI k)) q))))) (by
        rw [zz_e_i (t := t) rfl rfl]
        show (H.setIfInBounds (zz_ad z0 sp b) _)[zz_ad z0 sp b]? = some (vp_cell _ _)
        simp [Array.getElem?_setIfInBounds, hlb]) hz oq
      have kq := fun (locs1 : List Loc) (hS1 : va_S (fun q : Nat => z0 ≤ q) s.heap _ locs1) => kk _ locs1 ls hI1 hS1 hl
      have q1 : w'.1 - n0 = f.2.2.2.1 - n0 := by rw [e1]
      have q2 : w'.2.1 - s0 = f.2.2.2.2.1 - s0 := by rw [e2]
      have kq2 : ∀ (locs1 : List Loc), va_S (fun q : Nat => z0 ≤ q) s.heap _ locs1 → W p l e R s m args below meth c _ locs1 (w'.1 - n0) (w'.2.1 - s0) Q (F0 m (pc + 3) ls (zz_sv z0 sp r)) := kq
      rw [q1, q2] at kq2
      obtain ⟨t', a1, b1⟩ := kq2 _ ⟨by rw [hz]; exact hS.1, fun q g1 g2 => by
          rw [oq q (fun e => g2 (by rw [e]; exact Nat.le_add_right _ _))]
          exact hS.2.1 q g1 g2, fun q hq => by
          rcases List.mem_append.mp hq with h | h
          · exact hS.2.2 q h
          · obtain ⟨z, -, hz⟩ := List.mem_map.mp h
            rw [← hz]
            exact Nat.le_add_right _ _⟩ _ hheap X'
      exact ⟨t', step t' a1, b1⟩
    · cases hf
/-- a row's first k elements out of a table -/
def zz_kN (g : Nat → Nat → Option Nat) (a i k : Nat) : Nat := Nat.rec 0 (fun q ih => zz_to 32 ih q ((g a (i + q)).getD 0)) k
/-- .. all there, below 128 -/
def zz_k7 (g : Nat → Nat → Option Nat) (a i k : Nat) : Bool := Nat.rec true (fun q ih => (match g a (i + q) with | some v => Nat.blt v 128 | none => false) && ih) k
theorem zz_k7_ok {g : Nat → Nat → Option Nat} {a i : Nat} : ∀ {k : Nat}, zz_k7 g a i k = true → ∀ q, q < k → ∃ v, g a (i + q) = some v ∧ v < 128
  | 0, _, q, h => absurd h (Nat.not_lt_zero q)
  | k + 1, h, q, hq => by
    obtain ⟨h1, h2⟩ := zz_and (show ((match g a (i + k) with | some v => Nat.blt v 128 | none => false) && zz_k7 g a i k) = true from h)
    by_cases e : q = k
    · rw [e]
      split at h1
      · rename_i v hv
        exact ⟨v, hv, zz_blt h1⟩
      · cases h1
    · exact zz_k7_ok h2 q (by omega)
theorem zz_kN_at {g : Nat → Nat → Option Nat} {a i : Nat} : ∀ {k : Nat}, zz_k7 g a i k = true → ∀ q, q < k → zz_at 32 (zz_kN g a i k) q = (g a (i + q)).getD 0
  | 0, _, q, h => absurd h (Nat.not_lt_zero q)
  | k + 1, h, q, hq => by
    obtain ⟨v, hv, hlt⟩ := zz_k7_ok h k (by omega)
    obtain ⟨-, h2⟩ := zz_and (show ((match g a (i + k) with | some v => Nat.blt v 128 | none => false) && zz_k7 g a i k) = true from h)
    show zz_at 32 (zz_to 32 (zz_kN g a i k) k ((g a (i + k)).getD 0)) q = _
    rw [zz_at_to (by rw [hv]; show v < 2 ^ 32; omega)]
    by_cases e : q = k
    · rw [if_pos e, e]
    · rw [if_neg e]
      exact zz_kN_at h2 q (by omega)
noncomputable def za_copyK (ge : Nat → Nat → Option Nat) (t n : Nat) : zz_A := fun _ f => match f.2.2.1 with
  | .int k :: .int j :: .ref b :: .int i :: .ref a :: r => cond (zz_k7 ge a (zz_nI i) (zz_nI k) && (zz_ik f.2.2.2 b t (zz_nI j) (zz_nI k) && (Nat.ble (zz_cs r) 8 && (Nat.blt 0 (zz_nI k) && Nat.beq (zz_nI i) 0))))
      (zz_fN (zz_cp 32 (zz_kN ge a (zz_nI i) (zz_nI k)) (zz_g f.2.2.2 b).2.2.2 0 (zz_nI j) (zz_nI k)) (fun N => zz_st f.2.2.2 b (0, t, (zz_g f.2.2.2 b).2.2.1, N) none (fun w' => some (n, f.2.1, r, w')))) none
  | _ => none
theorem zo_copyK {t index : Nat} {ge : Nat → Nat → Option Nat} (hge : zz_KR G z0 sp .byte ge) (hd : decode cc pc = .ok (.invokestatic index, 3)) (ht : tys[t]? = some (cy t, .byte)) (hw1 : Cond.methodLink own index arraycopyName ∈ Ts) (hw2 : Cond.native arraycopyName ∈ Ts) (hw3 : Cond.static arraycopyName ∈ Ts) (hw4 : Cond.initialized "java/lang/System" ∈ Ts) : zz_O l Ts D cl fk cy z0 sp tys G own mn nL cc d K pc (za_copyK ge t (pc + 3)) := by
  refine ⟨fun f f' hf => ?_, ?_⟩
  · unfold za_copyK at hf
    split at hf
    · obtain ⟨-, hf⟩ := zz_cond hf
      rw [zz_fN_eq] at hf
      obtain ⟨w', hk, e1, e2, -⟩ := zz_st_ok hf
      cases hk
      exact ⟨Nat.le_of_eq e1.symm, Nat.le_of_eq e2.symm⟩
    · cases hf
  · intro p e R s m args below meth c X hR1 hR2 H locs n0 s0 Q ls f f' hpc hf hI hS hl hn hs hc1 hc2 kk
    unfold za_copyK at hf
    split at hf
    · rename_i k j b i a r hst
      obtain ⟨hb, hf⟩ := zz_cond hf
      obtain ⟨ha, hb⟩ := zz_and hb
      obtain ⟨hb, hr⟩ := zz_and hb
      obtain ⟨hr, hk0⟩ := zz_and hr
      obtain ⟨hk0, hi9⟩ := zz_and hk0
      have hk0 := zz_blt hk0
      have hi9 : zz_nI i = 0 := Nat.eq_of_beq_eq_true hi9
      obtain ⟨b1, b2, b3, b4, b5, b6⟩ := zz_ik_ok hb
      obtain ⟨i1, i2, i3⟩ := zz_i32 (z := i) (n := 100000) (by omega) (by decide)
      obtain ⟨j1, j2, j3⟩ := zz_i32 (z := j) (n := (zz_g f.2.2.2 b).2.2.1) (by omega) b6
      obtain ⟨k1, k2, k3⟩ := zz_i32 (z := k) (n := (zz_g f.2.2.2 b).2.2.1) (by omega) b6
      rw [zz_fN_eq] at hf
      obtain ⟨w', hk, e1, e2, hg⟩ := zz_st_ok hf
      cases hk
      -- the source: one cell, whatever place is looked at
      have hgs := X.2.2.2.2.2.2.2.2
      obtain ⟨v0, hv0, -⟩ := zz_k7_ok ha 0 hk0
      obtain ⟨N0, h0, hT0, -, -, -⟩ := hge _ _ _ hv0
      obtain ⟨scr, hs1, hs2, hs3, -, -, -, hs7⟩ := hT0 s hgs
      have hslot : ∀ q, q < zz_nI k → ∃ v, ge a (zz_nI i + q) = some v ∧ v < 128 ∧ scr.slots[zz_nI i + q]? = some (.int (Int32.ofNat v)) := by
        intro q hq
        obtain ⟨v, hv, hlt⟩ := zz_k7_ok ha q hq
        obtain ⟨N1, h1, hT1, hj1, -, e9⟩ := hge _ _ _ hv
        obtain ⟨scr1, g1, -, -, -, -, g6, -⟩ := hT1 s hgs
        cases Option.some.inj (hs1.symm.trans g1)
        exact ⟨v, hv, hlt, by rw [g6 _ hj1, e9]⟩
      have hsz : zz_nI i + zz_nI k ≤ scr.slots.size := by
        obtain ⟨v, -, -, h9⟩ := hslot (zz_nI k - 1) (by omega)
        have := (Array.getElem?_eq_some_iff.mp h9).1
        omega
      have hea : H[zz_r z0 sp a]? = some scr := by rw [hS.2.1 _ (Array.getElem?_eq_some_iff.mp hs1).1 hs7]; exact hs1
      have heb := zz_I_at hI b1
      rw [zz_e_i b3 b4] at heb
      rw [hst]
      show W _ _ _ _ _ _ _ _ _ _ _ _ _ _ _ (F0 m pc ls (Value.int k :: Value.int j :: zz_v z0 sp (.ref b) :: Value.int i :: Value.ref (zz_r z0 sp a) :: zz_sv z0 sp r))
      rw [zz_v_ref b2]
      intro T hT XX
      obtain ⟨hs6, k0, hk0', cm0, hkk0⟩ := hs2
      obtain ⟨-, k4, hk4, cm4, hkk4⟩ := (X.2.2.2.2.2.1.2 t _ ht).1 (zz_g f.2.2.2 b).2.2.1 (fun q => .int (Int32.ofNat (zz_at 32 (zz_g f.2.2.2 b).2.2.2 q)))
      obtain ⟨vm', X', step⟩ := XX.arraycopy X.1 X.2.2.2.1 (X.2.2.2.2.1 _ hw1) (X.2.2.2.2.1 _ hw2) (X.2.2.2.2.1 _ hw3) (X.2.2.2.2.1 _ hw4) (src := zz_r z0 sp a) (dst := zz_ad z0 sp b) (cs := scr) (cd := (vp_cell (cy t) ((zz_g f.2.2.2 b).2.2.1, .inl (fun q => Int32.ofNat (zz_at 32 (zz_g f.2.2.2 b).2.2.2 q))))) (srcPos := i) (destPos := j) (n := k) (by rw [hT]; exact hea) (by rw [hT]; exact heb)
        hs6 (fun _ h => by cases h) hs3 (fun h => by cases h) hk0' hk4 hkk0 hkk4 (by simp [refKind]) i1 j1 k1
        (by rw [i3, k3]; omega)
        (by rw [j3, k3]; show ¬ _ > ((arrV _ _ _).slots.size : Int); rw [arrV_size]; omega)
        (fun vm₁ _ q hq => by
          obtain ⟨v, -, hlt, h9⟩ := hslot q (by rw [k2] at hq; exact hq)
          have ee : scr.slots.getD (i.toNatClampNeg + q) .null = .int (Int32.ofNat v) := by
            rw [Array.getD_eq_getD_getElem?, i2, h9]
            rfl
          refine ⟨?_, ?_⟩
          · rw [ee]
            exact zz_fb7 _ hlt
          · rw [ee]
            exact trivial)
        (g := F0 m pc ls (.int k :: .int j :: .ref (zz_ad z0 sp b) :: .int i :: .ref (zz_r z0 sp a) :: zz_sv z0 sp r)) rfl (by rw [X.2.2.1]; exact hl.1) (rest := zz_sv z0 sp r) rfl (by rw [X.2.1]; exact hd) (by omega) (by
          have q2 := zz_ble hr
          have q3 : nativeFrameWords "java/lang/System" "arraycopy" 5 + 11 ≤ 45 := by decide +kernel
          show 2 * 0 + ((zz_sv z0 sp r).map (fun v => v.category)).sum + _ ≤ _
          rw [zz_cs_sv]
          omega)
      have ec : copied scr (vp_cell (cy t) ((zz_g f.2.2.2 b).2.2.1, .inl (fun q => Int32.ofNat (zz_at 32 (zz_g f.2.2.2 b).2.2.2 q)))) i j k = vp_cell (cy t) ((zz_g f.2.2.2 b).2.2.1, .inl (fun q => Int32.ofNat (zz_at 32 (zz_cp 32 (zz_kN ge a (zz_nI i) (zz_nI k)) (zz_g f.2.2.2 b).2.2.2 0 (zz_nI j) (zz_nI k)) q))) := by
        have e0 : copied scr (vp_cell (cy t) ((zz_g f.2.2.2 b).2.2.1, .inl (fun q => Int32.ofNat (zz_at 32 (zz_g f.2.2.2 b).2.2.2 q)))) i j k = vp_cell (cy t) ((zz_g f.2.2.2 b).2.2.1, .inl (va_cpy (fun q => Int32.ofNat ((ge a q).getD 0)) (fun q => Int32.ofNat (zz_at 32 (zz_g f.2.2.2 b).2.2.2 q)) i.toNatClampNeg j.toNatClampNeg k.toNatClampNeg)) := va_copiedX (fun z => .int z) scr (cy t) (n0 := zz_nI k) (fun q => Int32.ofNat ((ge a q).getD 0)) (fun q => Int32.ofNat (zz_at 32 (zz_g f.2.2.2 b).2.2.2 q)) (fun q hq => by
          obtain ⟨v, hv, -, h9⟩ := hslot q hq
          rw [hi9, Nat.zero_add] at h9 hv
          rw [h9, hv]
          rfl) (by rw [i2, k2, hi9]; omega)
        rw [e0]
        congr 3
        funext q
        rw [zz_at_cp, i2, j2, k2]
        unfold va_cpy
        by_cases hq : zz_nI j ≤ q ∧ q < zz_nI j + zz_nI k
        · rw [if_pos hq, if_pos hq, Nat.zero_add, zz_kN_at ha _ (by omega)]
        · rw [if_neg hq, if_neg hq]
      rw [ec] at X' step
      have hlb : zz_ad z0 sp b < H.size := (Array.getElem?_eq_some_iff.mp heb).1
      have hheap : ((T.setVm vm').setCell (zz_ad z0 sp b) (vp_cell (cy t) ((zz_g f.2.2.2 b).2.2.1, .inl (fun q => Int32.ofNat (zz_at 32 (zz_cp 32 (zz_kN ge a (zz_nI i) (zz_nI k)) (zz_g f.2.2.2 b).2.2.2 0 (zz_nI j) (zz_nI k)) q))))).heap = H.setIfInBounds (zz_ad z0 sp b) (vp_cell (cy t) ((zz_g f.2.2.2 b).2.2.1, .inl (fun q => Int32.ofNat (zz_at 32 (zz_cp 32 (zz_kN ge a (zz_nI i) (zz_nI k)) (zz_g f.2.2.2 b).2.2.2 0 (zz_nI j) (zz_nI k)) q)))) := by rw [← hT]; rfl
      have oq : ∀ q : Nat, q ≠ zz_ad z0 sp b → (H.setIfInBounds (zz_ad z0 sp b) (vp_cell (cy t) ((zz_g f.2.2.2 b).2.2.1, .inl (fun q => Int32.ofNat (zz_at 32 (zz_cp 32 (zz_kN ge a (zz_nI i) (zz_nI k)) (zz_g f.2.2.2 b).2.2.2 0 (zz_nI j) (zz_nI k)) q)))))[q]? = H[q]? := fun q hq => by simp [Array.getElem?_setIfInBounds, Ne.symm hq]
      have hz : (H.setIfInBounds (zz_ad z0 sp b) (vp_cell (cy t) ((zz_g f.2.2.2 b).2.2.1, .inl (fun q => Int32.ofNat (zz_at 32 (zz_cp 32 (zz_kN ge a (zz_nI i) (zz_nI k)) (zz_g f.2.2.2 b).2.2.2 0 (zz_nI j) (zz_nI k)) q))))).size = H.size := by simp
      have hI1 := zz_I_set hI e1 hg (H1 := H.setIfInBounds (zz_ad z0 sp b) (vp_cell (cy t) ((zz_g f.2.2.2 b).2.2.1, .inl (fun q => Int32.ofNat (zz_at 32 (zz_cp 32 (zz_kN ge a (zz_nI i) (zz_nI k)) (zz_g f.2.2.2 b).2.2.2 0 (zz_nI j) (zz_nI k)) q))))) (by
        rw [zz_e_i (t := t) rfl rfl]
        show (H.setIfInBounds (zz_ad z0 sp b) _)[zz_ad z0 sp b]? = some (vp_cell _ _)
        simp [Array.getElem?_setIfInBounds, hlb]) hz oq
      have kq := fun (locs1 : List Loc) (hS1 : va_S (fun q : Nat => z0 ≤ q) s.heap _ locs1) => kk _ locs1 ls hI1 hS1 hl
      have q1 : w'.1 - n0 = f.2.2.2.1 - n0 := by rw [e1]
      have q2 : w'.2.1 - s0 = f.2.2.2.2.1 - s0 := by rw [e2]
      have kq2 : ∀ (locs1 : List Loc), va_S (fun q : Nat => z0 ≤ q) s.heap _ locs1 → W p l e R s m args below meth c _ locs1 (w'.1 - n0) (w'.2.1 - s0) Q (F0 m (pc + 3) ls (zz_sv z0 sp r)) := kq
      rw [q1, q2] at kq2
      obtain ⟨t', a1, b1⟩ := kq2 _ ⟨by rw [hz]; exact hS.1, fun q g1 g2 => by
          rw [oq q (fun e => g2 (by rw [e]; exact Nat.le_add_right _ _))]
          exact hS.2.1 q g1 g2, fun q hq => by
          rcases List.mem_append.mp hq with h | h
          · exact hS.2.2 q h
          · obtain ⟨z, -, hz⟩ := List.mem_map.mp h
            rw [← hz]
            exact Nat.le_add_right _ _⟩ _ hheap X'
      exact ⟨t', step t' a1, b1⟩
    · cases hf
variable {n p : Nat} {lv : List (Nat × Value)} {r : List Value} {w : zz_W}
end ZCB
end
section
/-! WHAT STOOD THERE BEFORE, AS LISTS: it stays while cells above z0 alone change. Text k: the thing at sp (2 k), its row at sp (2 k + 1); constant row k of ints: at sp (1000000 + k). -/
/-- texts (length, signs of 8 bits); rows (length, ints of 32 bits) -/
abbrev zz_Lr : Type := List (Nat × Nat)
/-- places of texts; statics; nest words of fields and of methods; classes of rows of references -/
abbrev zz_Lg : Type := List (String × Nat × String × Nat) × List (String × String × String × Value) × List (String × Nat × String × String × String × String) × List (String × Nat × MethodName × String) × List String
/-- what a constant row holds: bytes if a 1 stands behind its last place -/
def zz_ty (q : Nat × Nat) : FieldType := bif Nat.beq (zz_at 32 q.2 q.1) 1 then .byte else .int
section ZGD
variable {z0 : Nat} {sp : Nat → Nat} {S S2 : zz_Lr} {L : zz_Lg}
def zz_St (z0 : Nat) (sp : Nat → Nat) (k : Nat) (q : Nat × Nat) (U : State) : Prop :=
  va_O "java/lang/String" (sp (2 * k)) (fun a : Nat => z0 ≤ a) U U.heap ∧ va_OF "java/lang/String" "coder" "B" (.int 0) (sp (2 * k)) (fun a : Nat => z0 ≤ a) U U.heap ∧ va_OF "java/lang/String" "value" "[B" (.ref (sp (2 * k + 1))) (sp (2 * k)) (fun a : Nat => z0 ≤ a) U U.heap ∧ va_T .byte (sp (2 * k + 1)) q.1 (fun j => .int (Int32.ofNat (zz_at 8 q.2 j))) (fun a : Nat => z0 ≤ a) U U.heap
def zz_GD (S S2 : zz_Lr) (L : zz_Lg) (z0 : Nat) (sp : Nat → Nat) (U : State) : Prop :=
  z0 ≤ U.heap.size ∧ (∀ (k : Nat) (q : Nat × Nat), S[k]? = some q → zz_St z0 sp k q U) ∧ (∀ (k : Nat) (q : Nat × Nat), S2[k]? = some q → va_T (zz_ty q) (sp (1000000 + k)) q.1 (fun j => .int (Int32.ofNat (zz_at 32 q.2 j))) (fun a : Nat => z0 ≤ a) U U.heap) ∧
  (∀ q ∈ L.1, vk_R q.1 q.2.1 q.2.2.1 (sp q.2.2.2) U) ∧ (∀ q ∈ L.2.1, va_Z q.1 q.2.1 q.2.2.1 (zz_v z0 sp q.2.2.2) (fun a : Nat => z0 ≤ a) U U.heap) ∧
  (∀ q ∈ L.2.2.1, va_Nw (.fieldLinkNest q.1 q.2.1 q.2.2.1 q.2.2.2.1 q.2.2.2.2.1 q.2.2.2.2.2) U) ∧ (∀ q ∈ L.2.2.2.1, va_Nw (.methodLinkNest q.1 q.2.1 q.2.2.1 q.2.2.2) U) ∧ ∀ C ∈ L.2.2.2.2, va_AO C U
theorem zz_GD_GF : zz_GF z0 (zz_GD S S2 L z0 sp) := by
  refine ⟨fun U V hW hz hq h => ?_, fun U V hv hh h => ?_, fun U h => h.1⟩
  · obtain ⟨h0, h1, h2, h3, h4, h5, h6, h7⟩ := h
    have hk : ∀ a : Nat, a < U.heap.size → ¬ z0 ≤ a → V.heap[a]? = U.heap[a]? := fun a _ ha => hq a (by omega)
    have hm := hW.alike
    refine ⟨?_, fun k q e => ?_, fun k q e => ?_, fun q e => vk_R.warm hW (h3 q e), fun q e => (va_Z.moved hm (h4 q e)).kept hk, fun q e => va_Nw.warmF hW (h5 q e), fun q e => va_Nw.warmM hW (h6 q e), fun C e => va_AO.moved hm (h7 C e)⟩
    · rcases Nat.eq_zero_or_pos z0 with e | e
      · omega
      · have e1 := hq (z0 - 1) (by omega)
        rw [Array.getElem?_eq_getElem (by omega : z0 - 1 < U.heap.size)] at e1
        have := (Array.getElem?_eq_some_iff.mp e1).1
        omega
    · obtain ⟨a, b, c, d⟩ := h1 k q e
      exact ⟨(va_O.moved hm a).kept hk, (va_OF.moved hm b).kept hk, (va_OF.moved hm c).kept hk, (va_T.moved hm d).kept hk⟩
    · exact (va_T.moved hm (h2 k q e)).kept hk
  · obtain ⟨h0, h1, h2, h3, h4, h5, h6, h7⟩ := h
    have hm : U.vm.Alike V.vm := by rw [hv]; exact Vm.Alike.refl _
    refine ⟨by rw [hh]; exact h0, fun k q e => ?_, fun k q e => by rw [hh]; exact va_T.moved hm (h2 k q e), fun q e => vk_R.same hv (h3 q e), fun q e => by rw [hh]; exact va_Z.moved hm (h4 q e), fun q e => va_Nw.same rfl hv.symm (h5 q e), fun q e => va_Nw.same rfl hv.symm (h6 q e), fun C e => va_AO.moved hm (h7 C e)⟩
    obtain ⟨a, b, c, d⟩ := h1 k q e
    unfold zz_St
    rw [hh]
    exact ⟨va_O.moved hm a, va_OF.moved hm b, va_OF.moved hm c, va_T.moved hm d⟩
/-- the text whose thing (p = 0) or row (p = 1) the number i is -/
def zz_kt (S : zz_Lr) (p i : Nat) : Option (Nat × Nat) := cond (Nat.ble 1000000 i && (Nat.blt i 2000000 && Nat.beq ((i - 1000000) % 2) p)) (S[(i - 1000000) / 2]?) none
theorem zz_kt_ok {p i : Nat} {q : Nat × Nat} (h : zz_kt S p i = some q) : ∃ k, i = 1000000 + (2 * k + p) ∧ S[k]? = some q := by
  unfold zz_kt at h
  obtain ⟨h1, h2⟩ := zz_cond h
  obtain ⟨a, h1⟩ := zz_and h1
  obtain ⟨b, c⟩ := zz_and h1
  have a := zz_ble a
  have c := Nat.eq_of_beq_eq_true c
  exact ⟨_, by omega, h2⟩
theorem zz_kr {k : Nat} : zz_r z0 sp (1000000 + k) = sp k := by
  unfold zz_r
  rw [if_neg (by omega), show 1000000 + k - 1000000 = k by omega]
def zz_kv (S : zz_Lr) (i : Nat) : Option Value := match zz_kt S 0 i with
  | some _ => some (.ref (i + 1))
  | none => none
def zz_kc (S : zz_Lr) (i : Nat) : Option Value := match zz_kt S 0 i with
  | some _ => some (.int (Int32.ofNat 0))
  | none => none
def zz_kg (S : zz_Lr) (i : Nat) : Bool := match zz_kt S 0 i with
  | some _ => true
  | none => false
def zz_kb (S : zz_Lr) (i j : Nat) : Option Nat := match zz_kt S 1 i with
  | some q => cond (Nat.blt j q.1 && Nat.blt q.1 2147483648) (some (zz_at 8 q.2 j)) none
  | none => none
def zz_k2 (S2 : zz_Lr) (i : Nat) : Option (Nat × Nat) := cond (Nat.ble 2000000 i) (S2[i - 2000000]?) none
def zz_ki (S2 : zz_Lr) (i j : Nat) : Option Nat := match zz_k2 S2 i with
  | some q => cond (Nat.blt j q.1 && Nat.blt q.1 2147483648 && not (Nat.beq (zz_at 32 q.2 q.1) 1)) (some (zz_at 32 q.2 j)) none
  | none => none
def zz_kB (S2 : zz_Lr) (i j : Nat) : Option Nat := match zz_k2 S2 i with
  | some q => cond (Nat.blt j q.1 && Nat.blt q.1 2147483648 && Nat.beq (zz_at 32 q.2 q.1) 1) (some (zz_at 32 q.2 j)) none
  | none => none
def zz_kn (S S2 : zz_Lr) (i : Nat) : Option Nat := match zz_kt S 1 i with
  | some q => some q.1
  | none => match zz_k2 S2 i with
    | some q => some q.1
    | none => none
variable {G : State → Prop}
theorem zz_kv_ok (hP : ∀ U, G U → zz_GD S S2 L z0 sp U) : ∀ i v, zz_kv S i = some v → ∀ U, G U → va_OF "java/lang/String" "value" "[B" (zz_v z0 sp v) (zz_r z0 sp i) (fun q : Nat => z0 ≤ q) U U.heap := by
  intro i v h U hU
  unfold zz_kv at h
  split at h
  · rename_i q hq
    cases h
    obtain ⟨k, rfl, hk⟩ := zz_kt_ok hq
    have := ((hP U hU).2.1 k q hk).2.2.1
    show va_OF _ _ _ (.ref (zz_r z0 sp (1000000 + (2 * k + 0) + 1))) _ _ _ _
    rw [show 1000000 + (2 * k + 0) + 1 = 1000000 + (2 * k + 1) by omega, zz_kr, zz_kr]
    exact this
  · cases h
theorem zz_kc_ok (hP : ∀ U, G U → zz_GD S S2 L z0 sp U) : ∀ i v, zz_kc S i = some v → ∀ U, G U → va_OF "java/lang/String" "coder" "B" (zz_v z0 sp v) (zz_r z0 sp i) (fun q : Nat => z0 ≤ q) U U.heap := by
  intro i v h U hU
  unfold zz_kc at h
  split at h
  · rename_i q hq
    cases h
    obtain ⟨k, rfl, hk⟩ := zz_kt_ok hq
    have := ((hP U hU).2.1 k q hk).2.1
    rw [zz_kr]
    exact this
  · cases h
theorem zz_kg_ok (hP : ∀ U, G U → zz_GD S S2 L z0 sp U) : ∀ i, zz_kg S i = true → ∀ U, G U → va_O "java/lang/String" (zz_r z0 sp i) (fun q : Nat => z0 ≤ q) U U.heap := by
  intro i h U hU
  unfold zz_kg at h
  split at h
  · rename_i q hq
    obtain ⟨k, rfl, hk⟩ := zz_kt_ok hq
    have := ((hP U hU).2.1 k q hk).1
    rw [zz_kr]
    exact this
  · cases h
theorem zz_kb_ok (hP : ∀ U, G U → zz_GD S S2 L z0 sp U) : zz_KR G z0 sp .byte (zz_kb S) := by
  intro i j v h
  unfold zz_kb at h
  split at h
  · rename_i q hq
    obtain ⟨h1, h2⟩ := zz_cond h
    obtain ⟨h3, h4⟩ := zz_and h1
    cases h2
    obtain ⟨k, rfl, hk⟩ := zz_kt_ok hq
    refine ⟨q.1, fun j => .int (Int32.ofNat (zz_at 8 q.2 j)), fun U hU => ?_, zz_blt h3, Nat.le_of_lt (zz_blt h4), rfl⟩
    rw [zz_kr]
    exact ((hP U hU).2.1 k q hk).2.2.2
  · cases h
theorem zz_k2_ok {i : Nat} {q : Nat × Nat} (h : zz_k2 S2 i = some q) : ∃ k, i = 1000000 + (1000000 + k) ∧ S2[k]? = some q := by
  unfold zz_k2 at h
  obtain ⟨h1, h2⟩ := zz_cond h
  have h1 := zz_ble h1
  exact ⟨_, by omega, h2⟩
theorem zz_ki_ok (hP : ∀ U, G U → zz_GD S S2 L z0 sp U) : zz_KR G z0 sp .int (zz_ki S2) := by
  intro i j v h
  unfold zz_ki at h
  split at h
  · rename_i q hq
    obtain ⟨h1, h2⟩ := zz_cond h
    obtain ⟨h1, h5⟩ := zz_and h1
    obtain ⟨h3, h4⟩ := zz_and h1
    cases h2
    have h5 : Nat.beq (zz_at 32 q.2 q.1) 1 = false := by
      cases hb : Nat.beq (zz_at 32 q.2 q.1) 1 with
      | true => rw [hb] at h5; cases h5
      | false => rfl
    obtain ⟨k, rfl, hk⟩ := zz_k2_ok hq
    refine ⟨q.1, fun j => .int (Int32.ofNat (zz_at 32 q.2 j)), fun U hU => ?_, zz_blt h3, Nat.le_of_lt (zz_blt h4), rfl⟩
    rw [zz_kr]
    have e1 := (hP U hU).2.2.1 k q hk
    unfold zz_ty at e1
    rw [h5] at e1
    exact e1
  · cases h
theorem zz_kB_ok (hP : ∀ U, G U → zz_GD S S2 L z0 sp U) : zz_KR G z0 sp .byte (zz_kB S2) := by
  intro i j v h
  unfold zz_kB at h
  split at h
  · rename_i q hq
    obtain ⟨h1, h2⟩ := zz_cond h
    obtain ⟨h1, h5⟩ := zz_and h1
    obtain ⟨h3, h4⟩ := zz_and h1
    cases h2
    obtain ⟨k, rfl, hk⟩ := zz_k2_ok hq
    refine ⟨q.1, fun j => .int (Int32.ofNat (zz_at 32 q.2 j)), fun U hU => ?_, zz_blt h3, Nat.le_of_lt (zz_blt h4), rfl⟩
    rw [zz_kr]
    have e1 := (hP U hU).2.2.1 k q hk
    unfold zz_ty at e1
    rw [h5] at e1
    exact e1
  · cases h
theorem zz_kn_ok (hP : ∀ U, G U → zz_GD S S2 L z0 sp U) : ∀ i v, zz_kn S S2 i = some v → ∃ (ty : FieldType) (h : Nat → Value), ∀ U, G U → va_T ty (zz_r z0 sp i) v h (fun q : Nat => z0 ≤ q) U U.heap := by
  intro i v h
  unfold zz_kn at h
  split at h
  · rename_i q hq
    cases h
    obtain ⟨k, rfl, hk⟩ := zz_kt_ok hq
    refine ⟨.byte, fun j => .int (Int32.ofNat (zz_at 8 q.2 j)), fun U hU => ?_⟩
    rw [zz_kr]
    exact ((hP U hU).2.1 k q hk).2.2.2
  · split at h
    · rename_i q hq
      cases h
      obtain ⟨k, rfl, hk⟩ := zz_k2_ok hq
      refine ⟨zz_ty q, fun j => .int (Int32.ofNat (zz_at 32 q.2 j)), fun U hU => ?_⟩
      rw [zz_kr]
      exact (hP U hU).2.2.1 k q hk
    · cases h
end ZGD
end
section
/-! WORLDS WRITTEN DOWN: rows by their places that are not 0; two worlds alike -/
/-- the row with the numbers q.2 at the places q.1, w bits each, 0 elsewhere -/
def zz_sp (w : Nat) (l : List (Nat × Nat)) : Nat := match l with
  | [] => 0
  | q :: r => (q.2 <<< (w * q.1)) + zz_sp w r
def zz_ch0 : List zz_C := [zz_c0, zz_c0, zz_c0, zz_c0, zz_c0, zz_c0, zz_c0, zz_c0, zz_c0, zz_c0, zz_c0, zz_c0, zz_c0, zz_c0, zz_c0, zz_c0]
def zz_eqC (a b : zz_C) : Bool := Nat.beq a.1 b.1 && (Nat.beq a.2.1 b.2.1 && (Nat.beq a.2.2.1 b.2.2.1 && Nat.beq a.2.2.2 b.2.2.2))
def zz_eqR : List zz_C → List zz_C → Bool
  | [], [] => true
  | a :: r, b :: t => zz_eqC a b && zz_eqR r t
  | _, _ => false
def zz_eqL : List (List zz_C) → List (List zz_C) → Bool
  | [], [] => true
  | a :: r, b :: t => zz_eqR a b && zz_eqL r t
  | _, _ => false
def zz_eqW (a b : zz_W) : Bool := Nat.beq a.1 b.1 && (Nat.beq a.2.1 b.2.1 && zz_eqL a.2.2 b.2.2)
theorem zz_eqC_ok {a b : zz_C} (h : zz_eqC a b = true) : a = b := by
  unfold zz_eqC at h
  obtain ⟨h1, h⟩ := zz_and h
  obtain ⟨h2, h⟩ := zz_and h
  obtain ⟨h3, h4⟩ := zz_and h
  obtain ⟨a1, a2, a3, a4⟩ := a
  obtain ⟨b1, b2, b3, b4⟩ := b
  have e1 : a1 = b1 := Nat.eq_of_beq_eq_true h1
  have e2 : a2 = b2 := Nat.eq_of_beq_eq_true h2
  have e3 : a3 = b3 := Nat.eq_of_beq_eq_true h3
  have e4 : a4 = b4 := Nat.eq_of_beq_eq_true h4
  rw [e1, e2, e3, e4]
theorem zz_eqR_ok : ∀ {a b : List zz_C}, zz_eqR a b = true → a = b
  | [], [], _ => rfl
  | [], _ :: _, h => by cases h
  | _ :: _, [], h => by cases h
  | a :: r, b :: t, h => by
    obtain ⟨h1, h2⟩ := zz_and (show (zz_eqC a b && zz_eqR r t) = true from h)
    rw [zz_eqC_ok h1, zz_eqR_ok h2]
theorem zz_eqL_ok : ∀ {a b : List (List zz_C)}, zz_eqL a b = true → a = b
  | [], [], _ => rfl
  | [], _ :: _, h => by cases h
  | _ :: _, [], h => by cases h
  | a :: r, b :: t, h => by
    obtain ⟨h1, h2⟩ := zz_and (show (zz_eqR a b && zz_eqL r t) = true from h)
    rw [zz_eqR_ok h1, zz_eqL_ok h2]
theorem zz_eqW_ok {a b : zz_W} (h : zz_eqW a b = true) : a = b := by
  unfold zz_eqW at h
  obtain ⟨h1, h⟩ := zz_and h
  obtain ⟨h2, h3⟩ := zz_and h
  obtain ⟨a1, a2, a3⟩ := a
  obtain ⟨b1, b2, b3⟩ := b
  have e1 : a1 = b1 := Nat.eq_of_beq_eq_true h1
  have e2 : a2 = b2 := Nat.eq_of_beq_eq_true h2
  have e3 : a3 = b3 := zz_eqL_ok h3
  rw [e1, e2, e3]
/-- a run that gives nothing and the world w -/
def zz_end0 (o : Option (List Value × zz_W)) (w : zz_W) : Bool := match o with
  | some q => match q.1 with
    | [] => zz_eqW q.2 w
    | _ => false
  | none => false
theorem zz_end0_ok {o : Option (List Value × zz_W)} {w : zz_W} (h : zz_end0 o w = true) : o = some ([], w) := by
  unfold zz_end0 at h
  split at h
  · rename_i q
    obtain ⟨q1, q2⟩ := q
    split at h
    · rename_i e
      have e : q1 = [] := e
      have h : q2 = w := zz_eqW_ok h
      rw [e, h]
    · cases h
  · cases h
end
section
/-! CALLS OF INHERITED METHODS, of a superclass's own -/
/-- a private method of a class above C is selected as it is; C and its class are told by a word of another method of that class -/
theorem zz_selUp {C : String} {y z : MethodName} {s : State} {args : Array Value} (hz : (Cond.selects C z z).before args s = true) (hcls : z.cls = y.cls) (hy : y.cls ≠ "java/lang/invoke/MethodHandle" ∧ y.cls ≠ "java/lang/invoke/VarHandle")
    (hpriv : (Cond.privateMethod y).before args s = true) (hinst : (Cond.instanceMethod y).before args s = true) : (Cond.selects C y y).before args s = true := by
  obtain ⟨c2, r2, m2, q1, q2, q3, q4, kP, hkP, hkPi⟩ := Cond.selects_spec hz
  obtain ⟨mk, methM, hnamed, hmethM, -, -⟩ := Cond.instanceMethod_spec hinst
  have hfound : s.methodFound? y.cls y.name y.desc = some mk := State.methodFound?_of_named hnamed hy
  have hsel : selectMethod {} s.vm c2 mk = .method mk := selectMethod_private hmethM (Cond.privateMethod_at hpriv mk methM hnamed hmethM)
  have h1 := findClass_of_methodNamed q3
  have h2 := findClass_of_methodNamed hnamed
  rw [hcls] at h1
  have hc : m2.cls = mk.cls := Option.some.inj (h1.symm.trans h2)
  rw [hc] at hkP
  simp only [Cond.before, Cond.holds, Cond.value, q1, hfound, hnamed, hsel, hkP]
  simp; exact hkPi
section ZUP
variable {l : Launch} {Ts : List Cond} {D : va_G} {cl : List vw_C} {fk : Nat → Nat → Nat} {cy : Nat → ClassId} {z0 : Nat} {sp : Nat → Nat} {tys : List (ClassId × FieldType)} {G : State → Prop} {own mn : String} {nL : Nat} {cc : ByteArray} {d : Nat} {K : zz_K} {pc : Nat}
variable {yn : Nat → MethodName} {cn : Nat → ByteArray} {ml : Nat → Nat} {rt : Nat → Option FieldType}
theorem zo_callU {y index na ci N : Nat} {C : String} {T : u_T} (hd : decode cc pc = .ok (.invokevirtual index, 3)) (hKS : zz_KS l D cl fk cy z0 sp tys G yn (fun y => Cond.code (yn y) (cn y) (ml y) (rt y) :: Ts) d K) (hgood : ∀ w ∈ Ts, goodWord w = true) (hG : zz_GF z0 G) (hc : cl[ci]? = some (C, T, N))
    (hy : (yn y).cls ≠ "java/lang/invoke/MethodHandle" ∧ (yn y).cls ≠ "java/lang/invoke/VarHandle" ∧ (parseMethodDescriptor (yn y).desc).map (fun d => d.parameters.length) = some na) (hml : ml y ≤ 45) (hw : ∀ w ∈ ([.methodLink own index (yn y), .instanceMethod (yn y), .selects C (yn y) (yn y), .initialized (yn y).cls, .code (yn y) (cn y) (ml y) (rt y)] : List Cond), w ∈ Ts) : zz_O l Ts D cl fk cy z0 sp tys G own mn nL cc d K pc (za_callV ci y na (pc + 3)) := by
  refine ⟨fun f f' hf => ?_, ?_⟩
  · unfold za_callV at hf
    obtain ⟨as, r, -, -, hf⟩ := zz_tk_ok _ _ _ hf
    split at hf
    · obtain ⟨-, hf⟩ := zz_cond hf
      obtain ⟨rv, w', hq, -, e1⟩ := zz_cr_ok hf
      rw [e1]
      exact (hKS _ _ _ _ _ hq).1
    · cases hf
  · intro p e R s m args below meth c X hR1 hR2 H locs n0 s0 Q ls f f' hpc hf hI hS hl hn hs hc1 hc2 kk
    unfold za_callV at hf
    obtain ⟨as, r, hst, hlen, hf⟩ := zz_tk_ok _ _ _ hf
    split at hf
    · rename_i b r'
      obtain ⟨hb, hf⟩ := zz_cond hf
      obtain ⟨hb1, hb2⟩ := zz_and hb
      obtain ⟨i1, i2, i3, i4⟩ := zz_ic_ok hb1
      obtain ⟨rv, w', hq, e1, e2⟩ := zz_cr_ok hf
      obtain ⟨⟨m1, m2⟩, hrv, hM⟩ := hKS _ _ _ _ _ hq
      have e1 := e1 hrv
      subst e1
      rw [List.append_nil] at hM
      have hst2 : zz_sv z0 sp f.2.2.1 = (zz_sv z0 sp as).reverse ++ .ref (zz_ad z0 sp b) :: zz_sv z0 sp r' := by
        rw [hst, zz_sv_app, zz_sv_rev]
        show _ ++ zz_v z0 sp (.ref b) :: zz_sv z0 sp r' = _
        rw [zz_v_ref i2]
      rw [hst2]
      have he := zz_ws_get (fk := fk) (cy := cy) (z0 := z0) (sp := sp) i1
      rw [zz_e_o i3 i4] at he
      have hcw : CallW R s args own C index (yn y) (cn y) (ml y) (rt y) (Cond.code (yn y) (cn y) (ml y) (rt y) :: Ts) { frames := d, cells := w'.1 - f.2.2.2.1, slots := w'.2.1 - f.2.2.2.2.1, locals := 64 * d } (w'.1 - f.2.2.2.1) (w'.2.1 - f.2.2.2.2.1) na :=
        ⟨callB_of na X.2.2.2.2.1 (zz_goodIn hgood (fun w h => by
          rcases List.mem_cons.mp h with h | h
          · rw [h]; exact hw _ (by simp)
          · exact h)) rfl rfl rfl (X.2.2.2.2.1 _ (hw _ (by simp))) (X.2.2.2.2.1 _ (hw _ (by simp))) hy ⟨hR1, by show 8 + (ml y + 11) + 64 * d ≤ _; omega⟩, X.2.2.2.2.1 _ (hw _ (by simp)), X.2.2.2.2.1 _ (hw _ (by simp))⟩
      have hc1' : w'.1 - n0 ≤ R.cells := hc1
      have hc2' : w'.2.1 - s0 ≤ R.slots := hc2
      refine zz_behind (fk := fk) (cy := cy) (D := D) (cl := cl) (mc := w'.1 - f.2.2.2.1) (ms := w'.2.1 - f.2.2.2.2.1) (rest := r') hrv (va_runV (As := zz_sv z0 sp as) ⟨X.1, X.2.1, X.2.2.1, X.2.2.2.1, X.2.2.2.2.1⟩ hM hcw ⟨zz_blind hG, va_recv X.2.2.2.2.2.1 hI.2 hc he, fun U hU hW => ⟨by show (Value.ref (zz_ad z0 sp b) :: zz_sv z0 sp as).toArray = (zz_v z0 sp (.ref b) :: zz_sv z0 sp as).toArray; rw [zz_v_ref i2], by rw [hU]; exact hI, va_K.moved hW.alike X.2.2.2.2.2.1, zz_G_at X hG hS hU hW⟩⟩ rfl (by unfold zz_sv; rw [List.length_map]; exact hlen) hl.1 rfl (lv_room (by rw [zz_cs_sv]; exact zz_ble hb2)) hd ⟨by omega, by omega⟩) hS fun H1 locs1 hI1 hS1 => ?_
      have k1 := kk H1 locs1 ls hI1 hS1 hl
      have q1 : w'.1 - n0 = f.2.2.2.1 - n0 + (w'.1 - f.2.2.2.1) := by omega
      have q2 : w'.2.1 - s0 = f.2.2.2.2.1 - s0 + (w'.2.1 - f.2.2.2.2.1) := by omega
      have k2 : W p l e R s m args below meth c H1 locs1 (w'.1 - n0) (w'.2.1 - s0) Q (F0 m (pc + 3) ls (zz_sv z0 sp (rv ++ r'))) := k1
      rw [q1, q2] at k2
      exact k2
    · cases hf
theorem zo_callSU {y index na ci N : Nat} {C : String} {T : u_T} (hd : decode cc pc = .ok (.invokespecial index, 3)) (hKS : zz_KS l D cl fk cy z0 sp tys G yn (fun y => Cond.code (yn y) (cn y) (ml y) (rt y) :: Ts) d K) (hgood : ∀ w ∈ Ts, goodWord w = true) (hG : zz_GF z0 G) (hc : cl[ci]? = some (C, T, N))
    (hy : (yn y).name ≠ "<init>" ∧ (parseMethodDescriptor (yn y).desc).map (fun d => d.parameters.length) = some na) (hml : ml y ≤ 45) (hw : ∀ w ∈ ([.methodLink own index (yn y), .sameMethod (yn y).cls (yn y).cls (yn y).name (yn y).desc, .superclass own (yn y).cls, .instanceMethod (yn y), .initialized (yn y).cls, .code (yn y) (cn y) (ml y) (rt y)] : List Cond), w ∈ Ts) : zz_O l Ts D cl fk cy z0 sp tys G own mn nL cc d K pc (za_callV ci y na (pc + 3)) := by
  refine ⟨fun f f' hf => ?_, ?_⟩
  · unfold za_callV at hf
    obtain ⟨as, r, -, -, hf⟩ := zz_tk_ok _ _ _ hf
    split at hf
    · obtain ⟨-, hf⟩ := zz_cond hf
      obtain ⟨rv, w', hq, -, e1⟩ := zz_cr_ok hf
      rw [e1]
      exact (hKS _ _ _ _ _ hq).1
    · cases hf
  · intro p e R s m args below meth c X hR1 hR2 H locs n0 s0 Q ls f f' hpc hf hI hS hl hn hs hc1 hc2 kk
    unfold za_callV at hf
    obtain ⟨as, r, hst, hlen, hf⟩ := zz_tk_ok _ _ _ hf
    split at hf
    · rename_i b r'
      obtain ⟨hb, hf⟩ := zz_cond hf
      obtain ⟨hb1, hb2⟩ := zz_and hb
      obtain ⟨i1, i2, i3, i4⟩ := zz_ic_ok hb1
      obtain ⟨rv, w', hq, e1, e2⟩ := zz_cr_ok hf
      obtain ⟨⟨m1, m2⟩, hrv, hM⟩ := hKS _ _ _ _ _ hq
      have e1 := e1 hrv
      subst e1
      rw [List.append_nil] at hM
      have hst2 : zz_sv z0 sp f.2.2.1 = (zz_sv z0 sp as).reverse ++ .ref (zz_ad z0 sp b) :: zz_sv z0 sp r' := by
        rw [hst, zz_sv_app, zz_sv_rev]
        show _ ++ zz_v z0 sp (.ref b) :: zz_sv z0 sp r' = _
        rw [zz_v_ref i2]
      rw [hst2]
      have he := zz_ws_get (fk := fk) (cy := cy) (z0 := z0) (sp := sp) i1
      rw [zz_e_o i3 i4] at he
      have hcw : va_CS R s args own index (yn y) (cn y) (ml y) (rt y) (Cond.code (yn y) (cn y) (ml y) (rt y) :: Ts) { frames := d, cells := w'.1 - f.2.2.2.1, slots := w'.2.1 - f.2.2.2.2.1, locals := 64 * d } (w'.1 - f.2.2.2.1) (w'.2.1 - f.2.2.2.2.1) na :=
        va_cwSU na X.2.2.2.2.1 (zz_goodIn hgood (fun w h => by
          rcases List.mem_append.mp h with h | h
          · exact hw w (by simp only [List.mem_cons, List.not_mem_nil, or_false] at h ⊢; rcases h with h | h | h | h | h <;> simp [h])
          · rcases List.mem_cons.mp h with h | h
            · rw [h]; exact hw _ (by simp)
            · exact h)) rfl rfl rfl hy ⟨hR1, by show 8 + (ml y + 11) + 64 * d ≤ _; omega⟩
      have hc1' : w'.1 - n0 ≤ R.cells := hc1
      have hc2' : w'.2.1 - s0 ≤ R.slots := hc2
      refine zz_behind (fk := fk) (cy := cy) (D := D) (cl := cl) (mc := w'.1 - f.2.2.2.1) (ms := w'.2.1 - f.2.2.2.2.1) (rest := r') hrv (va_runSU (As := zz_sv z0 sp as) (X.2.2.2.2.2.1.1 ci _ hc).2 ⟨X.1, X.2.1, X.2.2.1, X.2.2.2.1, X.2.2.2.2.1⟩ hM hcw ⟨zz_blind hG, va_recv X.2.2.2.2.2.1 hI.2 hc he, fun U hU hW => ⟨by show (Value.ref (zz_ad z0 sp b) :: zz_sv z0 sp as).toArray = (zz_v z0 sp (.ref b) :: zz_sv z0 sp as).toArray; rw [zz_v_ref i2], by rw [hU]; exact hI, va_K.moved hW.alike X.2.2.2.2.2.1, zz_G_at X hG hS hU hW⟩⟩ rfl (by unfold zz_sv; rw [List.length_map]; exact hlen) hl.1 rfl (lv_room (by rw [zz_cs_sv]; exact zz_ble hb2)) hd ⟨by omega, by omega⟩) hS fun H1 locs1 hI1 hS1 => ?_
      have k1 := kk H1 locs1 ls hI1 hS1 hl
      have q1 : w'.1 - n0 = f.2.2.2.1 - n0 + (w'.1 - f.2.2.2.1) := by omega
      have q2 : w'.2.1 - s0 = f.2.2.2.2.1 - s0 + (w'.2.1 - f.2.2.2.2.1) := by omega
      have k2 : W p l e R s m args below meth c H1 locs1 (w'.1 - n0) (w'.2.1 - s0) Q (F0 m (pc + 3) ls (zz_sv z0 sp (rv ++ r'))) := k1
      rw [q1, q2] at k2
      exact k2
    · cases hf
end ZUP
end
section
/-! WHAT STANDS THERE AT THE START: texts, constant rows, classes of arrays, out of the words of the premise and of the tables -/
def zz_sl (l : List Cond) (p n : Nat) : List Cond := (l.drop p).take n
theorem zz_sl_in {l : List Cond} {p n : Nat} {w : Cond} (h : w ∈ zz_sl l p n) : w ∈ l := List.mem_of_mem_drop (List.mem_of_mem_take h)
/-- the words of a text -/
def zz_wt (tm : Term) (q : Nat × Nat) : List Cond := Cond.exactly tm "java/lang/String" :: Cond.eq (.field tm "java/lang/String" "coder" "B") (.int 0) :: Cond.arrayOf (.field tm "java/lang/String" "value" "[B") .byte :: Cond.eq (.length (.field tm "java/lang/String" "value" "[B")) (.int (Int32.ofNat q.1)) :: (List.range q.1).map (fun j => Cond.eq (.elem (.field tm "java/lang/String" "value" "[B") (.int (Int32.ofNat j))) (.int (Int32.ofNat (zz_at 8 q.2 j))))
/-- the words of a constant row of ints -/
def zz_wr (tm : Term) (q : Nat × Nat) : List Cond := Cond.arrayOf tm .int :: Cond.eq (.length tm) (.int (Int32.ofNat q.1)) :: (List.range q.1).map (fun j => Cond.eq (.elem tm (.int (Int32.ofNat j))) (.int (Int32.ofNat (zz_at 32 q.2 j))))
/-- of bytes -/
def zz_wrB (tm : Term) (q : Nat × Nat) : List Cond := Cond.arrayOf tm .byte :: Cond.eq (.length tm) (.int (Int32.ofNat q.1)) :: (List.range q.1).map (fun j => Cond.eq (.elem tm (.int (Int32.ofNat j))) (.int (Int32.ofNat (zz_at 32 q.2 j))))
section ZST
variable {args : Array Value} {s : State} {A : Nat → Prop}
theorem zz_tx {tm : Term} {q : Nat × Nat} (hN : q.1 < 2 ^ 31) (h : ∀ w ∈ zz_wt tm q, w.before args s = true) (hA : ∀ a : Nat, a < s.heap.size → ¬ A a) : ∃ a t : Nat, tm.eval args s none [] s = some (.ref a) ∧ va_O "java/lang/String" a A s s.heap ∧ va_OF "java/lang/String" "coder" "B" (.int 0) a A s s.heap ∧ va_OF "java/lang/String" "value" "[B" (.ref t) a A s s.heap ∧ va_T .byte t q.1 (fun j => .int (Int32.ofNat (zz_at 8 q.2 j))) A s s.heap := by
  unfold zz_wt at h
  rw [List.forall_mem_cons, List.forall_mem_cons, List.forall_mem_cons, List.forall_mem_cons] at h
  obtain ⟨h1, h2, h3, h4, h5⟩ := h
  obtain ⟨a, c, cA, kA, q1, q2, q3, q4, q5, q6, -⟩ := Cond.exactly_spec (args := args) (first := s) (o := none) (s := s) (idx := []) (t := tm) (cls := "java/lang/String") h1
  obtain ⟨t, ht, hT⟩ := va_Tof (f := fun j => .int (Int32.ofNat (zz_at 8 q.2 j))) (A := A) hN h3 (va_eqt h4) (fun j hj => va_eqt (h5 _ (List.mem_map.mpr ⟨j, List.mem_range.mpr hj, rfl⟩))) hA
  exact ⟨a, t, q1, ⟨cA, q3, q5, by rw [q6]; exact q2, hA a (Array.getElem?_eq_some_iff.mp q3).1⟩, vk_OFof q1 (va_eqt h2) hA, vk_OFof q1 ht hA, hT⟩
theorem zz_rx {tm : Term} {q : Nat × Nat} (hN : q.1 < 2 ^ 31) (h : ∀ w ∈ zz_wr tm q, w.before args s = true) (hA : ∀ a : Nat, a < s.heap.size → ¬ A a) : ∃ t : Nat, tm.eval args s none [] s = some (.ref t) ∧ va_T .int t q.1 (fun j => .int (Int32.ofNat (zz_at 32 q.2 j))) A s s.heap := by
  unfold zz_wr at h
  rw [List.forall_mem_cons, List.forall_mem_cons] at h
  obtain ⟨h3, h4, h5⟩ := h
  exact va_Tof (f := fun j => .int (Int32.ofNat (zz_at 32 q.2 j))) (A := A) hN h3 (va_eqt h4) (fun j hj => va_eqt (h5 _ (List.mem_map.mpr ⟨j, List.mem_range.mpr hj, rfl⟩))) hA
theorem zz_rxB {tm : Term} {q : Nat × Nat} (hN : q.1 < 2 ^ 31) (h : ∀ w ∈ zz_wrB tm q, w.before args s = true) (hA : ∀ a : Nat, a < s.heap.size → ¬ A a) : ∃ t : Nat, tm.eval args s none [] s = some (.ref t) ∧ va_T .byte t q.1 (fun j => .int (Int32.ofNat (zz_at 32 q.2 j))) A s s.heap := by
  unfold zz_wrB at h
  rw [List.forall_mem_cons, List.forall_mem_cons] at h
  obtain ⟨h3, h4, h5⟩ := h
  exact va_Tof (f := fun j => .int (Int32.ofNat (zz_at 32 q.2 j))) (A := A) hN h3 (va_eqt h4) (fun j hj => va_eqt (h5 _ (List.mem_map.mpr ⟨j, List.mem_range.mpr hj, rfl⟩))) hA
/-- a static that is null or a thing -/
theorem zz_ox {C n d : String} (h : (Cond.isRef (.static C n d)).before args s = true) : ∃ k : Nat, (Term.static C n d).eval args s none [] s = some (if k = 0 then .null else .ref (k - 1)) := by
  cases hv : (Term.static C n d).eval args s none [] s with
  | none => simp [Cond.before, Cond.holds, Cond.value, hv] at h
  | some w =>
    simp only [Cond.before, Cond.holds, Cond.value, hv] at h
    cases w with
    | null => exact ⟨0, rfl⟩
    | ref t => exact ⟨t + 1, rfl⟩
    | _ => simp at h
theorem zz_arI (h : (Cond.arrayClass .int).before args s = true) : ∃ cA : ClassId, ArrOfT s cA .int ∧ va_RA s cA .int := by
  obtain ⟨c, k, comp, h1, h2, h3⟩ := Cond.arrayClass_spec h
  exact ⟨c, fun n z => ⟨fun k h => (by cases h), k, h2, comp, h3⟩, h1⟩
theorem zz_arB (h : (Cond.arrayClass .byte).before args s = true) : ∃ cA : ClassId, ArrOfT s cA .byte ∧ va_RA s cA .byte := by
  obtain ⟨c, k, comp, h1, h2, h3⟩ := Cond.arrayClass_spec h
  exact ⟨c, fun n z => ⟨fun k h => (by cases h), k, h2, comp, h3⟩, h1⟩
theorem zz_arZ (h : (Cond.arrayClass .boolean).before args s = true) : ∃ cA : ClassId, ArrOfT s cA .boolean ∧ va_RA s cA .boolean := by
  obtain ⟨c, k, comp, h1, h2, h3⟩ := Cond.arrayClass_spec h
  exact ⟨c, fun n z => ⟨fun k h => (by cases h), k, h2, comp, h3⟩, h1⟩
theorem zz_arL (h : (Cond.arrayClass .long).before args s = true) : ∃ cA : ClassId, ArrOfT s cA .long ∧ va_RA s cA .long := by
  obtain ⟨c, k, comp, h1, h2, h3⟩ := Cond.arrayClass_spec h
  exact ⟨c, fun n z => ⟨fun k h => (by cases h), k, h2, comp, h3⟩, h1⟩
theorem zz_arO {C : String} (h : (Cond.arrayOver (.object C)).before args s = true) : ∃ cA : ClassId, ArrOfT s cA (.object C) ∧ va_RA s cA (.object C) := by
  obtain ⟨comp, c, k, h1, -, h3, h4, h5⟩ := Cond.arrayOver_spec h
  exact ⟨c, fun n z => ⟨fun k h => (by cases h), k, h3, comp, h4⟩, k, comp, h3, h4, h1, h5⟩
end ZST
end
section
/-! PUTFIELD OF A BYTE -/
section ZPB
variable {l : Launch} {Ts : List Cond} {D : va_G} {cl : List vw_C} {fk : Nat → Nat → Nat} {cy : Nat → ClassId} {z0 : Nat} {sp : Nat → Nat} {tys : List (ClassId × FieldType)} {G : State → Prop} {own mn : String} {nL : Nat} {cc : ByteArray} {d : Nat} {K : zz_K} {pc : Nat}
noncomputable def za_putB (ci k n : Nat) : zz_A := fun _ f => match f.2.2.1 with
  | .int x :: .ref i :: r => cond (Nat.blt (zz_nI x) 128) (zz_pf f.2.2.2 i ci k (zz_nI x) (fun w => some (n, f.2.1, r, w))) none
  | _ => none
theorem zz_fb : ∀ n, n < 128 → fits .byte (.int (Int32.ofNat n)) = true := by decide
theorem zo_putB {C : String} {T : u_T} {N ci k index : Nat} {ty0 : Nat → FieldType} (hd : decode cc pc = .ok (.putfield index, 3)) (hf0 : fk ci k = 0) (hc : cl[ci]? = some (C, T, N)) (hk : k < N) (hu : ∀ w ∈ u_ws C T N, w ∈ Ts) (hty : ∀ k, k < N → parseFieldDescriptor (T k).2.2.1 = some (ty0 k)) (hnm : ∀ a, a < N → ∀ b, b < N → a ≠ b → (T a).2.1 ≠ (T b).2.1) (hw : Cond.fieldLink own index (T k).1 (T k).2.1 (T k).2.2.1 ∈ Ts) (hfin : (T k).2.2.2 = false ∨ ((T k).2.2.2 = true ∧ mn = "<init>" ∧ (T k).1 = own)) (hdt : ty0 k = .byte) : zz_O l Ts D cl fk cy z0 sp tys G own mn nL cc d K pc (za_putB ci k (pc + 3)) :=
  zo_write (fun f f' _ hf => by
    unfold za_putB at hf
    split at hf
    · rename_i x i r hst
      obtain ⟨hx, hf⟩ := zz_cond hf
      obtain ⟨hi, w', hk1, e1, e2, hg⟩ := zz_pf_ok hf
      cases hk1
      refine ⟨e1, e2, rfl, fun p e R s m args below meth c H locs cells slots Q ls X hI kk => ?_⟩
      rw [hst]
      exact zz_put_row (fk := fk) (cy := cy) (v := .int x) hc hk hu hty hnm hw hfin hd hi e1 hg (Nat.lt_of_lt_of_le (zz_nI_lt x) (by decide)) (by rw [hf0, zz_av, if_pos rfl, zz_nI_of]) (by rw [hty k hk, hdt]) (by
        show narrow .byte (.int x) = .int x
        rw [← zz_nI_of x]
        exact zz_nb _ (zz_blt hx)) (by
        show fits .byte (.int x) = true
        rw [← zz_nI_of x]
        exact zz_fb _ (zz_blt hx)) X hI kk
    · cases hf) (fun f f' hf => by
    unfold za_putB at hf
    split at hf
    · obtain ⟨hx, hf⟩ := zz_cond hf
      obtain ⟨hi, w', hk1, e1, e2, hg⟩ := zz_pf_ok hf
      cases hk1
      exact ⟨e1, e2⟩
    · cases hf)
end ZPB
end
section
/-! EVERY RUN IS A CONTRACT, also of members of classes that the machine has entries of, if it has none of them -/
section ZMF
variable {l : Launch} {Ts : List Cond} {D : va_G} {cl : List vw_C} {fk : Nat → Nat → Nat} {cy : Nat → ClassId} {z0 : Nat} {sp : Nat → Nat} {tys : List (ClassId × FieldType)} {G : State → Prop}
variable {yn : Nat → MethodName} {cn : Nat → ByteArray} {ml : Nat → Nat} {rt : Nat → Option FieldType} {P : Nat → zz_T}
theorem zz_KS_allF (hP : ∀ (d : Nat) (K : zz_K), zz_KS l D cl fk cy z0 sp tys G yn (fun y => Cond.code (yn y) (cn y) (ml y) (rt y) :: Ts) d K → ∀ y, zz_TO l Ts D cl fk cy z0 sp tys G (yn y).cls (yn y).name (ml y) (cn y) d K (P y)) (hR : ∀ y, zz_RO (cn y) (rt y) (P y)) (hy : ∀ y, plainFor (yn y) = true) :
    ∀ d : Nat, zz_KS l D cl fk cy z0 sp tys G yn (fun y => Cond.code (yn y) (cn y) (ml y) (rt y) :: Ts) d (zz_cl P ml d)
  | 0 => fun y as w rv w' h => by cases h
  | d + 1 => fun y as w rv w' h => by
    have h : zz_rn (P y) (ml y) (zz_cl P ml d) as w = some (rv, w') := h
    unfold zz_rn at h
    obtain ⟨ha, h⟩ := zz_cond h
    cases hf : zz_it (P y) (zz_cl P ml d) 30 (0, lv_args 0 as, [], w) with
    | none => rw [hf] at h; cases h
    | some f =>
      rw [hf] at h
      have h : zz_rt (P y) f = some (rv, w') := h
      have hB := zz_it_B (hP d _ (zz_KS_allF hP hR hy d) y) 30 hf
      obtain ⟨hrv, e1, hend⟩ := zz_rt_ok (l := l) (z0 := z0) (sp := sp) (hR y) h
      subst e1
      refine ⟨hB.1, hrv, ?_⟩
      refine va_MetF (cc := cn y) (maxL := ml y) (ret := rt y) (hy y) rfl ?_
      intro p e s m args below meth c s₁ B hml hv
      obtain ⟨rfl, hI, hK, hG⟩ := hv
      have hts := atoms_spec (ws := Cond.code (yn y) (cn y) (ml y) (rt y) :: Ts) B.pre
      have X : zz_X Ts D cl tys G (yn y).cls (yn y).name (ml y) (cn y) p s m (zz_sv z0 sp as).toArray meth c := ⟨B.exec, B.bytes, hml, findClass_of_methodNamed B.named, fun w hw => hts w (List.mem_cons_of_mem _ hw), hK, B.notSynchronized, (name_of_methodNamed B.named B.method).1, hG⟩
      have hl := lv_entry (zz_sv z0 sp as) (n := ml y) (by rw [zz_lg_len, zz_cs_svv]; exact zz_ble ha)
      rw [zz_lv_args] at hl
      rw [lg_entry_eq]
      have k1 := hB.2 p e (headSpec (Cond.code (yn y) (cn y) (ml y) (rt y) :: Ts) { frames := d + 1, cells := f.2.2.2.1 - w.1, slots := f.2.2.2.2.1 - w.2.1, locals := 64 * (d + 1) }).room s m (zz_sv z0 sp as).toArray below meth c X (Nat.le_refl _) (Nat.le_refl _) s.heap [] w.1 w.2.1 (MQ below (zz_Qc D cl fk cy z0 sp rv f.2.2.2) (zz_sv z0 sp as).toArray s (f.2.2.2.1 - w.1) (f.2.2.2.2.1 - w.2.1) (fun q => z0 ≤ q)) _ hI va_S.rf hl (Nat.le_refl _) (Nat.le_refl _) (Nat.le_refl _) (Nat.le_refl _) (fun H' locs' ls' hI' hS' hl' => hend p e _ s m _ below meth c H' locs' _ _ ls' _ _ B.exec B.bytes B.returns B.notSynchronized (fun t ht _ => ⟨⟨rfl, by rw [ht]; exact hI'⟩, hS'.F ht⟩) hS'.2.2)
      have k2 : W p l e (headSpec (Cond.code (yn y) (cn y) (ml y) (rt y) :: Ts) { frames := d + 1, cells := f.2.2.2.1 - w.1, slots := f.2.2.2.2.1 - w.2.1, locals := 64 * (d + 1) }).room s m (zz_sv z0 sp as).toArray below meth c s.heap [] (w.1 - w.1) (w.2.1 - w.2.1) (MQ below (zz_Qc D cl fk cy z0 sp rv f.2.2.2) (zz_sv z0 sp as).toArray s (f.2.2.2.1 - w.1) (f.2.2.2.2.1 - w.2.1) (fun q => z0 ≤ q)) (F0 m 0 ((lg_sl (zz_sv z0 sp as) ++ List.replicate (ml y - (lg_sl (zz_sv z0 sp as)).length) Slot.unset).toArray) []) := k1
      rw [Nat.sub_self, Nat.sub_self] at k2
      exact k2
end ZMF
end
section
/-! RUNS WHOSE LONG CALLS ARE KNOWN: what a call gives, looked up -/
def zz_eqV (a b : Value) : Bool := match a, b with
  | .ref x, .ref y => Nat.beq x y
  | .int x, .int y => Nat.beq (zz_nI x) (zz_nI y)
  | .null, .null => true
  | _, _ => false
theorem zz_eqV_ok {a b : Value} (h : zz_eqV a b = true) : a = b := by
  unfold zz_eqV at h
  split at h
  · rw [Nat.eq_of_beq_eq_true h]
  · rename_i x y
    have e := Nat.eq_of_beq_eq_true h
    rw [← zz_nI_of x, ← zz_nI_of y, e]
  · rfl
  · cases h
def zz_eqA : List Value → List Value → Bool
  | [], [] => true
  | a :: r, b :: t => zz_eqV a b && zz_eqA r t
  | _, _ => false
theorem zz_eqA_ok : ∀ {a b : List Value}, zz_eqA a b = true → a = b
  | [], [], _ => rfl
  | [], _ :: _, h => by cases h
  | _ :: _, [], h => by cases h
  | a :: r, b :: t, h => by
    obtain ⟨h1, h2⟩ := zz_and (show (zz_eqV a b && zz_eqA r t) = true from h)
    rw [zz_eqV_ok h1, zz_eqA_ok h2]
/-- a run that gives rv and the world w -/
def zz_endv (o : Option (List Value × zz_W)) (rv : List Value) (w : zz_W) : Bool := match o with
  | some q => zz_eqA q.1 rv && zz_eqW q.2 w
  | none => false
theorem zz_endv_ok {o : Option (List Value × zz_W)} {rv : List Value} {w : zz_W} (h : zz_endv o rv w = true) : o = some (rv, w) := by
  unfold zz_endv at h
  split at h
  · rename_i q
    obtain ⟨q1, q2⟩ := q
    obtain ⟨h1, h2⟩ := zz_and h
    have e1 : q1 = rv := zz_eqA_ok h1
    have e2 : q2 = w := zz_eqW_ok h2
    rw [e1, e2]
  · cases h
/-- calls that are known: method, arguments, world; what it gives, the world behind it -/
abbrev zz_Me : Type := Nat × List Value × zz_W × List Value × zz_W
def zz_memo (M : List zz_Me) (K : zz_K) : zz_K := fun y as w => M.foldr (fun e o => cond (Nat.beq y e.1 && (zz_eqA as e.2.1 && zz_eqW w e.2.2.1)) (some (e.2.2.2.1, e.2.2.2.2)) o) (K y as w)
theorem zz_memo_eq {K : zz_K} : ∀ {M : List zz_Me}, (∀ e ∈ M, K e.1 e.2.1 e.2.2.1 = some (e.2.2.2.1, e.2.2.2.2)) → zz_memo M K = K
  | [], _ => rfl
  | e :: r, h => by
    have ih := zz_memo_eq (M := r) (fun x hx => h x (List.mem_cons_of_mem _ hx))
    funext y as w
    have h1 : zz_memo (e :: r) K y as w = cond (Nat.beq y e.1 && (zz_eqA as e.2.1 && zz_eqW w e.2.2.1)) (some (e.2.2.2.1, e.2.2.2.2)) (zz_memo r K y as w) := rfl
    rw [h1, ih]
    cases hc : (Nat.beq y e.1 && (zz_eqA as e.2.1 && zz_eqW w e.2.2.1)) with
    | false => rfl
    | true =>
      obtain ⟨a1, hc⟩ := zz_and hc
      obtain ⟨a2, a3⟩ := zz_and hc
      rw [Nat.eq_of_beq_eq_true a1, zz_eqA_ok a2, zz_eqW_ok a3, h e List.mem_cons_self]
      rfl
theorem zz_cl_memo {P : Nat → zz_T} {ml : Nat → Nat} {d y : Nat} {as rv : List Value} {w w' : zz_W} {M : List zz_Me} (h : ∀ e ∈ M, zz_cl P ml d e.1 e.2.1 e.2.2.1 = some (e.2.2.2.1, e.2.2.2.2)) (hr : zz_endv (zz_rn (P y) (ml y) (zz_memo M (zz_cl P ml d)) as w) rv w' = true) : zz_cl P ml (d + 1) y as w = some (rv, w') := by
  rw [zz_memo_eq h] at hr
  exact zz_endv_ok hr
end
section
/-! WHAT EACH ACTION DOES, as equations over frames that hold variables; worlds changed at one cell -/
/-- the world with cell i made c (there must be such a place) -/
def zz_up (w : zz_W) (i : Nat) (c : zz_C) : zz_W := (w.1, w.2.1, w.2.2.set (i / 16) ((w.2.2.getD (i / 16) []).set (i % 16) c))
/-- so many chunks of 16 cells each -/
def zz_sh (w : zz_W) : Prop := w.2.2.length = 64 ∧ ∀ i, i < 64 → (w.2.2.getD i []).length = 16
theorem zz_up_st {β : Sort _} {w : zz_W} {i : Nat} {c : zz_C} {bad : β} {k : zz_W → β} (h : zz_sh w) (hi : i < 1024) : zz_st w i c bad k = k (zz_up w i c) := by
  unfold zz_st zz_up
  have h1 : i / 16 < 64 := by omega
  rw [zz_ls_eq, if_pos (by rw [h.2 _ h1]; omega), zz_ls_eq, if_pos (by rw [h.1]; exact h1)]
theorem zz_up_sh {w : zz_W} {i : Nat} {c : zz_C} (h : zz_sh w) : zz_sh (zz_up w i c) := by
  refine ⟨?_, fun j hj => ?_⟩
  · show (w.2.2.set _ _).length = 64
    rw [List.length_set]
    exact h.1
  · show ((w.2.2.set (i / 16) ((w.2.2.getD (i / 16) []).set (i % 16) c)).getD j []).length = 16
    rw [List.getD_eq_getElem?_getD]
    by_cases e : i / 16 = j
    · subst e
      rw [List.getElem?_set_self (by rw [h.1]; exact hj)]
      show ((w.2.2.getD (i / 16) []).set (i % 16) c).length = 16
      rw [List.length_set]
      exact h.2 _ hj
    · rw [List.getElem?_set_ne e, ← List.getD_eq_getElem?_getD]
      exact h.2 j hj
theorem zz_up_g {w : zz_W} {i : Nat} {c : zz_C} (h : zz_sh w) (hi : i < 1024) (j : Nat) : zz_g (zz_up w i c) j = if j = i then c else zz_g w j := by
  obtain ⟨w', e1, -, -, e4⟩ := zz_st_ok (w := w) (i := i) (c := c) (k := fun w' => some w') (b := zz_up w i c) (zz_up_st h hi)
  cases e1
  exact e4 j
theorem zz_up_at {w : zz_W} {i : Nat} {c : zz_C} (h : zz_sh w) (hi : i < 1024) : zz_g (zz_up w i c) i = c := by rw [zz_up_g h hi, if_pos rfl]
theorem zz_up_ne {w : zz_W} {i j : Nat} {c : zz_C} (h : zz_sh w) (hi : i < 1024) (hj : j ≠ i) : zz_g (zz_up w i c) j = zz_g w j := by rw [zz_up_g h hi, if_neg hj]
/-- the world holds the cell c at i -/
def zz_has (w : zz_W) (i : Nat) (c : zz_C) : Prop := i < w.1 ∧ i < 1024 ∧ zz_g w i = c
theorem zz_has_up {w : zz_W} {i : Nat} {c c' : zz_C} (h : zz_sh w) (hc : zz_has w i c') : zz_has (zz_up w i c) i c := ⟨hc.1, hc.2.1, zz_up_at h hc.2.1⟩
theorem zz_has_ne {w : zz_W} {i j : Nat} {c c' : zz_C} (h : zz_sh w) (hi : i < 1024) (hc : zz_has w j c') (hj : j ≠ i) : zz_has (zz_up w i c) j c' := ⟨hc.1, hc.2.1, (zz_up_ne h hi hj).trans hc.2.2⟩
theorem zz_has_b {w : zz_W} {i : Nat} {c : zz_C} (h : zz_has w i c) : Nat.blt i w.1 = true ∧ Nat.blt i 1000000 = true := ⟨Nat.ble_eq.mpr h.1, Nat.ble_eq.mpr (by have := h.2.1; omega)⟩
theorem zz_has_o {w : zz_W} {i ci nf N k : Nat} (h : zz_has w i (3, ci, nf, N)) (hk : k < nf) : zz_io w i ci k = true := by
  obtain ⟨b1, b2⟩ := zz_has_b h
  unfold zz_io
  rw [b1, b2, h.2.2]
  show (true && (true && (Nat.beq 3 3 && (Nat.beq ci ci && Nat.blt k nf)))) = true
  rw [Nat.beq_refl ci, show Nat.blt k nf = true from Nat.ble_eq.mpr hk]
  rfl
theorem zz_has_r {w : zz_W} {i kd t n N j : Nat} (h : zz_has w i (kd, t, n, N)) (hj : j < n) (hn : n ≤ 2147483648) : zz_ir w i kd t j = true := by
  obtain ⟨b1, b2⟩ := zz_has_b h
  unfold zz_ir
  rw [b1, b2, h.2.2]
  show (true && (true && (Nat.beq kd kd && (Nat.beq t t && (Nat.blt j n && Nat.ble n 2147483648))))) = true
  rw [Nat.beq_refl kd, Nat.beq_refl t, show Nat.blt j n = true from Nat.ble_eq.mpr hj, show Nat.ble n 2147483648 = true from Nat.ble_eq.mpr hn]
  rfl
theorem zz_has_c {w : zz_W} {i ci nf N : Nat} (h : zz_has w i (3, ci, nf, N)) : zz_ic w i ci = true := by
  obtain ⟨b1, b2⟩ := zz_has_b h
  unfold zz_ic
  rw [b1, b2, h.2.2]
  show (true && (true && (Nat.beq 3 3 && Nat.beq ci ci))) = true
  rw [Nat.beq_refl ci]
  rfl
theorem zz_tk_eq {β : Type} {k : List Value → List Value → Option β} : ∀ {na : Nat} {as rest acc : List Value}, as.length = na → zz_tk na (as.reverse ++ rest) acc k = k (as ++ acc) rest := by
  intro na
  induction na with
  | zero =>
    intro as rest acc h
    have : as = [] := List.length_eq_zero_iff.mp h
    subst this
    rfl
  | succ na ih =>
    intro as rest acc h
    rcases List.eq_nil_or_concat as with e | ⟨as', x, e⟩
    · subst e
      cases h
    · subst e
      have h' : as'.length = na := by simpa using h
      have e1 : (as'.concat x).reverse ++ rest = x :: (as'.reverse ++ rest) := by simp
      rw [e1]
      show zz_tk na (as'.reverse ++ rest) (x :: acc) k = _
      rw [ih h']
      simp
theorem zz_cr_eq {n : Nat} {lv : List (Nat × Value)} {r rv : List Value} {w' : zz_W} (h : rv.length ≤ 1) : zz_cr n lv r (some (rv, w')) = some (n, lv, rv ++ r, w') := by
  match rv, h with
  | [], _ => rfl
  | [x], _ => rfl
  | _ :: _ :: _, h => exact absurd h (by simp)
section ZE
variable {K : zz_K} {n p : Nat} {lv : List (Nat × Value)} {r : List Value} {w : zz_W}
theorem ze_iadd {x : Int32} {y : Int32} {v : Int32} (hv : x + y = v) : za_iadd n K (p, lv, .int y :: .int x :: r, w) = some (n, lv, .int v :: r, w) := by
  subst hv
  exact zz_fI_eq (x + y) (fun z => some ((n, lv, Value.int z :: r, w) : zz_F))
theorem ze_isub {x : Int32} {y : Int32} {v : Int32} (hv : x - y = v) : za_isub n K (p, lv, .int y :: .int x :: r, w) = some (n, lv, .int v :: r, w) := by
  subst hv
  exact zz_fI_eq (x - y) (fun z => some ((n, lv, Value.int z :: r, w) : zz_F))
theorem ze_imul {x : Int32} {y : Int32} {v : Int32} (hv : x * y = v) : za_imul n K (p, lv, .int y :: .int x :: r, w) = some (n, lv, .int v :: r, w) := by
  subst hv
  exact zz_fI_eq (x * y) (fun z => some ((n, lv, Value.int z :: r, w) : zz_F))
theorem ze_iand {x : Int32} {y : Int32} {v : Int32} (hv : x &&& y = v) : za_iand n K (p, lv, .int y :: .int x :: r, w) = some (n, lv, .int v :: r, w) := by
  subst hv
  exact zz_fI_eq (x &&& y) (fun z => some ((n, lv, Value.int z :: r, w) : zz_F))
theorem ze_ior {x : Int32} {y : Int32} {v : Int32} (hv : x ||| y = v) : za_ior n K (p, lv, .int y :: .int x :: r, w) = some (n, lv, .int v :: r, w) := by
  subst hv
  exact zz_fI_eq (x ||| y) (fun z => some ((n, lv, Value.int z :: r, w) : zz_F))
theorem ze_ixor {x : Int32} {y : Int32} {v : Int32} (hv : x ^^^ y = v) : za_ixor n K (p, lv, .int y :: .int x :: r, w) = some (n, lv, .int v :: r, w) := by
  subst hv
  exact zz_fI_eq (x ^^^ y) (fun z => some ((n, lv, Value.int z :: r, w) : zz_F))
theorem ze_ishl {x : Int32} {y : Int32} {v : Int32} (hv : x <<< (y &&& 31) = v) : za_ishl n K (p, lv, .int y :: .int x :: r, w) = some (n, lv, .int v :: r, w) := by
  subst hv
  exact zz_fI_eq (x <<< (y &&& 31)) (fun z => some ((n, lv, Value.int z :: r, w) : zz_F))
theorem ze_ishr {x : Int32} {y : Int32} {v : Int32} (hv : x >>> (y &&& 31) = v) : za_ishr n K (p, lv, .int y :: .int x :: r, w) = some (n, lv, .int v :: r, w) := by
  subst hv
  exact zz_fI_eq (x >>> (y &&& 31)) (fun z => some ((n, lv, Value.int z :: r, w) : zz_F))
theorem ze_iushr {x : Int32} {y : Int32} {v : Int32} (hv : (x.toUInt32 >>> (y.toUInt32 &&& Int32.toUInt32 31)).toInt32 = v) : za_iushr n K (p, lv, .int y :: .int x :: r, w) = some (n, lv, .int v :: r, w) := by
  subst hv
  exact zz_fI_eq ((x.toUInt32 >>> (y.toUInt32 &&& Int32.toUInt32 31)).toInt32) (fun z => some ((n, lv, Value.int z :: r, w) : zz_F))
theorem ze_idiv {x : Int32} {y : Int32} {v : Int32} (hy : ¬ y = 0) (hv : x / y = v) : za_idiv n K (p, lv, .int y :: .int x :: r, w) = some (n, lv, .int v :: r, w) := by
  subst hv
  exact (if_neg hy).trans (zz_fI_eq (x / y) (fun z => some ((n, lv, Value.int z :: r, w) : zz_F)))
theorem ze_irem {x : Int32} {y : Int32} {v : Int32} (hy : ¬ y = 0) (hv : x - x / y * y = v) : za_irem n K (p, lv, .int y :: .int x :: r, w) = some (n, lv, .int v :: r, w) := by
  subst hv
  exact (if_neg hy).trans (zz_fI_eq (x - x / y * y) (fun z => some ((n, lv, Value.int z :: r, w) : zz_F)))
theorem ze_ladd {x : Int64} {y : Int64} {v : Int64} (hv : x + y = v) : za_ladd n K (p, lv, .long y :: .long x :: r, w) = some (n, lv, .long v :: r, w) := by
  subst hv
  exact zz_fL_eq (x + y) (fun z => some ((n, lv, Value.long z :: r, w) : zz_F))
theorem ze_lsub {x : Int64} {y : Int64} {v : Int64} (hv : x - y = v) : za_lsub n K (p, lv, .long y :: .long x :: r, w) = some (n, lv, .long v :: r, w) := by
  subst hv
  exact zz_fL_eq (x - y) (fun z => some ((n, lv, Value.long z :: r, w) : zz_F))
theorem ze_lmul {x : Int64} {y : Int64} {v : Int64} (hv : x * y = v) : za_lmul n K (p, lv, .long y :: .long x :: r, w) = some (n, lv, .long v :: r, w) := by
  subst hv
  exact zz_fL_eq (x * y) (fun z => some ((n, lv, Value.long z :: r, w) : zz_F))
theorem ze_land {x : Int64} {y : Int64} {v : Int64} (hv : x &&& y = v) : za_land n K (p, lv, .long y :: .long x :: r, w) = some (n, lv, .long v :: r, w) := by
  subst hv
  exact zz_fL_eq (x &&& y) (fun z => some ((n, lv, Value.long z :: r, w) : zz_F))
theorem ze_lor {x : Int64} {y : Int64} {v : Int64} (hv : x ||| y = v) : za_lor n K (p, lv, .long y :: .long x :: r, w) = some (n, lv, .long v :: r, w) := by
  subst hv
  exact zz_fL_eq (x ||| y) (fun z => some ((n, lv, Value.long z :: r, w) : zz_F))
theorem ze_lxor {x : Int64} {y : Int64} {v : Int64} (hv : x ^^^ y = v) : za_lxor n K (p, lv, .long y :: .long x :: r, w) = some (n, lv, .long v :: r, w) := by
  subst hv
  exact zz_fL_eq (x ^^^ y) (fun z => some ((n, lv, Value.long z :: r, w) : zz_F))
theorem ze_ldiv {x : Int64} {y : Int64} {v : Int64} (hy : ¬ y = 0) (hv : x / y = v) : za_ldiv n K (p, lv, .long y :: .long x :: r, w) = some (n, lv, .long v :: r, w) := by
  subst hv
  exact (if_neg hy).trans (zz_fL_eq (x / y) (fun z => some ((n, lv, Value.long z :: r, w) : zz_F)))
theorem ze_lrem {x : Int64} {y : Int64} {v : Int64} (hy : ¬ y = 0) (hv : x - x / y * y = v) : za_lrem n K (p, lv, .long y :: .long x :: r, w) = some (n, lv, .long v :: r, w) := by
  subst hv
  exact (if_neg hy).trans (zz_fL_eq (x - x / y * y) (fun z => some ((n, lv, Value.long z :: r, w) : zz_F)))
theorem ze_lshl {x : Int64} {y : Int32} {v : Int64} (hv : x <<< (y.toInt64 &&& 63) = v) : za_lshl n K (p, lv, .int y :: .long x :: r, w) = some (n, lv, .long v :: r, w) := by
  subst hv
  exact zz_fL_eq (x <<< (y.toInt64 &&& 63)) (fun z => some ((n, lv, Value.long z :: r, w) : zz_F))
theorem ze_lshr {x : Int64} {y : Int32} {v : Int64} (hv : x >>> (y.toInt64 &&& 63) = v) : za_lshr n K (p, lv, .int y :: .long x :: r, w) = some (n, lv, .long v :: r, w) := by
  subst hv
  exact zz_fL_eq (x >>> (y.toInt64 &&& 63)) (fun z => some ((n, lv, Value.long z :: r, w) : zz_F))
theorem ze_lushr {x : Int64} {y : Int32} {v : Int64} (hv : (x.toUInt64 >>> (y.toInt64.toUInt64 &&& Int64.toUInt64 63)).toInt64 = v) : za_lushr n K (p, lv, .int y :: .long x :: r, w) = some (n, lv, .long v :: r, w) := by
  subst hv
  exact zz_fL_eq ((x.toUInt64 >>> (y.toInt64.toUInt64 &&& Int64.toUInt64 63)).toInt64) (fun z => some ((n, lv, Value.long z :: r, w) : zz_F))
theorem ze_lcmp {x : Int64} {y : Int64} {v : Int32} (hv : lg_cmp x y = v) : za_lcmp n K (p, lv, .long y :: .long x :: r, w) = some (n, lv, .int v :: r, w) := by
  subst hv
  exact zz_fI_eq (lg_cmp x y) (fun z => some ((n, lv, Value.int z :: r, w) : zz_F))
theorem ze_ineg {x : Int32} {v : Int32} (hv : -x = v) : za_ineg n K (p, lv, .int x :: r, w) = some (n, lv, .int v :: r, w) := by
  subst hv
  exact zz_fI_eq (-x) (fun z => some ((n, lv, Value.int z :: r, w) : zz_F))
theorem ze_i2b {x : Int32} {v : Int32} (hv : x.toInt8.toInt32 = v) : za_i2b n K (p, lv, .int x :: r, w) = some (n, lv, .int v :: r, w) := by
  subst hv
  exact zz_fI_eq (x.toInt8.toInt32) (fun z => some ((n, lv, Value.int z :: r, w) : zz_F))
theorem ze_i2s {x : Int32} {v : Int32} (hv : x.toInt16.toInt32 = v) : za_i2s n K (p, lv, .int x :: r, w) = some (n, lv, .int v :: r, w) := by
  subst hv
  exact zz_fI_eq (x.toInt16.toInt32) (fun z => some ((n, lv, Value.int z :: r, w) : zz_F))
theorem ze_i2c {x : Int32} {v : Int32} (hv : (x.toUInt32 % 65536).toInt32 = v) : za_i2c n K (p, lv, .int x :: r, w) = some (n, lv, .int v :: r, w) := by
  subst hv
  exact zz_fI_eq ((x.toUInt32 % 65536).toInt32) (fun z => some ((n, lv, Value.int z :: r, w) : zz_F))
theorem ze_i2l {x : Int32} {v : Int64} (hv : x.toInt64 = v) : za_i2l n K (p, lv, .int x :: r, w) = some (n, lv, .long v :: r, w) := by
  subst hv
  exact zz_fL_eq (x.toInt64) (fun z => some ((n, lv, Value.long z :: r, w) : zz_F))
theorem ze_l2i {x : Int64} {v : Int32} (hv : x.toInt32 = v) : za_l2i n K (p, lv, .long x :: r, w) = some (n, lv, .int v :: r, w) := by
  subst hv
  exact zz_fI_eq (x.toInt32) (fun z => some ((n, lv, Value.int z :: r, w) : zz_F))
theorem ze_lneg {x : Int64} {v : Int64} (hv : -x = v) : za_lneg n K (p, lv, .long x :: r, w) = some (n, lv, .long v :: r, w) := by
  subst hv
  exact zz_fL_eq (-x) (fun z => some ((n, lv, Value.long z :: r, w) : zz_F))
theorem ze_const {v : Value} : za_const v n K (p, lv, r, w) = some (n, lv, v :: r, w) := rfl
theorem ze_goto : za_goto n K (p, lv, r, w) = some (n, lv, r, w) := rfl
theorem ze_iload {i : Nat} {v : Int32} (h : zz_lg lv i = some (.int v)) : za_iload i n K (p, lv, r, w) = some (n, lv, .int v :: r, w) := by
  unfold za_iload
  show (match zz_lg lv i with | some (.int v) => some (n, lv, Value.int v :: r, w) | _ => none) = _
  rw [h]
theorem ze_lload {i : Nat} {v : Int64} (h : zz_lg lv i = some (.long v)) : za_lload i n K (p, lv, r, w) = some (n, lv, .long v :: r, w) := by
  unfold za_lload
  show (match zz_lg lv i with | some (.long v) => some (n, lv, Value.long v :: r, w) | _ => none) = _
  rw [h]
theorem ze_aload {i b : Nat} (h : zz_lg lv i = some (.ref b)) : za_aload i n K (p, lv, r, w) = some (n, lv, .ref b :: r, w) := by
  unfold za_aload
  show (match zz_lg lv i with | some (.ref v) => some (n, lv, Value.ref v :: r, w) | some .null => some (n, lv, Value.null :: r, w) | _ => none) = _
  rw [h]
theorem ze_aloadN {i : Nat} (h : zz_lg lv i = some .null) : za_aload i n K (p, lv, r, w) = some (n, lv, .null :: r, w) := by
  unfold za_aload
  show (match zz_lg lv i with | some (.ref v) => some (n, lv, Value.ref v :: r, w) | some .null => some (n, lv, Value.null :: r, w) | _ => none) = _
  rw [h]
theorem ze_istore {i : Nat} {v : Int32} {lv' : List (Nat × Value)} (h : lv.filter (zz_lk false i) = lv') : za_istore i n K (p, lv, .int v :: r, w) = some (n, (i, .int v) :: lv', r, w) := by
  subst h
  exact zz_lf_eq _ _ _ _
theorem ze_lstore {i : Nat} {v : Int64} {lv' : List (Nat × Value)} (h : lv.filter (zz_lk true i) = lv') : za_lstore i n K (p, lv, .long v :: r, w) = some (n, (i, .long v) :: lv', r, w) := by
  subst h
  exact zz_lf_eq _ _ _ _
theorem ze_astore {i b : Nat} {lv' : List (Nat × Value)} (h : lv.filter (zz_lk false i) = lv') : za_astore i n K (p, lv, .ref b :: r, w) = some (n, (i, .ref b) :: lv', r, w) := by
  subst h
  exact zz_lf_eq _ _ _ _
theorem ze_iinc {i : Nat} {x c v : Int32} {lv' : List (Nat × Value)} (hx : zz_lg lv i = some (.int x)) (hv : x + c = v) (h : lv.filter (zz_lk false i) = lv') : za_iinc i c n K (p, lv, r, w) = some (n, (i, .int v) :: lv', r, w) := by
  subst h
  subst hv
  unfold za_iinc
  show (match zz_lg lv i with | some (.int x) => zz_fI (x + c) (fun z => zz_lf false i lv (fun l => some ((n, (i, Value.int z) :: l, r, w) : zz_F))) | _ => none) = _
  rw [hx]
  show zz_fI (x + c) (fun z => zz_lf false i lv (fun l => some ((n, (i, Value.int z) :: l, r, w) : zz_F))) = _
  rw [zz_fI_eq, zz_lf_eq]
theorem ze_if_eq_t {t : Nat} {x : Int32} (h : x = 0) : za_if_eq t n K (p, lv, .int x :: r, w) = some (t, lv, r, w) := if_pos h
theorem ze_if_eq_f {t : Nat} {x : Int32} (h : ¬ (x = 0)) : za_if_eq t n K (p, lv, .int x :: r, w) = some (n, lv, r, w) := if_neg h
theorem ze_if_ne_t {t : Nat} {x : Int32} (h : ¬ x = 0) : za_if_ne t n K (p, lv, .int x :: r, w) = some (t, lv, r, w) := if_pos h
theorem ze_if_ne_f {t : Nat} {x : Int32} (h : ¬ (¬ x = 0)) : za_if_ne t n K (p, lv, .int x :: r, w) = some (n, lv, r, w) := if_neg h
theorem ze_if_lt_t {t : Nat} {x : Int32} (h : x < 0) : za_if_lt t n K (p, lv, .int x :: r, w) = some (t, lv, r, w) := if_pos h
theorem ze_if_lt_f {t : Nat} {x : Int32} (h : ¬ (x < 0)) : za_if_lt t n K (p, lv, .int x :: r, w) = some (n, lv, r, w) := if_neg h
theorem ze_if_ge_t {t : Nat} {x : Int32} (h : 0 ≤ x) : za_if_ge t n K (p, lv, .int x :: r, w) = some (t, lv, r, w) := if_pos h
theorem ze_if_ge_f {t : Nat} {x : Int32} (h : ¬ (0 ≤ x)) : za_if_ge t n K (p, lv, .int x :: r, w) = some (n, lv, r, w) := if_neg h
theorem ze_if_gt_t {t : Nat} {x : Int32} (h : 0 < x) : za_if_gt t n K (p, lv, .int x :: r, w) = some (t, lv, r, w) := if_pos h
theorem ze_if_gt_f {t : Nat} {x : Int32} (h : ¬ (0 < x)) : za_if_gt t n K (p, lv, .int x :: r, w) = some (n, lv, r, w) := if_neg h
theorem ze_if_le_t {t : Nat} {x : Int32} (h : x ≤ 0) : za_if_le t n K (p, lv, .int x :: r, w) = some (t, lv, r, w) := if_pos h
theorem ze_if_le_f {t : Nat} {x : Int32} (h : ¬ (x ≤ 0)) : za_if_le t n K (p, lv, .int x :: r, w) = some (n, lv, r, w) := if_neg h
theorem ze_icmp_eq_t {t : Nat} {x y : Int32} (h : x = y) : za_icmp_eq t n K (p, lv, .int y :: .int x :: r, w) = some (t, lv, r, w) := if_pos h
theorem ze_icmp_eq_f {t : Nat} {x y : Int32} (h : ¬ (x = y)) : za_icmp_eq t n K (p, lv, .int y :: .int x :: r, w) = some (n, lv, r, w) := if_neg h
theorem ze_icmp_ne_t {t : Nat} {x y : Int32} (h : ¬ x = y) : za_icmp_ne t n K (p, lv, .int y :: .int x :: r, w) = some (t, lv, r, w) := if_pos h
theorem ze_icmp_ne_f {t : Nat} {x y : Int32} (h : ¬ (¬ x = y)) : za_icmp_ne t n K (p, lv, .int y :: .int x :: r, w) = some (n, lv, r, w) := if_neg h
theorem ze_icmp_lt_t {t : Nat} {x y : Int32} (h : x < y) : za_icmp_lt t n K (p, lv, .int y :: .int x :: r, w) = some (t, lv, r, w) := if_pos h
theorem ze_icmp_lt_f {t : Nat} {x y : Int32} (h : ¬ (x < y)) : za_icmp_lt t n K (p, lv, .int y :: .int x :: r, w) = some (n, lv, r, w) := if_neg h
theorem ze_icmp_ge_t {t : Nat} {x y : Int32} (h : y ≤ x) : za_icmp_ge t n K (p, lv, .int y :: .int x :: r, w) = some (t, lv, r, w) := if_pos h
theorem ze_icmp_ge_f {t : Nat} {x y : Int32} (h : ¬ (y ≤ x)) : za_icmp_ge t n K (p, lv, .int y :: .int x :: r, w) = some (n, lv, r, w) := if_neg h
theorem ze_icmp_gt_t {t : Nat} {x y : Int32} (h : y < x) : za_icmp_gt t n K (p, lv, .int y :: .int x :: r, w) = some (t, lv, r, w) := if_pos h
theorem ze_icmp_gt_f {t : Nat} {x y : Int32} (h : ¬ (y < x)) : za_icmp_gt t n K (p, lv, .int y :: .int x :: r, w) = some (n, lv, r, w) := if_neg h
theorem ze_icmp_le_t {t : Nat} {x y : Int32} (h : x ≤ y) : za_icmp_le t n K (p, lv, .int y :: .int x :: r, w) = some (t, lv, r, w) := if_pos h
theorem ze_icmp_le_f {t : Nat} {x y : Int32} (h : ¬ (x ≤ y)) : za_icmp_le t n K (p, lv, .int y :: .int x :: r, w) = some (n, lv, r, w) := if_neg h
theorem ze_ifnull_f {t b : Nat} : za_ifnull t n K (p, lv, .ref b :: r, w) = some (n, lv, r, w) := rfl
theorem ze_ifnull_t {t : Nat} : za_ifnull t n K (p, lv, .null :: r, w) = some (t, lv, r, w) := rfl
theorem ze_ifnonnull_t {t b : Nat} : za_ifnonnull t n K (p, lv, .ref b :: r, w) = some (t, lv, r, w) := rfl
theorem ze_ifnonnull_f {t : Nat} : za_ifnonnull t n K (p, lv, .null :: r, w) = some (n, lv, r, w) := rfl
theorem ze_dup {v : Value} (h : v.category = 1) : za_dup n K (p, lv, v :: r, w) = some (n, lv, v :: v :: r, w) := if_pos h
theorem ze_pop {v : Value} (h : v.category = 1) : za_pop n K (p, lv, v :: r, w) = some (n, lv, r, w) := if_pos h
theorem ze_dup_x1 {v u : Value} (h : v.category = 1 ∧ u.category = 1) : za_dup_x1 n K (p, lv, v :: u :: r, w) = some (n, lv, v :: u :: v :: r, w) := if_pos h
theorem ze_dup2_11 {v u : Value} (h : v.category = 1 ∧ u.category = 1) : za_dup2_11 n K (p, lv, v :: u :: r, w) = some (n, lv, v :: u :: v :: u :: r, w) := if_pos h
theorem ze_dup2_2 {v : Value} (h : v.category = 2) : za_dup2_2 n K (p, lv, v :: r, w) = some (n, lv, v :: v :: r, w) := if_pos h
theorem ze_tsw_d {lo hi : Int} {dt : Nat} {ts : List Nat} {x : Int32} (h : x.toInt < lo ∨ hi < x.toInt) : za_tsw lo hi dt ts K (p, lv, .int x :: r, w) = some (dt, lv, r, w) := if_pos h
theorem ze_tsw_k {lo hi : Int} {dt t : Nat} {ts : List Nat} {x : Int32} (h : ¬ (x.toInt < lo ∨ hi < x.toInt)) (h2 : ts[(x.toInt - lo).toNat]? = some t) : za_tsw lo hi dt ts K (p, lv, .int x :: r, w) = some (t, lv, r, w) := by
  unfold za_tsw
  show (if x.toInt < lo ∨ hi < x.toInt then some (dt, lv, r, w) else match ts[(x.toInt - lo).toNat]? with | some t => some (t, lv, r, w) | none => none) = _
  rw [if_neg h, h2]
theorem ze_lsw {g : Int → Option Nat} {t : Nat} {x : Int32} (h : g x.toInt = some t) : za_lsw g K (p, lv, .int x :: r, w) = some (t, lv, r, w) := by
  unfold za_lsw
  show (match g x.toInt with | some t => some (t, lv, r, w) | none => none) = _
  rw [h]
theorem ze_getI {ci k i nf N : Nat} {v : Int32} (h : zz_has w i (3, ci, nf, N)) (hk : k < nf) (hv : Int32.ofNat (zz_at 64 N k) = v) : za_getI ci k n K (p, lv, .ref i :: r, w) = some (n, lv, .int v :: r, w) := by
  subst hv
  unfold za_getI
  show cond (zz_io w i ci k) (zz_fN (zz_at 64 (zz_g w i).2.2.2 k) (fun v => some ((n, lv, Value.int (Int32.ofNat v) :: r, w) : zz_F))) none = _
  rw [zz_has_o h hk, h.2.2, zz_fN_eq]
  rfl
theorem ze_getL {ci k i nf N : Nat} {v : Int64} (h : zz_has w i (3, ci, nf, N)) (hk : k < nf) (hv : Int64.ofNat (zz_at 64 N k) = v) : za_getL ci k n K (p, lv, .ref i :: r, w) = some (n, lv, .long v :: r, w) := by
  subst hv
  unfold za_getL
  show cond (zz_io w i ci k) (zz_fN (zz_at 64 (zz_g w i).2.2.2 k) (fun v => some ((n, lv, Value.long (Int64.ofNat v) :: r, w) : zz_F))) none = _
  rw [zz_has_o h hk, h.2.2, zz_fN_eq]
  rfl
theorem ze_getA {ci k i nf N b : Nat} (h : zz_has w i (3, ci, nf, N)) (hk : k < nf) (hv : zz_at 64 N k = b + 1) : za_getA ci k n K (p, lv, .ref i :: r, w) = some (n, lv, .ref b :: r, w) := by
  unfold za_getA
  show cond (zz_io w i ci k) (Nat.casesOn (zz_at 64 (zz_g w i).2.2.2 k) (some ((n, lv, Value.null :: r, w) : zz_F)) (fun v => some ((n, lv, Value.ref v :: r, w) : zz_F))) none = _
  rw [zz_has_o h hk, h.2.2]
  show (Nat.casesOn (zz_at 64 N k) (some ((n, lv, Value.null :: r, w) : zz_F)) (fun v => some ((n, lv, Value.ref v :: r, w) : zz_F)) : Option zz_F) = _
  rw [hv]
theorem ze_getAN {ci k i nf N : Nat} (h : zz_has w i (3, ci, nf, N)) (hk : k < nf) (hv : zz_at 64 N k = 0) : za_getA ci k n K (p, lv, .ref i :: r, w) = some (n, lv, .null :: r, w) := by
  unfold za_getA
  show cond (zz_io w i ci k) (Nat.casesOn (zz_at 64 (zz_g w i).2.2.2 k) (some ((n, lv, Value.null :: r, w) : zz_F)) (fun v => some ((n, lv, Value.ref v :: r, w) : zz_F))) none = _
  rw [zz_has_o h hk, h.2.2]
  show (Nat.casesOn (zz_at 64 N k) (some ((n, lv, Value.null :: r, w) : zz_F)) (fun v => some ((n, lv, Value.ref v :: r, w) : zz_F)) : Option zz_F) = _
  rw [hv]
  rfl
theorem zz_pf_eq {i ci nf N k x : Nat} {kk : zz_W → Option zz_F} (hs : zz_sh w) (h : zz_has w i (3, ci, nf, N)) (hk : k < nf) : zz_pf w i ci k x kk = kk (zz_up w i (3, ci, nf, zz_to 64 N k x)) := by
  unfold zz_pf
  rw [zz_has_o h hk, h.2.2, zz_fN_eq, zz_up_st hs h.2.1]
  rfl
theorem zz_pr_eq {i kd t len N b j x : Nat} {kk : zz_W → Option zz_F} (hs : zz_sh w) (h : zz_has w i (kd, t, len, N)) (hj : j < len) (hl : len ≤ 2147483648) : zz_pr w i kd t b j x kk = kk (zz_up w i (kd, t, len, zz_to b N j x)) := by
  unfold zz_pr
  rw [zz_has_r h hj hl, h.2.2, zz_fN_eq, zz_up_st hs h.2.1]
  rfl
theorem ze_putI {ci k i nf N : Nat} {x : Int32} (hs : zz_sh w) (h : zz_has w i (3, ci, nf, N)) (hk : k < nf) : za_putI ci k n K (p, lv, .int x :: .ref i :: r, w) = some (n, lv, r, zz_up w i (3, ci, nf, zz_to 64 N k (zz_nI x))) := zz_pf_eq hs h hk
theorem ze_putL {ci k i nf N : Nat} {x : Int64} (hs : zz_sh w) (h : zz_has w i (3, ci, nf, N)) (hk : k < nf) : za_putL ci k n K (p, lv, .long x :: .ref i :: r, w) = some (n, lv, r, zz_up w i (3, ci, nf, zz_to 64 N k (zz_nL x))) := zz_pf_eq hs h hk
theorem ze_putZ {ci k i nf N : Nat} {x : Int32} (hs : zz_sh w) (h : zz_has w i (3, ci, nf, N)) (hk : k < nf) (hx : zz_nI x < 2) : za_putZ ci k n K (p, lv, .int x :: .ref i :: r, w) = some (n, lv, r, zz_up w i (3, ci, nf, zz_to 64 N k (zz_nI x))) := by
  unfold za_putZ
  show cond (Nat.blt (zz_nI x) 2) (zz_pf w i ci k (zz_nI x) (fun w => some ((n, lv, r, w) : zz_F))) none = _
  rw [show Nat.blt (zz_nI x) 2 = true from Nat.ble_eq.mpr hx]
  exact zz_pf_eq hs h hk
theorem ze_putA {ci k i nf N b : Nat} (hs : zz_sh w) (h : zz_has w i (3, ci, nf, N)) (hk : k < nf) (hb : b < 4000000) : za_putA ci k n K (p, lv, .ref b :: .ref i :: r, w) = some (n, lv, r, zz_up w i (3, ci, nf, zz_to 64 N k (b + 1))) := by
  unfold za_putA
  show cond (Nat.blt b 4000000) (zz_pf w i ci k (b + 1) (fun w => some ((n, lv, r, w) : zz_F))) none = _
  rw [show Nat.blt b 4000000 = true from Nat.ble_eq.mpr hb]
  exact zz_pf_eq hs h hk
theorem ze_aldI {t i len N : Nat} {j : Int32} {v : Int32} (h : zz_has w i (0, t, len, N)) (hj : zz_nI j < len) (hl : len ≤ 2147483648) (hv : Int32.ofNat (zz_at 32 N (zz_nI j)) = v) : za_aldI t n K (p, lv, .int j :: .ref i :: r, w) = some (n, lv, .int v :: r, w) := by
  subst hv
  unfold za_aldI
  show cond (zz_ir w i 0 t (zz_nI j)) (zz_fN (zz_at 32 (zz_g w i).2.2.2 (zz_nI j)) (fun v => some ((n, lv, Value.int (Int32.ofNat v) :: r, w) : zz_F))) none = _
  rw [zz_has_r h hj hl, h.2.2, zz_fN_eq]
  rfl
theorem ze_aldL {t i len N : Nat} {j : Int32} {v : Int64} (h : zz_has w i (1, t, len, N)) (hj : zz_nI j < len) (hl : len ≤ 2147483648) (hv : Int64.ofNat (zz_at 64 N (zz_nI j)) = v) : za_aldL t n K (p, lv, .int j :: .ref i :: r, w) = some (n, lv, .long v :: r, w) := by
  subst hv
  unfold za_aldL
  show cond (zz_ir w i 1 t (zz_nI j)) (zz_fN (zz_at 64 (zz_g w i).2.2.2 (zz_nI j)) (fun v => some ((n, lv, Value.long (Int64.ofNat v) :: r, w) : zz_F))) none = _
  rw [zz_has_r h hj hl, h.2.2, zz_fN_eq]
  rfl
theorem ze_aldA {t i len N b : Nat} {j : Int32} (h : zz_has w i (2, t, len, N)) (hj : zz_nI j < len) (hl : len ≤ 2147483648) (hv : zz_at 32 N (zz_nI j) = b + 1) : za_aldA t n K (p, lv, .int j :: .ref i :: r, w) = some (n, lv, .ref b :: r, w) := by
  unfold za_aldA
  show cond (zz_ir w i 2 t (zz_nI j)) (Nat.casesOn (zz_at 32 (zz_g w i).2.2.2 (zz_nI j)) (some ((n, lv, Value.null :: r, w) : zz_F)) (fun v => some ((n, lv, Value.ref v :: r, w) : zz_F))) none = _
  rw [zz_has_r h hj hl, h.2.2]
  show (Nat.casesOn (zz_at 32 N (zz_nI j)) (some ((n, lv, Value.null :: r, w) : zz_F)) (fun v => some ((n, lv, Value.ref v :: r, w) : zz_F)) : Option zz_F) = _
  rw [hv]
theorem ze_alen {t i kd len N : Nat} {v : Int32} (h : zz_has w i (kd, t, len, N)) (hk : kd < 3) (hv : Int32.ofNat len = v) : za_alen t n K (p, lv, .ref i :: r, w) = some (n, lv, .int v :: r, w) := by
  subst hv
  obtain ⟨b1, b2⟩ := zz_has_b h
  unfold za_alen
  show cond (Nat.blt i w.1 && (Nat.blt i 1000000 && (Nat.blt (zz_g w i).1 3 && Nat.beq (zz_g w i).2.1 t))) (zz_fN (zz_g w i).2.2.1 (fun v => some ((n, lv, Value.int (Int32.ofNat v) :: r, w) : zz_F))) none = _
  rw [b1, b2, h.2.2, zz_fN_eq]
  show cond (true && (true && (Nat.blt kd 3 && Nat.beq t t))) (some ((n, lv, Value.int (Int32.ofNat len) :: r, w) : zz_F)) none = _
  rw [Nat.beq_refl t, show Nat.blt kd 3 = true from Nat.ble_eq.mpr hk]
  rfl
theorem ze_astI {t i len N : Nat} {j x : Int32} (hs : zz_sh w) (h : zz_has w i (0, t, len, N)) (hj : zz_nI j < len) (hl : len ≤ 2147483648) : za_astI t n K (p, lv, .int x :: .int j :: .ref i :: r, w) = some (n, lv, r, zz_up w i (0, t, len, zz_to 32 N (zz_nI j) (zz_nI x))) := zz_pr_eq hs h hj hl
theorem ze_astB {t i len N : Nat} {j x : Int32} (hs : zz_sh w) (h : zz_has w i (0, t, len, N)) (hj : zz_nI j < len) (hl : len ≤ 2147483648) : za_astB t n K (p, lv, .int x :: .int j :: .ref i :: r, w) = some (n, lv, r, zz_up w i (0, t, len, zz_to 32 N (zz_nI j) (zz_nI x.toInt8.toInt32))) := zz_pr_eq hs h hj hl
theorem ze_astL {t i len N : Nat} {x : Int64} {j : Int32} (hs : zz_sh w) (h : zz_has w i (1, t, len, N)) (hj : zz_nI j < len) (hl : len ≤ 2147483648) : za_astL t n K (p, lv, .long x :: .int j :: .ref i :: r, w) = some (n, lv, r, zz_up w i (1, t, len, zz_to 64 N (zz_nI j) (zz_nL x))) := zz_pr_eq hs h hj hl
theorem ze_kl {g : Nat → Nat → Option Nat} {i : Nat} {j v : Int32} {q : Nat} (h : g i (zz_nI j) = some q) (hv : Int32.ofNat q = v) : za_kl g n K (p, lv, .int j :: .ref i :: r, w) = some (n, lv, .int v :: r, w) := by
  subst hv
  unfold za_kl
  show (match g i (zz_nI j) with | some v => zz_fN v (fun v => some ((n, lv, Value.int (Int32.ofNat v) :: r, w) : zz_F)) | none => none) = _
  rw [h]
  exact zz_fN_eq _ _
theorem ze_kn {g : Nat → Option Nat} {i : Nat} {v : Int32} {q : Nat} (h : g i = some q) (hv : Int32.ofNat q = v) : za_kn g n K (p, lv, .ref i :: r, w) = some (n, lv, .int v :: r, w) := by
  subst hv
  unfold za_kn
  show (match g i with | some v => zz_fN v (fun v => some ((n, lv, Value.int (Int32.ofNat v) :: r, w) : zz_F)) | none => none) = _
  rw [h]
  exact zz_fN_eq _ _
theorem ze_kf {g : Nat → Option Value} {i : Nat} {v : Value} (h : g i = some v) : za_kf g n K (p, lv, .ref i :: r, w) = some (n, lv, v :: r, w) := by
  unfold za_kf
  show (match g i with | some v => some ((n, lv, v :: r, w) : zz_F) | none => none) = _
  rw [h]
/-- a new cell -/
def zz_pu (w : zz_W) (c : zz_C) (N : Nat) : zz_W := (w.1 + 1, w.2.1 + N, (zz_up w w.1 c).2.2)
theorem zz_pu_sh {c : zz_C} {N : Nat} (h : zz_sh w) : zz_sh (zz_pu w c N) := zz_up_sh h
theorem zz_pu_g {c : zz_C} {N : Nat} (h : zz_sh w) (hi : w.1 < 1024) (j : Nat) : zz_g (zz_pu w c N) j = if j = w.1 then c else zz_g w j := zz_up_g h hi j
theorem zz_has_pu {c : zz_C} {N : Nat} (h : zz_sh w) (hi : w.1 < 1024) : zz_has (zz_pu w c N) w.1 c := ⟨Nat.lt_succ_self _, hi, by rw [zz_pu_g h hi, if_pos rfl]⟩
theorem zz_has_old {c c' : zz_C} {N i : Nat} (h : zz_sh w) (hi : w.1 < 1024) (hc : zz_has w i c') : zz_has (zz_pu w c N) i c' := ⟨Nat.lt_succ_of_lt hc.1, hc.2.1, by rw [zz_pu_g h hi, if_neg (Nat.ne_of_lt hc.1)]; exact hc.2.2⟩
theorem zz_nw_eq {c : zz_C} {N : Nat} {kk : zz_W → Option zz_F} (hs : zz_sh w) (hi : w.1 < 1024) : zz_nw w c N kk = kk (zz_pu w c N) := by
  unfold zz_nw
  rw [show Nat.blt w.1 1000000 = true from Nat.ble_eq.mpr (by omega), zz_up_st hs hi, zz_fN_eq, zz_fN_eq]
  rfl
theorem ze_newa {kd t q : Nat} {x : Int32} (hs : zz_sh w) (hi : w.1 < 1024) (hx : zz_nI x = q) (hq : q ≤ 1000000) : za_newa kd t n K (p, lv, .int x :: r, w) = some (n, lv, .ref w.1 :: r, zz_pu w (kd, t, q, 0) q) := by
  subst hx
  unfold za_newa
  show zz_fN (zz_nI x) (fun N => cond (Nat.ble N 1000000) (zz_nw w (kd, t, N, 0) N (fun w' => some ((n, lv, Value.ref w.1 :: r, w') : zz_F))) none) = _
  rw [zz_fN_eq, Nat.ble_eq.mpr hq]
  show zz_nw w (kd, t, zz_nI x, 0) (zz_nI x) (fun w' => some ((n, lv, Value.ref w.1 :: r, w') : zz_F)) = _
  exact zz_nw_eq hs hi
theorem ze_callV {ci y na b : Nat} {as st rv : List Value} {w' : zz_W} (hst : st = as.reverse ++ .ref b :: r) (hna : as.length = na) (hb : zz_ic w b ci = true) (hr : zz_cs r ≤ 8) (hrv : rv.length ≤ 1) (hK : K y (.ref b :: as) w = some (rv, w')) : za_callV ci y na n K (p, lv, st, w) = some (n, lv, rv ++ r, w') := by
  subst hst
  unfold za_callV
  show zz_tk na (as.reverse ++ .ref b :: r) [] _ = _
  rw [zz_tk_eq hna]
  show cond (zz_ic w b ci && Nat.ble (zz_cs r) 8) (zz_cr n lv r (K y (.ref b :: (as ++ [])) w)) none = _
  rw [List.append_nil, hb, Nat.ble_eq.mpr hr, hK]
  exact zz_cr_eq hrv
theorem ze_callS {y na : Nat} {as st rv : List Value} {w' : zz_W} (hst : st = as.reverse ++ r) (hna : as.length = na) (hr : zz_cs r ≤ 8) (hrv : rv.length ≤ 1) (hK : K y as w = some (rv, w')) : za_callS y na n K (p, lv, st, w) = some (n, lv, rv ++ r, w') := by
  subst hst
  unfold za_callS
  show zz_tk na (as.reverse ++ r) [] _ = _
  rw [zz_tk_eq hna]
  show cond (Nat.ble (zz_cs r) 8) (zz_cr n lv r (K y (as ++ []) w)) none = _
  rw [List.append_nil, Nat.ble_eq.mpr hr, hK]
  exact zz_cr_eq hrv
end ZE
end
section
/-! WALKS: contracts of methods that were walked step by step over frames with variables in them -/
/-- the method y, called with as in the world w, gives rv and the world w' -/
def zz_M (l : Launch) (Ts : List Cond) (D : va_G) (cl : List vw_C) (fk : Nat → Nat → Nat) (cy : Nat → ClassId) (z0 : Nat) (sp : Nat → Nat) (tys : List (ClassId × FieldType)) (G : State → Prop) (yn : Nat → MethodName) (cn : Nat → ByteArray) (ml : Nat → Nat) (rt : Nat → Option FieldType) (d y : Nat) (as : List Value) (w : zz_W) (rv : List Value) (w' : zz_W) : Prop :=
  (w.1 ≤ w'.1 ∧ w.2.1 ≤ w'.2.1) ∧ rv.length ≤ 1 ∧
    Met l (yn y) (Cond.code (yn y) (cn y) (ml y) (rt y) :: Ts) { frames := d, cells := w'.1 - w.1, slots := w'.2.1 - w.2.1, locals := 64 * d } (zz_Pc D cl fk cy z0 sp tys G as w) (zz_Qc D cl fk cy z0 sp rv w') (w'.1 - w.1) (w'.2.1 - w.2.1) (fun q => z0 ≤ q)
/-- calls: one is known -/
noncomputable def zz_k1 (y : Nat) (as : List Value) (w : zz_W) (q : List Value × zz_W) : zz_K := fun y' as' w' => @ite _ (y' = y ∧ as' = as ∧ w' = w) (Classical.propDecidable _) (some q) none
def zz_k0 : zz_K := fun _ _ _ => none
theorem zz_k1_at {y : Nat} {as : List Value} {w : zz_W} {q : List Value × zz_W} : zz_k1 y as w q y as w = some q := by
  unfold zz_k1
  rw [if_pos ⟨rfl, rfl, rfl⟩]
/-- what a return at pc with st on the stack owes -/
def zz_end (l : Launch) (z0 : Nat) (sp : Nat → Nat) (cc : ByteArray) (rt : Option FieldType) (pc : Nat) (st rv : List Value) : Prop :=
  ∀ (p : Program) (e : Env) (R : Room) (s : State) (m : MethodId) (args : Array Value) (below : List Frame) (meth : Method) (c : Code) (H : Heap) (locs : List Loc) (cells slots : Nat) (ls : Array Slot) (Qc : Array Value → State → Outcome → State → Prop) (free : Addr → Prop),
    p.tables.exec = Jvm.exec → c.code = cc → meth.sig.returnType = rt → meth.locks = false → (∀ t : State, t.heap = H → s.WarmedH t.vm → Qc args s (.returned (zz_sv z0 sp rv).head?) t) → (∀ q ∈ locs, free q.base) →
    W p l e R s m args below meth c H locs cells slots (MQ below Qc args s cells slots free) (F0 m pc ls (zz_sv z0 sp st))
section ZQ
variable {l : Launch} {Ts : List Cond} {D : va_G} {cl : List vw_C} {fk : Nat → Nat → Nat} {cy : Nat → ClassId} {z0 : Nat} {sp : Nat → Nat} {tys : List (ClassId × FieldType)} {G : State → Prop} {own mn : String} {nL : Nat} {cc : ByteArray} {d : Nat} {pc : Nat}
variable {yn : Nat → MethodName} {cn : Nat → ByteArray} {ml : Nat → Nat} {rt : Nat → Option FieldType}
theorem zz_end_v (hd : decode cc pc = .ok (.return_, 1)) : zz_end l z0 sp cc none pc [] [] :=
  fun _ _ _ _ _ _ _ _ _ _ _ _ _ _ _ _ hx hb hr hlocks hq hf => W.vret hx hb hr hq hf hd hlocks
theorem zz_end_i {v : Int32} (hd : decode cc pc = .ok (.ireturn, 1)) : zz_end l z0 sp cc (some .int) pc [.int v] [.int v] :=
  fun _ _ _ _ _ _ _ _ _ _ _ _ _ _ _ _ hx hb hr hlocks hq hf => W.iret hx hb hr hq hf hd hlocks
theorem zz_end_z {v : Int32} (hd : decode cc pc = .ok (.ireturn, 1)) (hv : zz_nI v < 2) : zz_end l z0 sp cc (some .boolean) pc [.int v] [.int v] :=
  fun _ _ _ _ _ _ _ _ _ _ _ _ _ _ _ _ hx hb hr hlocks hq hf => W.zret (ty := .boolean) hx hb hr (by rcases zz_b01 hv with rfl | rfl <;> rfl) hq hf hd hlocks
theorem zz_end_c {v : Int32} (hd : decode cc pc = .ok (.ireturn, 1)) (hv : zz_nI v < 65536) : zz_end l z0 sp cc (some .char) pc [.int v] [.int v] :=
  fun _ _ _ _ _ _ _ _ _ _ _ _ _ _ _ _ hx hb hr hlocks hq hf => W.zret (ty := .char) hx hb hr (by rw [← zz_nI_of v]; exact (pk_charN hv).1) hq hf hd hlocks
theorem zz_end_a {b : Nat} {t : FieldType} (hd : decode cc pc = .ok (.areturn, 1)) (ht : (∃ n, t = .object n) ∨ ∃ u, t = .array u) : zz_end l z0 sp cc (some t) pc [.ref b] [.ref b] :=
  fun _ _ _ _ _ _ _ _ _ _ _ _ _ _ _ _ hx hb hr hlocks hq hf => W.aret hx hb hr ht (Or.inr ⟨_, rfl⟩) hq hf hd hlocks
theorem zz_k0_KS : zz_KS l D cl fk cy z0 sp tys G yn (fun y => Cond.code (yn y) (cn y) (ml y) (rt y) :: Ts) d zz_k0 := fun _ _ _ _ _ h => by cases h
theorem zz_k1_KS {y : Nat} {as rv : List Value} {w w' : zz_W} (h : zz_M l Ts D cl fk cy z0 sp tys G yn cn ml rt d y as w rv w') : zz_KS l D cl fk cy z0 sp tys G yn (fun y => Cond.code (yn y) (cn y) (ml y) (rt y) :: Ts) d (zz_k1 y as w (rv, w')) := by
  intro y9 as9 w9 rv9 w9' h9
  unfold zz_k1 at h9
  by_cases hc : y9 = y ∧ as9 = as ∧ w9 = w
  · rw [if_pos hc] at h9
    cases h9
    obtain ⟨rfl, rfl, rfl⟩ := hc
    exact h
  · rw [if_neg hc] at h9
    cases h9
/-- one step -/
theorem zz_sg {T : zz_T} {K : zz_K} {act : zz_A} {fr : List (Nat × Value) × List Value × zz_W} {f' g : zz_F} (hT : zz_TO l Ts D cl fk cy z0 sp tys G own mn nL cc d K T) (he : zz_ent T pc = (0, act)) (h : act K (pc, fr) = some f')
    (k : zz_B l Ts D cl fk cy z0 sp tys G own mn nL cc d f' g) : zz_B l Ts D cl fk cy z0 sp tys G own mn nL cc d (pc, fr) g := by
  have h1 : (zz_ent T pc).1 = 0 := by rw [he]
  have h2 : (zz_ent T pc).2 = act := by rw [he]
  exact zz_B_tr (zz_O_B (hT pc h1) rfl (by rw [h2]; exact h)) k
/-- a call whose contract is known -/
theorem zz_sV {T : zz_T} {ci y na n b : Nat} {lv : List (Nat × Value)} {st as r rv : List Value} {w w' : zz_W} {g : zz_F} (hT : ∀ K, zz_KS l D cl fk cy z0 sp tys G yn (fun y => Cond.code (yn y) (cn y) (ml y) (rt y) :: Ts) d K → zz_TO l Ts D cl fk cy z0 sp tys G own mn nL cc d K T) (he : zz_ent T pc = (0, za_callV ci y na n))
    (hM : zz_M l Ts D cl fk cy z0 sp tys G yn cn ml rt d y (.ref b :: as) w rv w') (hst : st = as.reverse ++ .ref b :: r) (hna : as.length = na) (hb : zz_ic w b ci = true) (hr : zz_cs r ≤ 8)
    (k : zz_B l Ts D cl fk cy z0 sp tys G own mn nL cc d (n, lv, rv ++ r, w') g) : zz_B l Ts D cl fk cy z0 sp tys G own mn nL cc d (pc, lv, st, w) g :=
  zz_sg (hT _ (zz_k1_KS hM)) he (ze_callV hst hna hb hr hM.2.1 zz_k1_at) k
theorem zz_sS {T : zz_T} {y na n : Nat} {lv : List (Nat × Value)} {st as r rv : List Value} {w w' : zz_W} {g : zz_F} (hT : ∀ K, zz_KS l D cl fk cy z0 sp tys G yn (fun y => Cond.code (yn y) (cn y) (ml y) (rt y) :: Ts) d K → zz_TO l Ts D cl fk cy z0 sp tys G own mn nL cc d K T) (he : zz_ent T pc = (0, za_callS y na n))
    (hM : zz_M l Ts D cl fk cy z0 sp tys G yn cn ml rt d y as w rv w') (hst : st = as.reverse ++ r) (hna : as.length = na) (hr : zz_cs r ≤ 8)
    (k : zz_B l Ts D cl fk cy z0 sp tys G own mn nL cc d (n, lv, rv ++ r, w') g) : zz_B l Ts D cl fk cy z0 sp tys G own mn nL cc d (pc, lv, st, w) g :=
  zz_sg (hT _ (zz_k1_KS hM)) he (ze_callS hst hna hr hM.2.1 zz_k1_at) k
/-- a body that comes to a return is a contract -/
theorem zz_M_B {y pc' : Nat} {lv' : List (Nat × Value)} {as st rv : List Value} {w w' : zz_W} {rtx : Option FieldType} (e1 : (yn y).cls = own) (e2 : (yn y).name = mn) (e3 : ml y = nL) (e4 : cn y = cc) (e5 : rt y = rtx) (hy : plainFor (yn y) = true) (ha : zz_cs as ≤ nL) (hrv : rv.length ≤ 1)
    (hend : zz_end l z0 sp cc rtx pc' st rv) (hB : zz_B l Ts D cl fk cy z0 sp tys G own mn nL cc d (0, lv_args 0 as, [], w) (pc', lv', st, w')) : zz_M l Ts D cl fk cy z0 sp tys G yn cn ml rt (d + 1) y as w rv w' := by
  subst e1 e2 e3 e4 e5
  refine ⟨hB.1, hrv, ?_⟩
  refine va_MetF (cc := cn y) (maxL := ml y) (ret := rt y) hy rfl ?_
  intro p e s m args below meth c s₁ B hml hv
  obtain ⟨rfl, hI, hK, hG⟩ := hv
  have hts := atoms_spec (ws := Cond.code (yn y) (cn y) (ml y) (rt y) :: Ts) B.pre
  have X : zz_X Ts D cl tys G (yn y).cls (yn y).name (ml y) (cn y) p s m (zz_sv z0 sp as).toArray meth c := ⟨B.exec, B.bytes, hml, findClass_of_methodNamed B.named, fun w hw => hts w (List.mem_cons_of_mem _ hw), hK, B.notSynchronized, (name_of_methodNamed B.named B.method).1, hG⟩
  have hl := lv_entry (zz_sv z0 sp as) (n := ml y) (by rw [zz_lg_len, zz_cs_svv]; exact ha)
  rw [zz_lv_args] at hl
  rw [lg_entry_eq]
  have k1 := hB.2 p e (headSpec (Cond.code (yn y) (cn y) (ml y) (rt y) :: Ts) { frames := d + 1, cells := w'.1 - w.1, slots := w'.2.1 - w.2.1, locals := 64 * (d + 1) }).room s m (zz_sv z0 sp as).toArray below meth c X (Nat.le_refl _) (Nat.le_refl _) s.heap [] w.1 w.2.1 (MQ below (zz_Qc D cl fk cy z0 sp rv w') (zz_sv z0 sp as).toArray s (w'.1 - w.1) (w'.2.1 - w.2.1) (fun q => z0 ≤ q)) _ hI va_S.rf hl (Nat.le_refl _) (Nat.le_refl _) (Nat.le_refl _) (Nat.le_refl _) (fun H' locs' ls' hI' hS' hl' => hend p e _ s m _ below meth c H' locs' _ _ ls' _ _ B.exec B.bytes B.returns B.notSynchronized (fun t ht _ => ⟨⟨rfl, by rw [ht]; exact hI'⟩, hS'.F ht⟩) hS'.2.2)
  have k2 : W p l e (headSpec (Cond.code (yn y) (cn y) (ml y) (rt y) :: Ts) { frames := d + 1, cells := w'.1 - w.1, slots := w'.2.1 - w.2.1, locals := 64 * (d + 1) }).room s m (zz_sv z0 sp as).toArray below meth c s.heap [] (w.1 - w.1) (w.2.1 - w.2.1) (MQ below (zz_Qc D cl fk cy z0 sp rv w') (zz_sv z0 sp as).toArray s (w'.1 - w.1) (w'.2.1 - w.2.1) (fun q => z0 ≤ q)) (F0 m 0 ((lg_sl (zz_sv z0 sp as) ++ List.replicate (ml y - (lg_sl (zz_sv z0 sp as)).length) Slot.unset).toArray) []) := k1
  rw [Nat.sub_self, Nat.sub_self] at k2
  exact k2
end ZQ
/-! THROWS over the abstract machine -/
/-- the world behind a throw of E -/
def zz_XC (D : va_G) (cl : List vw_C) (fk : Nat → Nat → Nat) (cy : Nat → ClassId) (z0 : Nat) (sp : Nat → Nat) (E : String) (w' : zz_W) : String → State → State → Prop := fun E' st t => E' = E ∧ zz_I D cl fk cy z0 sp w' t.heap ∧ va_F (fun q : Nat => z0 ≤ q) st t
/-- the method y, called with as in the world w, throws an E, the world is then w' -/
def zz_MX (l : Launch) (Ts : List Cond) (D : va_G) (cl : List vw_C) (fk : Nat → Nat → Nat) (cy : Nat → ClassId) (z0 : Nat) (sp : Nat → Nat) (tys : List (ClassId × FieldType)) (G : State → Prop) (yn : Nat → MethodName) (cn : Nat → ByteArray) (ml : Nat → Nat) (rt : Nat → Option FieldType) (d y : Nat) (as : List Value) (w : zz_W) (E : String) (w' : zz_W) : Prop :=
  (w.1 ≤ w'.1 ∧ w.2.1 ≤ w'.2.1) ∧
    vx_Met l (yn y) (Cond.code (yn y) (cn y) (ml y) (rt y) :: Ts) { frames := d, cells := w'.1 - w.1, slots := w'.2.1 - w.2.1, locals := 64 * d } (zz_Pc D cl fk cy z0 sp tys G as w) (fun _ _ _ _ => False) (zz_XC D cl fk cy z0 sp E w') (w'.1 - w.1) (w'.2.1 - w.2.1) (fun q => z0 ≤ q)
/-- from the frame f the method throws an E out of itself -/
def zz_TX (l : Launch) (Ts : List Cond) (D : va_G) (cl : List vw_C) (fk : Nat → Nat → Nat) (cy : Nat → ClassId) (z0 : Nat) (sp : Nat → Nat) (tys : List (ClassId × FieldType)) (G : State → Prop) (own mn : String) (nL : Nat) (cc : ByteArray) (d : Nat) (f : zz_F) (E : String) (w' : zz_W) : Prop :=
  (f.2.2.2.1 ≤ w'.1 ∧ f.2.2.2.2.1 ≤ w'.2.1) ∧
  ∀ (p : Program) (e : Env) (R : Room) (s : State) (m : MethodId) (args : Array Value) (below : List Frame) (meth : Method) (c : Code), zz_X Ts D cl tys G own mn nL cc p s m args meth c → d + 1 ≤ R.frames → 64 * (d + 1) ≤ R.locals → (∀ x ∈ c.exceptionTable.toList, False) →
  ∀ (H : Heap) (locs : List Loc) (n0 s0 : Nat) (ls : Array Slot), zz_I D cl fk cy z0 sp f.2.2.2 H → va_S (fun q : Nat => z0 ≤ q) s.heap H locs → lv_has ls nL (zz_lv z0 sp f.2.1) →
    n0 ≤ f.2.2.2.1 → s0 ≤ f.2.2.2.2.1 → w'.1 - n0 ≤ R.cells → w'.2.1 - s0 ≤ R.slots →
    W p l e R s m args below meth c H locs (f.2.2.2.1 - n0) (f.2.2.2.2.1 - s0) (vx_MQ below (fun _ _ _ _ => False) (zz_XC D cl fk cy z0 sp E w') args s (w'.1 - n0) (w'.2.1 - s0) (fun q => z0 ≤ q)) (F0 m f.1 ls (zz_sv z0 sp f.2.2.1))
section ZTX
variable {l : Launch} {Ts : List Cond} {D : va_G} {cl : List vw_C} {fk : Nat → Nat → Nat} {cy : Nat → ClassId} {z0 : Nat} {sp : Nat → Nat} {tys : List (ClassId × FieldType)} {G : State → Prop} {own mn : String} {nL : Nat} {cc : ByteArray} {d : Nat} {pc : Nat}
variable {yn : Nat → MethodName} {cn : Nat → ByteArray} {ml : Nat → Nat} {rt : Nat → Option FieldType}
theorem zz_TX_B {f g : zz_F} {E : String} {w' : zz_W} (h1 : zz_B l Ts D cl fk cy z0 sp tys G own mn nL cc d f g) (h2 : zz_TX l Ts D cl fk cy z0 sp tys G own mn nL cc d g E w') : zz_TX l Ts D cl fk cy z0 sp tys G own mn nL cc d f E w' := by
  have q1 := h1.1
  have q2 := h2.1
  refine ⟨⟨Nat.le_trans q1.1 q2.1, Nat.le_trans q1.2 q2.2⟩, ?_⟩
  intro p e R s m args below meth c X r1 r2 hx H locs n0 s0 ls hI hS hl hn hs hc1 hc2
  exact h1.2 p e R s m args below meth c X r1 r2 H locs n0 s0 _ ls hI hS hl hn hs (by omega) (by omega) fun H' locs' ls' hI' hS' hl' => h2.2 p e R s m args below meth c X r1 r2 hx H' locs' n0 s0 ls' hI' hS' hl' (by omega) (by omega) hc1 hc2
theorem zz_MX_B {y : Nat} {as : List Value} {w w' : zz_W} {E : String} (e1 : (yn y).cls = own) (e2 : (yn y).name = mn) (e3 : ml y = nL) (e4 : cn y = cc) (hy : plainName (yn y).cls = true) (ha : zz_cs as ≤ nL)
    (hT : zz_TX l Ts D cl fk cy z0 sp tys G own mn nL cc d (0, lv_args 0 as, [], w) E w') : zz_MX l Ts D cl fk cy z0 sp tys G yn cn ml rt (d + 1) y as w E w' := by
  subst e1 e2 e3 e4
  refine ⟨hT.1, ?_⟩
  refine vx_ofW (cc := cn y) (maxL := ml y) (ret := rt y) hy rfl ?_
  intro p e s m args below meth c s₁ B hml hx hv
  obtain ⟨rfl, hI, hK, hG⟩ := hv
  have hts := atoms_spec (ws := Cond.code (yn y) (cn y) (ml y) (rt y) :: Ts) B.pre
  have X : zz_X Ts D cl tys G (yn y).cls (yn y).name (ml y) (cn y) p s m (zz_sv z0 sp as).toArray meth c := ⟨B.exec, B.bytes, hml, findClass_of_methodNamed B.named, fun w hw => hts w (List.mem_cons_of_mem _ hw), hK, B.notSynchronized, (name_of_methodNamed B.named B.method).1, hG⟩
  have hl := lv_entry (zz_sv z0 sp as) (n := ml y) (by rw [zz_lg_len, zz_cs_svv]; exact ha)
  rw [zz_lv_args] at hl
  rw [lg_entry_eq]
  have k1 := hT.2 p e (headSpec (Cond.code (yn y) (cn y) (ml y) (rt y) :: Ts) { frames := d + 1, cells := w'.1 - w.1, slots := w'.2.1 - w.2.1, locals := 64 * (d + 1) }).room s m (zz_sv z0 sp as).toArray below meth c X (Nat.le_refl _) (Nat.le_refl _) hx s.heap [] w.1 w.2.1 _ hI va_S.rf hl (Nat.le_refl _) (Nat.le_refl _) (Nat.le_refl _) (Nat.le_refl _)
  have k2 : W p l e (headSpec (Cond.code (yn y) (cn y) (ml y) (rt y) :: Ts) { frames := d + 1, cells := w'.1 - w.1, slots := w'.2.1 - w.2.1, locals := 64 * (d + 1) }).room s m (zz_sv z0 sp as).toArray below meth c s.heap [] (w.1 - w.1) (w.2.1 - w.2.1) (vx_MQ below (fun _ _ _ _ => False) (zz_XC D cl fk cy z0 sp E w') (zz_sv z0 sp as).toArray s (w'.1 - w.1) (w'.2.1 - w.2.1) (fun q => z0 ≤ q)) (F0 m 0 ((lg_sl (zz_sv z0 sp as) ++ List.replicate (ml y - (lg_sl (zz_sv z0 sp as)).length) Slot.unset).toArray) []) := k1
  rw [Nat.sub_self, Nat.sub_self] at k2
  exact k2
/-- 'throw new E("text")' -/
theorem zz_TX_new (hsp0 : sp 18446744073709551616 = 0) {E text : String} {names : List String} {ik is ic ci k ix : Nat} {rx : ByteArray} {T : u_T} {lv : List (Nat × Value)} {st : List Value} {w : zz_W} (x0 : decode rx 0 = .ok (.aload_n 0, 1)) (x1 : decode rx 1 = .ok (.aload_n 1, 1)) (x2 : decode rx 2 = .ok (.invokespecial ix, 3)) (x5 : decode rx 5 = .ok (.return_, 1)) (hl : l.stackTraces = false) (hcls : Bundle.fit E = true) (hnames : ∀ n ∈ names, Bundle.fit n = true) (hc : cl[ci]? = some (E, T, 0))
    (hw1 : Cond.classLink own ik E ∈ Ts) (hw2 : Cond.initialized E ∈ Ts) (hR : ∀ U, G U → vk_R own is text (sp k) U) (hat : ∀ s : State, G s → ∀ args : Array Value, (∀ w ∈ Ts, w.before args s = true) → ∀ w ∈ vx_atS own ic E ix rx names, w.before args s = true)
    (hgood : ∀ w ∈ Cond.classLink own ik E :: Cond.initialized E :: vx_atS own ic E ix rx names, vx_ot w = true)
    (hU : ∀ U, G U → vx_Zq Bundle.tN "UNASSIGNED_STACK" Bundle.steD (fun q : Nat => z0 ≤ q) U U.heap) (hN : ∀ U, G U → vx_Zq Bundle.tN "SUPPRESSED_SENTINEL" Bundle.listD (fun q : Nat => z0 ≤ q) U U.heap)
    (d0 : decode cc pc = .ok (.new ik, 3)) (d3 : decode cc (pc + 3) = .ok (.dup, 1)) (d4 : decode cc (pc + 4) = .ok (.ldc is, 2)) (d6 : decode cc (pc + 6) = .ok (.invokespecial ic, 3)) (d9 : decode cc (pc + 9) = .ok (.athrow, 1))
    (hd : names.length + 3 ≤ d) (hd2 : zz_cs st + (13 * (names.length + 1) + 43) ≤ 64 * (d + 1)) (hs : zz_sh w) (hi : w.1 < 1024) : zz_TX l Ts D cl fk cy z0 sp tys G own mn nL cc d (pc, lv, st, w) E (zz_pu w (3, ci, 0, 0) 6) := by
  refine ⟨⟨Nat.le_succ _, Nat.le_add_right _ _⟩, ?_⟩
  intro p e R s m args below meth c X r1 r2 hx H locs n0 s0 ls hI hS hl' hn hs0 hc1 hc2
  have hc1 : w.1 + 1 - n0 ≤ R.cells := hc1
  have hc2 : w.2.1 + 6 - s0 ≤ R.slots := hc2
  have hn : n0 ≤ w.1 := hn
  have hs0 : s0 ≤ w.2.1 := hs0
  have hg := X.2.2.2.2.2.2.2.2
  have ecs : ((zz_sv z0 sp st).map fun v => v.category).sum = zz_cs st := zz_cs_sv st
  refine vx_throwS (rest := zz_sv z0 sp st) (text := text) X.1 X.2.1 hl x0 x1 x2 x5 X.2.2.2.1 hcls hnames (X.2.2.2.2.1 _ hw1) (X.2.2.2.2.1 _ hw2) (hR s hg) (hat s hg args X.2.2.2.2.1) hgood (hU s hg) (hN s hg) hS (by rw [hl'.1]; exact X.2.2.1.symm) d0 d3 d4 d6 d9 (fun x h => (hx x h).elim) (by omega) (by rw [ecs]; omega) (by show w.1 - n0 + 1 ≤ _; omega) (by show w.2.1 - s0 + 6 ≤ _; omega) X.2.2.2.2.2.2.1 ?_ hS.2.2 (by show w.1 - n0 + 1 ≤ w.1 + 1 - n0; omega) (by show w.2.1 - s0 + 6 ≤ w.2.1 + 6 - s0; omega)
  intro t ce _ hz hce hv hcl hold
  refine ⟨rfl, zz_I_push (w := w) hsp0 hI rfl (fun j => zz_pu_g hs hi j) ?_ hz hold, ?_, ?_⟩
  · have hK := X.2.2.2.2.2.1.1 ci _ hc
    refine ⟨_, hc, ce, by have h1 := hI.1; rw [← h1]; exact hce, Option.some.inj (hcl.symm.trans hK.2.1), hv, fun k hk => absurd hk (Nat.not_lt_zero _)⟩
  · rw [hz]
    exact Nat.le_succ_of_le hS.1
  · intro q h1 h2
    rw [hold q (Nat.lt_of_lt_of_le h1 hS.1)]
    exact hS.2.1 q h1 h2
/-- a call that throws, not caught here -/
theorem zz_TX_call {y index na ci N b : Nat} {C E : String} {T : u_T} {lv : List (Nat × Value)} {as r : List Value} {w w' : zz_W} (hd : decode cc pc = .ok (.invokevirtual index, 3)) (hgood : ∀ w ∈ Ts, goodWord w = true) (hG : zz_GF z0 G) (hc : cl[ci]? = some (C, T, N))
    (hy : (yn y).cls = C ∧ (yn y).cls ≠ "java/lang/invoke/MethodHandle" ∧ (yn y).cls ≠ "java/lang/invoke/VarHandle" ∧ (parseMethodDescriptor (yn y).desc).map (fun d => d.parameters.length) = some na) (hml : ml y ≤ 45) (hw : ∀ w ∈ ([.methodLink own index (yn y), .instanceMethod (yn y), .selects C (yn y) (yn y), .initialized C, .code (yn y) (cn y) (ml y) (rt y)] : List Cond), w ∈ Ts)
    (hM : zz_MX l Ts D cl fk cy z0 sp tys G yn cn ml rt d y (.ref b :: as) w E w') (hna : as.length = na) (hb : zz_ic w b ci = true) (hr : zz_cs r ≤ 8) : zz_TX l Ts D cl fk cy z0 sp tys G own mn nL cc d (pc, lv, as.reverse ++ .ref b :: r, w) E w' := by
  refine ⟨hM.1, ?_⟩
  intro p e R s m args below meth c X r1 r2 hx H locs n0 s0 ls hI hS hl hn hs hc1 hc2
  have hn : n0 ≤ w.1 := hn
  have hs : s0 ≤ w.2.1 := hs
  have hI : zz_I D cl fk cy z0 sp w H := hI
  obtain ⟨⟨m1, m2⟩, hM⟩ := hM
  obtain ⟨i1, i2, i3, i4⟩ := zz_ic_ok hb
  have hst2 : zz_sv z0 sp (as.reverse ++ .ref b :: r) = (zz_sv z0 sp as).reverse ++ .ref (zz_ad z0 sp b) :: zz_sv z0 sp r := by
    rw [zz_sv_app, zz_sv_rev]
    show _ ++ zz_v z0 sp (.ref b) :: zz_sv z0 sp r = _
    rw [zz_v_ref i2]
  show W p l e R s m args below meth c H locs (w.1 - n0) (w.2.1 - s0) _ (F0 m pc ls (zz_sv z0 sp (as.reverse ++ .ref b :: r)))
  rw [hst2]
  have he := zz_ws_get (fk := fk) (cy := cy) (z0 := z0) (sp := sp) i1
  rw [zz_e_o i3 i4] at he
  have hcw : CallW R s args own C index (yn y) (cn y) (ml y) (rt y) (Cond.code (yn y) (cn y) (ml y) (rt y) :: Ts) { frames := d, cells := w'.1 - w.1, slots := w'.2.1 - w.2.1, locals := 64 * d } (w'.1 - w.1) (w'.2.1 - w.2.1) na :=
    cwV na X.2.2.2.2.1 (zz_goodIn hgood (fun w h => by
      rcases List.mem_append.mp h with h | h
      · exact hw w (by simp only [List.mem_cons, List.not_mem_nil, or_false] at h ⊢; rcases h with h | h | h | h <;> simp [h])
      · rcases List.mem_cons.mp h with h | h
        · rw [h]; exact hw _ (by simp)
        · exact h)) rfl rfl rfl hy ⟨r1, by show 8 + (ml y + 11) + 64 * d ≤ _; omega⟩
  have hrun := vx_runV (As := zz_sv z0 sp as) (rest := zz_sv z0 sp r) (g := F0 m pc ls ((zz_sv z0 sp as).reverse ++ .ref (zz_ad z0 sp b) :: zz_sv z0 sp r)) (H := H) (locs := locs) (cells := w.1 - n0) (slots := w.2.1 - s0) (below := below) (meth := meth) (e := e) ⟨X.1, X.2.1, X.2.2.1, X.2.2.2.1, X.2.2.2.2.1⟩ hM hcw ⟨zz_blind hG, va_recv X.2.2.2.2.2.1 hI.2 hc he, fun U hU hW => ⟨by show (Value.ref (zz_ad z0 sp b) :: zz_sv z0 sp as).toArray = (zz_v z0 sp (.ref b) :: zz_sv z0 sp as).toArray; rw [zz_v_ref i2], by rw [hU]; exact hI, va_K.moved hW.alike X.2.2.2.2.2.1, zz_G_at X hG hS hU hW⟩⟩ rfl (by unfold zz_sv; rw [List.length_map]; exact hna) hl.1 rfl (lv_room (by rw [zz_cs_sv]; exact hr)) hd ⟨by omega, by omega⟩
  intro T0 hT0 X0
  rcases hrun T0 hT0 X0 with ⟨_, _, _, _, _, _, _, _, _, _, hF, _⟩ | ⟨q, st₀, t, T', L, E', ce, h0, X', hL, e1, e2, ⟨rfl, hI', hF⟩, hce, hcv, hcl, hst⟩
  · exact hF.elim
  · have hS' : va_S (fun q : Nat => z0 ≤ q) s.heap T'.heap (locs ++ L) := by
      obtain ⟨hz, hk⟩ := hF
      rw [h0] at hz hk
      refine ⟨Nat.le_trans hS.1 (by rw [e1]; exact hz), fun q h1 h2 => by rw [e1, hk q (Nat.lt_of_lt_of_le h1 hS.1) h2]; exact hS.2.1 q h1 h2, fun q hq => ?_⟩
      rcases List.mem_append.mp hq with h | h
      · exact hS.2.2 q h
      · exact hL q h
    obtain ⟨t2, a1, b1⟩ := vx_out (Qc := fun _ _ _ _ => False) (XC := zz_XC D cl fk cy z0 sp E' w') (free := fun q => z0 ≤ q) (mc := w'.1 - n0) (ms := w'.2.1 - s0) (pc := pc) (ls := ls) (rest := zz_sv z0 sp r) (q := q) (fun x h => (hx x h).elim) X.2.2.2.2.2.2.1 (by rw [e1]; exact hce) hcv hcl (fun t9 ht9 _ => ⟨rfl, by rw [ht9, e1]; exact hI', hS'.F ht9⟩) hS'.2.2 (by omega) (by omega) T' rfl X'
    exact ⟨t2, hst.trans a1, b1⟩
end ZTX
end
section
/-! WALKS, step by step forward -/
section ZFW
variable {l : Launch} {Ts : List Cond} {D : va_G} {cl : List vw_C} {fk : Nat → Nat → Nat} {cy : Nat → ClassId} {z0 : Nat} {sp : Nat → Nat} {tys : List (ClassId × FieldType)} {G : State → Prop} {own mn : String} {nL : Nat} {cc : ByteArray} {d : Nat} {pc : Nat}
variable {yn : Nat → MethodName} {cn : Nat → ByteArray} {ml : Nat → Nat} {rt : Nat → Option FieldType} {f : zz_F}
theorem zz_fw {T : zz_T} {K : zz_K} {act : zz_A} {fr : List (Nat × Value) × List Value × zz_W} {f' : zz_F} (b : zz_B l Ts D cl fk cy z0 sp tys G own mn nL cc d f (pc, fr)) (hT : zz_TO l Ts D cl fk cy z0 sp tys G own mn nL cc d K T) (he : zz_ent T pc = (0, act)) (h : act K (pc, fr) = some f') : zz_B l Ts D cl fk cy z0 sp tys G own mn nL cc d f f' :=
  zz_B_tr b (zz_sg hT he h (zz_B_rf _))
/-- by a row of its own -/
theorem zz_fo {K : zz_K} {act : zz_A} {fr : List (Nat × Value) × List Value × zz_W} {f' : zz_F} (b : zz_B l Ts D cl fk cy z0 sp tys G own mn nL cc d f (pc, fr)) (hO : zz_O l Ts D cl fk cy z0 sp tys G own mn nL cc d K pc act) (h : act K (pc, fr) = some f') : zz_B l Ts D cl fk cy z0 sp tys G own mn nL cc d f f' :=
  zz_B_tr b (zz_O_B hO rfl h)
theorem zz_fVi {T : zz_T} {ci y na n r0 : Nat} {lv : List (Nat × Value)} {st as r : List Value} {v : Value} {w w' : zz_W} (b : zz_B l Ts D cl fk cy z0 sp tys G own mn nL cc d f (pc, lv, st, w)) (hT : ∀ K, zz_KS l D cl fk cy z0 sp tys G yn (fun y => Cond.code (yn y) (cn y) (ml y) (rt y) :: Ts) d K → zz_TO l Ts D cl fk cy z0 sp tys G own mn nL cc d K T) (he : zz_ent T pc = (0, za_callV ci y na n))
    (hM : zz_M l Ts D cl fk cy z0 sp tys G yn cn ml rt d y (.ref r0 :: as) w [v] w') (hst : st = as.reverse ++ .ref r0 :: r) (hna : as.length = na) (hb : zz_ic w r0 ci = true) (hr : zz_cs r ≤ 8) : zz_B l Ts D cl fk cy z0 sp tys G own mn nL cc d f (n, lv, v :: r, w') :=
  zz_B_tr b (zz_sV hT he hM hst hna hb hr (zz_B_rf _))
theorem zz_fVv {T : zz_T} {ci y na n r0 : Nat} {lv : List (Nat × Value)} {st as r : List Value} {w w' : zz_W} (b : zz_B l Ts D cl fk cy z0 sp tys G own mn nL cc d f (pc, lv, st, w)) (hT : ∀ K, zz_KS l D cl fk cy z0 sp tys G yn (fun y => Cond.code (yn y) (cn y) (ml y) (rt y) :: Ts) d K → zz_TO l Ts D cl fk cy z0 sp tys G own mn nL cc d K T) (he : zz_ent T pc = (0, za_callV ci y na n))
    (hM : zz_M l Ts D cl fk cy z0 sp tys G yn cn ml rt d y (.ref r0 :: as) w [] w') (hst : st = as.reverse ++ .ref r0 :: r) (hna : as.length = na) (hb : zz_ic w r0 ci = true) (hr : zz_cs r ≤ 8) : zz_B l Ts D cl fk cy z0 sp tys G own mn nL cc d f (n, lv, r, w') :=
  zz_B_tr b (zz_sV hT he hM hst hna hb hr (zz_B_rf _))
theorem zz_fSi {T : zz_T} {y na n : Nat} {lv : List (Nat × Value)} {st as r : List Value} {v : Value} {w w' : zz_W} (b : zz_B l Ts D cl fk cy z0 sp tys G own mn nL cc d f (pc, lv, st, w)) (hT : ∀ K, zz_KS l D cl fk cy z0 sp tys G yn (fun y => Cond.code (yn y) (cn y) (ml y) (rt y) :: Ts) d K → zz_TO l Ts D cl fk cy z0 sp tys G own mn nL cc d K T) (he : zz_ent T pc = (0, za_callS y na n))
    (hM : zz_M l Ts D cl fk cy z0 sp tys G yn cn ml rt d y as w [v] w') (hst : st = as.reverse ++ r) (hna : as.length = na) (hr : zz_cs r ≤ 8) : zz_B l Ts D cl fk cy z0 sp tys G own mn nL cc d f (n, lv, v :: r, w') :=
  zz_B_tr b (zz_sS hT he hM hst hna hr (zz_B_rf _))
theorem zz_fSv {T : zz_T} {y na n : Nat} {lv : List (Nat × Value)} {st as r : List Value} {w w' : zz_W} (b : zz_B l Ts D cl fk cy z0 sp tys G own mn nL cc d f (pc, lv, st, w)) (hT : ∀ K, zz_KS l D cl fk cy z0 sp tys G yn (fun y => Cond.code (yn y) (cn y) (ml y) (rt y) :: Ts) d K → zz_TO l Ts D cl fk cy z0 sp tys G own mn nL cc d K T) (he : zz_ent T pc = (0, za_callS y na n))
    (hM : zz_M l Ts D cl fk cy z0 sp tys G yn cn ml rt d y as w [] w') (hst : st = as.reverse ++ r) (hna : as.length = na) (hr : zz_cs r ≤ 8) : zz_B l Ts D cl fk cy z0 sp tys G own mn nL cc d f (n, lv, r, w') :=
  zz_B_tr b (zz_sS hT he hM hst hna hr (zz_B_rf _))
end ZFW
end
section
/-! METHODS WITH HANDLERS: they return, or catch what a call throws -/
def zz_MH (l : Launch) (Ts : List Cond) (D : va_G) (cl : List vw_C) (fk : Nat → Nat → Nat) (cy : Nat → ClassId) (z0 : Nat) (sp : Nat → Nat) (tys : List (ClassId × FieldType)) (G : State → Prop) (y : MethodName) (cc : ByteArray) (nL : Nat) (rtx : Option FieldType) (hh : List (Nat × Nat × Nat × Nat)) (d : Nat) (as : List Value) (w : zz_W) (rv : List Value) (w' : zz_W) : Prop :=
  (w.1 ≤ w'.1 ∧ w.2.1 ≤ w'.2.1) ∧ rv.length ≤ 1 ∧
    Met l y (Cond.codeWith y cc nL rtx hh :: Ts) { frames := d, cells := w'.1 - w.1, slots := w'.2.1 - w.2.1, locals := 64 * d } (zz_Pc D cl fk cy z0 sp tys G as w) (zz_Qc D cl fk cy z0 sp rv w') (w'.1 - w.1) (w'.2.1 - w.2.1) (fun q => z0 ≤ q)
section ZH
variable {l : Launch} {Ts : List Cond} {D : va_G} {cl : List vw_C} {fk : Nat → Nat → Nat} {cy : Nat → ClassId} {z0 : Nat} {sp : Nat → Nat} {tys : List (ClassId × FieldType)} {G : State → Prop} {own mn : String} {nL : Nat} {cc : ByteArray} {d : Nat} {pc : Nat}
variable {yn : Nat → MethodName} {cn : Nat → ByteArray} {ml : Nat → Nat} {rt : Nat → Option FieldType}
theorem zz_MH_B {y : MethodName} {pc' : Nat} {lv' : List (Nat × Value)} {as st rv : List Value} {w w' : zz_W} {rtx : Option FieldType} {hh : List (Nat × Nat × Nat × Nat)} (e1 : y.cls = own) (e2 : y.name = mn) (hy : plainName y.cls = true) (ha : zz_cs as ≤ nL) (hrv : rv.length ≤ 1)
    (hend : zz_end l z0 sp cc rtx pc' st rv) (hB : zz_B l Ts D cl fk cy z0 sp tys G own mn nL cc d (0, lv_args 0 as, [], w) (pc', lv', st, w')) : zz_MH l Ts D cl fk cy z0 sp tys G y cc nL rtx hh (d + 1) as w rv w' := by
  subst e1 e2
  refine ⟨hB.1, hrv, ?_⟩
  refine va_MetW (cc := cc) (maxL := nL) (ret := rtx) (hh := hh) hy rfl ?_
  intro p e s m args below meth c s₁ B hml hv
  obtain ⟨rfl, hI, hK, hG⟩ := hv
  have hts := atoms_spec (ws := Cond.codeWith y cc nL rtx hh :: Ts) B.pre
  have X : zz_X Ts D cl tys G y.cls y.name nL cc p s m (zz_sv z0 sp as).toArray meth c := ⟨B.exec, B.bytes, hml, findClass_of_methodNamed B.named, fun w hw => hts w (List.mem_cons_of_mem _ hw), hK, B.notSynchronized, (name_of_methodNamed B.named B.method).1, hG⟩
  have hl := lv_entry (zz_sv z0 sp as) (n := nL) (by rw [zz_lg_len, zz_cs_svv]; exact ha)
  rw [zz_lv_args] at hl
  rw [lg_entry_eq]
  have k1 := hB.2 p e (headSpec (Cond.codeWith y cc nL rtx hh :: Ts) { frames := d + 1, cells := w'.1 - w.1, slots := w'.2.1 - w.2.1, locals := 64 * (d + 1) }).room s m (zz_sv z0 sp as).toArray below meth c X (Nat.le_refl _) (Nat.le_refl _) s.heap [] w.1 w.2.1 (MQ below (zz_Qc D cl fk cy z0 sp rv w') (zz_sv z0 sp as).toArray s (w'.1 - w.1) (w'.2.1 - w.2.1) (fun q => z0 ≤ q)) _ hI va_S.rf hl (Nat.le_refl _) (Nat.le_refl _) (Nat.le_refl _) (Nat.le_refl _) (fun H' locs' ls' hI' hS' hl' => hend p e _ s m _ below meth c H' locs' _ _ ls' _ _ B.exec B.bytes B.returns B.notSynchronized (fun t ht _ => ⟨⟨rfl, by rw [ht]; exact hI'⟩, hS'.F ht⟩) hS'.2.2)
  have k2 : W p l e (headSpec (Cond.codeWith y cc nL rtx hh :: Ts) { frames := d + 1, cells := w'.1 - w.1, slots := w'.2.1 - w.2.1, locals := 64 * (d + 1) }).room s m (zz_sv z0 sp as).toArray below meth c s.heap [] (w.1 - w.1) (w.2.1 - w.2.1) (MQ below (zz_Qc D cl fk cy z0 sp rv w') (zz_sv z0 sp as).toArray s (w'.1 - w.1) (w'.2.1 - w.2.1) (fun q => z0 ≤ q)) (F0 m 0 ((lg_sl (zz_sv z0 sp as) ++ List.replicate (nL - (lg_sl (zz_sv z0 sp as)).length) Slot.unset).toArray) []) := k1
  rw [Nat.sub_self, Nat.sub_self] at k2
  exact k2
/-- the method calls yq, which throws an E; the row x of its table catches it: astore, a constant, return -/
theorem zz_MH_X {y : MethodName} {yq index na ci N b ph i : Nat} {kf : Fin 4} {kv : Int} {v : Int32} {C E : String} {T : u_T} {lv : List (Nat × Value)} {as bs r : List Value} {w w1 w' : zz_W} {hh pre suf : List (Nat × Nat × Nat × Nat)} {x : Nat × Nat × Nat × Nat} (e1 : y.cls = own) (e2 : y.name = mn) (hy0 : plainName y.cls = true) (ha : zz_cs as ≤ nL)
    (hB : zz_B l Ts D cl fk cy z0 sp tys G own mn nL cc d (0, lv_args 0 as, [], w) (pc, lv, bs.reverse ++ .ref b :: r, w1))
    (hd : decode cc pc = .ok (.invokevirtual index, 3)) (hgood : ∀ w ∈ Ts, goodWord w = true) (hG : zz_GF z0 G) (hc : cl[ci]? = some (C, T, N))
    (hy : (yn yq).cls = C ∧ (yn yq).cls ≠ "java/lang/invoke/MethodHandle" ∧ (yn yq).cls ≠ "java/lang/invoke/VarHandle" ∧ (parseMethodDescriptor (yn yq).desc).map (fun d => d.parameters.length) = some na) (hml : ml yq ≤ 45) (hw : ∀ w ∈ ([.methodLink own index (yn yq), .instanceMethod (yn yq), .selects C (yn yq) (yn yq), .initialized C, .code (yn yq) (cn yq) (ml yq) (rt yq)] : List Cond), w ∈ Ts)
    (hM : zz_MX l Ts D cl fk cy z0 sp tys G yn cn ml rt d yq (.ref b :: bs) w1 E w') (hna : bs.length = na) (hb : zz_ic w1 b ci = true) (hr : zz_cs r ≤ 8)
    (hsplit : hh = pre ++ x :: suf) (hpass : ∀ z ∈ pre, z.2.2.2 ≠ 0 ∧ ∃ nm : String, Cond.classLink own z.2.2.2 nm ∈ Ts ∧ ∀ U, G U → va_Nc E nm U) (hcov : covers ⟨x.1, x.2.1, x.2.2.1, x.2.2.2⟩ pc = true) (hx0 : x.2.2.2 ≠ 0) (hlink : Cond.classLink own x.2.2.2 E ∈ Ts) (hcast : ∀ U, G U → va_Nw (.castable E E) U)
    (hph : x.2.2.1 = ph) (d0 : decode cc ph = .ok (.astore_n kf, 1)) (hi : (kf : Nat) = i) (hin : i < nL) (d1 : decode cc (ph + 1) = .ok (.iconst kv, 1)) (hv : Int32.ofInt kv = v) (d2 : decode cc (ph + 2) = .ok (.ireturn, 1)) : zz_MH l Ts D cl fk cy z0 sp tys G y cc nL (some .int) hh (d + 1) as w [.int v] w' := by
  subst e1 e2 hph
  have q1 := hB.1
  have q2 := hM.1
  refine ⟨⟨Nat.le_trans q1.1 q2.1, Nat.le_trans q1.2 q2.2⟩, Nat.le_refl _, ?_⟩
  refine va_MetW (cc := cc) (maxL := nL) (ret := some .int) (hh := hh) hy0 rfl ?_
  intro p e s m args below meth c s₁ B hml0 hpc
  obtain ⟨rfl, hI, hK, hGs⟩ := hpc
  have hts := atoms_spec (ws := Cond.codeWith y cc nL (some .int) hh :: Ts) B.pre
  have X : zz_X Ts D cl tys G y.cls y.name nL cc p s m (zz_sv z0 sp as).toArray meth c := ⟨B.exec, B.bytes, hml0, findClass_of_methodNamed B.named, fun w hw => hts w (List.mem_cons_of_mem _ hw), hK, B.notSynchronized, (name_of_methodNamed B.named B.method).1, hGs⟩
  have htab : c.exceptionTable.toList = tableOf hh := vx_table (x := y) B (hts _ List.mem_cons_self)
  have hl := lv_entry (zz_sv z0 sp as) (n := nL) (by rw [zz_lg_len, zz_cs_svv]; exact ha)
  rw [zz_lv_args] at hl
  rw [lg_entry_eq]
  have q3 : w.1 ≤ w1.1 := q1.1
  have q4 : w.2.1 ≤ w1.2.1 := q1.2
  have k1 := hB.2 p e (headSpec (Cond.codeWith y cc nL (some .int) hh :: Ts) { frames := d + 1, cells := w'.1 - w.1, slots := w'.2.1 - w.2.1, locals := 64 * (d + 1) }).room s m (zz_sv z0 sp as).toArray below meth c X (Nat.le_refl _) (Nat.le_refl _) s.heap [] w.1 w.2.1 (MQ below (zz_Qc D cl fk cy z0 sp [.int v] w') (zz_sv z0 sp as).toArray s (w'.1 - w.1) (w'.2.1 - w.2.1) (fun q => z0 ≤ q)) _ hI va_S.rf hl (Nat.le_refl _) (Nat.le_refl _) (by show w1.1 - w.1 ≤ w'.1 - w.1; omega) (by show w1.2.1 - w.2.1 ≤ w'.2.1 - w.2.1; omega) (fun H locs ls hI hS hl => ?_)
  · have k2 : W p l e (headSpec (Cond.codeWith y cc nL (some .int) hh :: Ts) { frames := d + 1, cells := w'.1 - w.1, slots := w'.2.1 - w.2.1, locals := 64 * (d + 1) }).room s m (zz_sv z0 sp as).toArray below meth c s.heap [] (w.1 - w.1) (w.2.1 - w.2.1) (MQ below (zz_Qc D cl fk cy z0 sp [.int v] w') (zz_sv z0 sp as).toArray s (w'.1 - w.1) (w'.2.1 - w.2.1) (fun q => z0 ≤ q)) (F0 m 0 ((lg_sl (zz_sv z0 sp as) ++ List.replicate (nL - (lg_sl (zz_sv z0 sp as)).length) Slot.unset).toArray) []) := k1
    rw [Nat.sub_self, Nat.sub_self] at k2
    exact k2
  · have hI : zz_I D cl fk cy z0 sp w1 H := hI
    have hl : lv_has ls nL (zz_lv z0 sp lv) := hl
    obtain ⟨⟨m1, m2⟩, hM⟩ := hM
    obtain ⟨i1, i2, i3, i4⟩ := zz_ic_ok hb
    have hst2 : zz_sv z0 sp (bs.reverse ++ .ref b :: r) = (zz_sv z0 sp bs).reverse ++ .ref (zz_ad z0 sp b) :: zz_sv z0 sp r := by
      rw [zz_sv_app, zz_sv_rev]
      show _ ++ zz_v z0 sp (.ref b) :: zz_sv z0 sp r = _
      rw [zz_v_ref i2]
    show W p l e _ s m (zz_sv z0 sp as).toArray below meth c H locs (w1.1 - w.1) (w1.2.1 - w.2.1) _ (F0 m pc ls (zz_sv z0 sp (bs.reverse ++ .ref b :: r)))
    rw [hst2]
    have he := zz_ws_get (fk := fk) (cy := cy) (z0 := z0) (sp := sp) i1
    rw [zz_e_o i3 i4] at he
    have hcw : CallW (headSpec (Cond.codeWith y cc nL (some .int) hh :: Ts) { frames := d + 1, cells := w'.1 - w.1, slots := w'.2.1 - w.2.1, locals := 64 * (d + 1) }).room s (zz_sv z0 sp as).toArray y.cls C index (yn yq) (cn yq) (ml yq) (rt yq) (Cond.code (yn yq) (cn yq) (ml yq) (rt yq) :: Ts) { frames := d, cells := w'.1 - w1.1, slots := w'.2.1 - w1.2.1, locals := 64 * d } (w'.1 - w1.1) (w'.2.1 - w1.2.1) na :=
      cwV na X.2.2.2.2.1 (zz_goodIn hgood (fun w h => by
        rcases List.mem_append.mp h with h | h
        · exact hw w (by simp only [List.mem_cons, List.not_mem_nil, or_false] at h ⊢; rcases h with h | h | h | h <;> simp [h])
        · rcases List.mem_cons.mp h with h | h
          · rw [h]; exact hw _ (by simp)
          · exact h)) rfl rfl rfl hy ⟨Nat.le_refl _, by show 8 + (ml yq + 11) + 64 * d ≤ 64 * (d + 1); omega⟩
    have hrun := vx_runV (As := zz_sv z0 sp bs) (rest := zz_sv z0 sp r) (g := F0 m pc ls ((zz_sv z0 sp bs).reverse ++ .ref (zz_ad z0 sp b) :: zz_sv z0 sp r)) (H := H) (locs := locs) (cells := w1.1 - w.1) (slots := w1.2.1 - w.2.1) (below := below) (meth := meth) (e := e) ⟨X.1, X.2.1, X.2.2.1, X.2.2.2.1, X.2.2.2.2.1⟩ hM hcw ⟨zz_blind hG, va_recv X.2.2.2.2.2.1 hI.2 hc he, fun U hU hW => ⟨by show (Value.ref (zz_ad z0 sp b) :: zz_sv z0 sp bs).toArray = (zz_v z0 sp (.ref b) :: zz_sv z0 sp bs).toArray; rw [zz_v_ref i2], by rw [hU]; exact hI, va_K.moved hW.alike X.2.2.2.2.2.1, zz_G_at X hG hS hU hW⟩⟩ rfl (by unfold zz_sv; rw [List.length_map]; exact hna) hl.1 rfl (lv_room (by rw [zz_cs_sv]; exact hr)) hd ⟨by show w1.1 - w.1 + (w'.1 - w1.1) ≤ w'.1 - w.1; omega, by show w1.2.1 - w.2.1 + (w'.2.1 - w1.2.1) ≤ w'.2.1 - w.2.1; omega⟩
    intro T0 hT0 X0
    rcases hrun T0 hT0 X0 with ⟨_, _, _, _, _, _, _, _, _, _, hF, _⟩ | ⟨q, st₀, t, T', L, E', ce, h0, X', hL, g1, g2, ⟨rfl, hI', hF⟩, hce, hcv, hcl, hst⟩
    · exact hF.elim
    · have hS' : va_S (fun q : Nat => z0 ≤ q) s.heap T'.heap (locs ++ L) := by
        obtain ⟨hz, hk⟩ := hF
        rw [h0] at hz hk
        refine ⟨Nat.le_trans hS.1 (by rw [g1]; exact hz), fun q h1 h2 => by rw [g1, hk q (Nat.lt_of_lt_of_le h1 hS.1) h2]; exact hS.2.1 q h1 h2, fun q hq => ?_⟩
        rcases List.mem_append.mp hq with h | h
        · exact hS.2.2 q h
        · exact hL q h
      have n1 : w1.1 - w.1 + (w'.1 - w1.1) = w'.1 - w.1 := by omega
      have n2 : w1.2.1 - w.2.1 + (w'.2.1 - w1.2.1) = w'.2.1 - w.2.1 := by omega
      have hW : W p l e (headSpec (Cond.codeWith y cc nL (some .int) hh :: Ts) { frames := d + 1, cells := w'.1 - w.1, slots := w'.2.1 - w.2.1, locals := 64 * (d + 1) }).room s m (zz_sv z0 sp as).toArray below meth c T'.heap (locs ++ L) (w1.1 - w.1 + (w'.1 - w1.1)) (w1.2.1 - w.2.1 + (w'.2.1 - w1.2.1)) (MQ below (zz_Qc D cl fk cy z0 sp [.int v] w') (zz_sv z0 sp as).toArray s (w'.1 - w.1) (w'.2.1 - w.2.1) (fun q => z0 ≤ q)) (F0 m x.2.2.1 ls [.ref q]) := by
        rw [n1, n2]
        exact lv_astore_n X.1 X.2.1 d0 hi hl hin rfl fun ls' _ => lv_iconst X.1 X.2.1 d1 hv (W.iret X.1 X.2.1 B.returns (fun t9 ht9 _ => ⟨⟨rfl, by rw [ht9, g1]; exact hI'⟩, hS'.F ht9⟩) hS'.2.2 d2 X.2.2.2.2.2.2.1)
      obtain ⟨t2, a1, b1⟩ := vx_catch (own := y.cls) (name := E') (E := E') (ce := ce) (q := q) (pc := pc) (ls := ls) (rest := zz_sv z0 sp r) X.2.2.2.1 (tableOf pre) ⟨x.1, x.2.1, x.2.2.1, x.2.2.2⟩ (tableOf suf) (by rw [htab, hsplit]; unfold tableOf; rw [List.map_append, List.map_cons]) (fun z hz => by
        obtain ⟨z', hz', rfl⟩ := List.mem_map.mp hz
        obtain ⟨hz0, nm, hl1, hn1⟩ := hpass z' hz'
        exact Or.inr ⟨hz0, nm, X.2.2.2.2.1 _ hl1, hn1 s hGs⟩) hcov hx0 (X.2.2.2.2.1 _ hlink) (va_Nw.use rfl (hcast s hGs)) (by rw [g1]; exact hce) hcv hcl hW T' rfl X'
      exact ⟨t2, hst.trans a1, b1⟩
/-- a static call of a method with handlers -/
theorem zz_sH {y : MethodName} {index na nLy : Nat} {ccy : ByteArray} {rty : Option FieldType} {hh : List (Nat × Nat × Nat × Nat)} {lv : List (Nat × Value)} {st as r rv : List Value} {w w' : zz_W} (hd : decode cc pc = .ok (.invokestatic index, 3)) (hgood : ∀ w ∈ Ts, goodWord w = true) (hG : zz_GF z0 G)
    (hy : y.cls ≠ "java/lang/invoke/MethodHandle" ∧ y.cls ≠ "java/lang/invoke/VarHandle" ∧ (parseMethodDescriptor y.desc).map (fun d => d.parameters.length) = some na) (hml : nLy ≤ 45) (hw1 : Cond.methodLink own index y ∈ Ts) (hw2 : Cond.static y ∈ Ts) (hw3 : Cond.initialized y.cls ∈ Ts) (hw4 : Cond.codeWith y ccy nLy rty hh ∈ Ts)
    (hM : zz_MH l Ts D cl fk cy z0 sp tys G y ccy nLy rty hh d as w rv w') (hst : st = as.reverse ++ r) (hna : as.length = na) (hr : zz_cs r ≤ 8) : zz_B l Ts D cl fk cy z0 sp tys G own mn nL cc d (pc, lv, st, w) (pc + 3, lv, rv ++ r, w') := by
  subst hst
  obtain ⟨⟨m1, m2⟩, hrv, hM⟩ := hM
  refine ⟨⟨m1, m2⟩, ?_⟩
  intro p e R s m args below meth c X hR1 hR2 H locs n0 s0 Q ls hI hS hl hn hs hc1 hc2 kk
  have hI : zz_I D cl fk cy z0 sp w H := hI
  have hn : n0 ≤ w.1 := hn
  have hs : s0 ≤ w.2.1 := hs
  have hc1 : w'.1 - n0 ≤ R.cells := hc1
  have hc2 : w'.2.1 - s0 ≤ R.slots := hc2
  have hst2 : zz_sv z0 sp (as.reverse ++ r) = (zz_sv z0 sp as).reverse ++ zz_sv z0 sp r := by
    rw [zz_sv_app, zz_sv_rev]
  show W p l e R s m args below meth c H locs (w.1 - n0) (w.2.1 - s0) Q (F0 m pc ls (zz_sv z0 sp (as.reverse ++ r)))
  rw [hst2]
  have hcw : vx_CSW R s args own index y ccy nLy rty hh (Cond.codeWith y ccy nLy rty hh :: Ts) { frames := d, cells := w'.1 - w.1, slots := w'.2.1 - w.2.1, locals := 64 * d } (w'.1 - w.1) (w'.2.1 - w.2.1) na :=
    vx_cwSW na X.2.2.2.2.1 (zz_goodIn hgood (fun w h => by
      rcases List.mem_append.mp h with h | h
      · simp only [List.mem_cons, List.not_mem_nil, or_false] at h
        rcases h with h | h | h <;> (rw [h]; assumption)
      · rcases List.mem_cons.mp h with h | h
        · rw [h]; exact hw4
        · exact h)) rfl rfl rfl hy ⟨hR1, by show 8 + (nLy + 11) + 64 * d ≤ _; omega⟩
  refine zz_behind (fk := fk) (cy := cy) (D := D) (cl := cl) (mc := w'.1 - w.1) (ms := w'.2.1 - w.2.1) (rest := r) hrv (vx_runSW (As := zz_sv z0 sp as) ⟨X.1, X.2.1, X.2.2.1, X.2.2.2.1, X.2.2.2.2.1⟩ hM hcw ⟨zz_blind hG, fun U hU hW => ⟨rfl, by rw [hU]; exact hI, va_K.moved hW.alike X.2.2.2.2.2.1, zz_G_at X hG hS hU hW⟩⟩ rfl (by unfold zz_sv; rw [List.length_map]; exact hna) hl.1 rfl (lv_room (by rw [zz_cs_sv]; exact hr)) hd ⟨by omega, by omega⟩) hS fun H1 locs1 hI1 hS1 => ?_
  have k1 := kk H1 locs1 ls hI1 hS1 hl
  have q1 : w'.1 - n0 = w.1 - n0 + (w'.1 - w.1) := by omega
  have q2 : w'.2.1 - s0 = w.2.1 - s0 + (w'.2.1 - w.2.1) := by omega
  have k2 : W p l e R s m args below meth c H1 locs1 (w'.1 - n0) (w'.2.1 - s0) Q (F0 m (pc + 3) ls (zz_sv z0 sp (rv ++ r))) := k1
  rw [q1, q2] at k2
  exact k2
end ZH
end
section
/-! 'throw new E("text")', the text by a wide index -/
section ZW1
variable {p : Program} {l : Launch} {e : Env} {R : Room} {s : State} {m : MethodId} {args : Array Value} {below : List Frame} {meth : Method} {c : Code} {H : Heap} {locs : List Loc} {cells slots : Nat} {Q : State → Prop}
variable {mc ms : Nat} {free : Addr → Prop} {A0 A1 : Nat → Prop} {H0 : Heap} {a : Array Value} {ls : Array Slot} {st0 rest : List Value}
variable {Qc : Array Value → State → Outcome → State → Prop} {XC : String → State → State → Prop}
theorem vx_throwSW {cc : ByteArray} {pc : Nat} (hexec : p.tables.exec = Jvm.exec) (hb : c.code = cc) (hl : l.stackTraces = false) {own cls text : String} {names : List String} {ik is ic mc ms sa ix : Nat} {rx : ByteArray} {A : Nat → Prop}
    (x0 : decode rx 0 = .ok (.aload_n 0, 1)) (x1 : decode rx 1 = .ok (.aload_n 1, 1)) (x2 : decode rx 2 = .ok (.invokespecial ix, 3)) (x5 : decode rx 5 = .ok (.return_, 1))
    (hown : s.vm.findClass own = some m.cls) (hcls : Bundle.fit cls = true) (hnames : ∀ n ∈ names, Bundle.fit n = true)
    (hk : (Cond.classLink own ik cls).before args s = true) (hini : (Cond.initialized cls).before args s = true) (hstr : vk_R own is text sa s) (hat : ∀ w ∈ vx_atS own ic cls ix rx names, w.before args s = true)
    (hgood : ∀ w ∈ Cond.classLink own ik cls :: Cond.initialized cls :: vx_atS own ic cls ix rx names, vx_ot w = true)
    (hU : vx_Zq Bundle.tN "UNASSIGNED_STACK" Bundle.steD A s s.heap) (hN : vx_Zq Bundle.tN "SUPPRESSED_SENTINEL" Bundle.listD A s s.heap) (hS : va_S A s.heap H locs) (hsize : ls.size = c.maxLocals)
    (d0 : decode cc pc = .ok (.new ik, 3)) (d3 : decode cc (pc + 3) = .ok (.dup, 1)) (d4 : decode cc (pc + 4) = .ok (.ldc_w is, 3)) (d6 : decode cc (pc + 7) = .ok (.invokespecial ic, 3)) (d9 : decode cc (pc + 10) = .ok (.athrow, 1))
    (hout : ∀ x ∈ c.exceptionTable.toList, covers x (pc + 10) = false)
    (hRframes : names.length + 3 < R.frames) (hRlocals : (rest.map fun v => v.category).sum + (13 * (names.length + 1) + 43) ≤ R.locals) (hRcells : cells + 1 ≤ R.cells) (hRslots : slots + 6 ≤ R.slots) (hlocks : meth.locks = false)
    (hx : ∀ (t : State) (ce : Cell), s.vm.Alike t.vm → t.heap.size = H.size + 1 → t.heap[H.size]? = some ce → ce.vm = .none → s.vm.findClass cls = some ce.cls → (∀ q : Nat, q < H.size → t.heap[q]? = H[q]?) → XC cls s t)
    (hf : ∀ z ∈ locs, free z.base) (hc : cells + 1 ≤ mc) (hs : slots + 6 ≤ ms) :
    W p l e R s m args below meth c H locs cells slots (vx_MQ below Qc XC args s mc ms free) (F0 m pc ls rest) := by
  intro T hT X
  have htr : e.platform.stackTraces = false := (show e.platform.stackTraces = l.stackTraces by rw [X.admits.platform]).trans hl
  have Y := vx_rebase X (R' := { frames := R.frames, locals := R.locals, cells := 1, slots := 6 }) (Nat.le_refl _) (Nat.le_refl _) hRcells hRslots
  obtain ⟨s', hA⟩ : ∃ z, z = (T.setVm s.vm).setFrames (.invoking m args :: below) := ⟨_, rfl⟩
  rw [← hA] at Y
  have hvm : s'.vm = s.vm := by rw [hA]; rfl
  have hhp : s'.heap = H := by rw [hA]; exact hT
  have hW0 : s.WarmedH s'.vm := by rw [hvm]; exact State.WarmedH.refl s
  have hat' : ∀ w ∈ vx_atS own ic cls ix rx names, w.before args s' = true := fun w hw => vx_ot_at hW0 hvm.symm (hgood w (List.mem_cons_of_mem _ (List.mem_cons_of_mem _ hw))) (hat w hw)
  have hk' : (Cond.classLink own ik cls).before args s' = true := vx_ot_at hW0 hvm.symm (hgood _ List.mem_cons_self) hk
  have hini' : (Cond.initialized cls).before args s' = true := vx_ot_at hW0 hvm.symm (hgood _ (List.mem_cons_of_mem _ List.mem_cons_self)) hini
  have hU' : vx_Zq Bundle.tN "UNASSIGNED_STACK" Bundle.steD A s' s'.heap := by rw [hhp]; exact vx_Zq.moved hW0.alike (hU.kept hS.2.1)
  have hN' : vx_Zq Bundle.tN "SUPPRESSED_SENTINEL" Bundle.listD A s' s'.heap := by rw [hhp]; exact vx_Zq.moved hW0.alike (hN.kept hS.2.1)
  have h : ∀ w ∈ Bundle.ownAtomsX own ic cls ix rx names, w.before args s' = true := vx_own hat' (vx_isRefq hU'.1) (vx_isRefq hN'.1) hU'.2.word hN'.2.word
  have hown' : s'.vm.findClass own = some m.cls := by rw [hvm]; exact hown
  have hins : (Cond.instantiable cls 6).before args s' = true := h _ (by simp [Bundle.ownAtomsX])
  obtain ⟨vm₁, cX, kX, hfX, hkX, -, -, X₁, st1⟩ := Y.newCold hexec (own := own) (C := cls) (index := ik) (n := 6) hown' hk' hins hini'
    (g := F0 m pc ls rest) rfl (by rw [hb]; exact d0) (Nat.le_refl _) (Nat.le_refl _)
  generalize hT1 : (T.setVm vm₁).pushCell { cls := cX, slots := kX.instanceTypes.map defaultValue, vm := .none } = T1 at X₁ st1
  have hcat : (Value.ref T.heap.size).category = 1 := rfl
  have hcellA : T1.heap[T.heap.size]? = some (freshCell cX kX) := by rw [← hT1]; exact State.heap_pushCell_size _ _
  have d3' : decode c.code (pc + 3) = .ok (.dup, 1) := by rw [hb]; exact d3
  have d4' : decode c.code (pc + 4) = .ok (.ldc_w is, 3) := by rw [hb]; exact d4
  have hstr' : vk_R own is text sa s' := vk_R.warm hW0 hstr
  obtain ⟨U, hsteps, hrun, hend, hW, hsame, ce, hce, hO1, hO2⟩ := zx_ctor X₁ hexec htr (own := own) (cls := cls) (names := names) (ic := ic) x0 x1 x2 x5 hown' hcls hnames h (fun x hx => nomatch hx) hfX hkX hcellA (by rw [hhp, hT]; exact Nat.le_refl _) (msg := .ref sa) rfl
    (g := { method := m, pc := pc + 7, locals := ls, stack := .ref sa :: .ref T.heap.size :: .ref T.heap.size :: rest, locked := none }) rfl hsize rfl rfl (rest := rest) rfl
    (by rw [hb]; exact d6) (by rw [hb]; exact d9) hout hRframes (by simp only [List.map_cons, List.sum_cons, hcat]; omega) hlocks
  obtain ⟨f1, f2⟩ := vx_frame hsame
  rw [hhp] at f1 f2
  have hWs : s.WarmedH U.vm := State.WarmedH.trans hW0 hW
  have hcl : s.vm.findClass cls = some ce.cls := by
    have h9 := hO2
    rw [hvm] at h9
    exact h9
  have hz1 : U.heap.size = H.size + 1 := by
    have h1 : T.heap.size < U.heap.size := (Array.getElem?_eq_some_iff.mp hce).1
    have h2 : U.heap.size ≤ s'.heap.size + (0 + 1) := hsame.2.2.1
    rw [hhp] at h2
    rw [hT] at h1
    omega
  have hall : s.sameButNew ({ U with vm := s.vm } : State) locs mc ms := by
    subst hA
    obtain ⟨e1, e2⟩ := hsame
    rw [State.setFrames_setFrames] at e1
    have h2 : (T.setVm s.vm).sameButNew ({ U with vm := s.vm } : State) [] (0 + 1) (0 + 6) := ⟨e1, e2⟩
    have h3 := X.same.trans h2
    rw [List.append_nil] at h3
    exact h3.mono hc hs
  refine ⟨U, ?_, .threw T.heap.size, hrun, hend, Or.inr ⟨T.heap.size, rfl, cls, ce, locs, hx U ce hWs.alike hz1 (by rw [← hT]; exact hce) hO1 hcl (fun q hq => f2 q hq (fun z hz => nomatch hz)), hce, hO1, hcl, hWs, hall, hf⟩⟩
  refine st1 _ ?_
  show Steps p.tables e below (T1.setTop { method := m, pc := pc + 3, locals := ls, stack := .ref T.heap.size :: rest, locked := none }) _
  jvm_step X₁.here [X₁.here.top, hexec, d3', Value.category]
  exact X₁.ldcStringW hexec (own := own) (text := text) (index := is) (a := sa) hown' hstr'.1 hstr'.2
    (g := { method := m, pc := pc + 4, locals := ls, stack := .ref T.heap.size :: .ref T.heap.size :: rest, locked := none }) rfl d4' _ hsteps
end ZW1
section ZW2
variable {l : Launch} {Ts : List Cond} {D : va_G} {cl : List vw_C} {fk : Nat → Nat → Nat} {cy : Nat → ClassId} {z0 : Nat} {sp : Nat → Nat} {tys : List (ClassId × FieldType)} {G : State → Prop} {own mn : String} {nL : Nat} {cc : ByteArray} {d : Nat} {pc : Nat}
variable {yn : Nat → MethodName} {cn : Nat → ByteArray} {ml : Nat → Nat} {rt : Nat → Option FieldType}
/-- 'throw new E("text")' -/
theorem zz_TX_newW (hsp0 : sp 18446744073709551616 = 0) {E text : String} {names : List String} {ik is ic ci k ix : Nat} {rx : ByteArray} {T : u_T} {lv : List (Nat × Value)} {st : List Value} {w : zz_W} (x0 : decode rx 0 = .ok (.aload_n 0, 1)) (x1 : decode rx 1 = .ok (.aload_n 1, 1)) (x2 : decode rx 2 = .ok (.invokespecial ix, 3)) (x5 : decode rx 5 = .ok (.return_, 1)) (hl : l.stackTraces = false) (hcls : Bundle.fit E = true) (hnames : ∀ n ∈ names, Bundle.fit n = true) (hc : cl[ci]? = some (E, T, 0))
    (hw1 : Cond.classLink own ik E ∈ Ts) (hw2 : Cond.initialized E ∈ Ts) (hR : ∀ U, G U → vk_R own is text (sp k) U) (hat : ∀ s : State, G s → ∀ args : Array Value, (∀ w ∈ Ts, w.before args s = true) → ∀ w ∈ vx_atS own ic E ix rx names, w.before args s = true)
    (hgood : ∀ w ∈ Cond.classLink own ik E :: Cond.initialized E :: vx_atS own ic E ix rx names, vx_ot w = true)
    (hU : ∀ U, G U → vx_Zq Bundle.tN "UNASSIGNED_STACK" Bundle.steD (fun q : Nat => z0 ≤ q) U U.heap) (hN : ∀ U, G U → vx_Zq Bundle.tN "SUPPRESSED_SENTINEL" Bundle.listD (fun q : Nat => z0 ≤ q) U U.heap)
    (d0 : decode cc pc = .ok (.new ik, 3)) (d3 : decode cc (pc + 3) = .ok (.dup, 1)) (d4 : decode cc (pc + 4) = .ok (.ldc_w is, 3)) (d6 : decode cc (pc + 7) = .ok (.invokespecial ic, 3)) (d9 : decode cc (pc + 10) = .ok (.athrow, 1))
    (hd : names.length + 3 ≤ d) (hd2 : zz_cs st + (13 * (names.length + 1) + 43) ≤ 64 * (d + 1)) (hs : zz_sh w) (hi : w.1 < 1024) : zz_TX l Ts D cl fk cy z0 sp tys G own mn nL cc d (pc, lv, st, w) E (zz_pu w (3, ci, 0, 0) 6) := by
  refine ⟨⟨Nat.le_succ _, Nat.le_add_right _ _⟩, ?_⟩
  intro p e R s m args below meth c X r1 r2 hx H locs n0 s0 ls hI hS hl' hn hs0 hc1 hc2
  have hc1 : w.1 + 1 - n0 ≤ R.cells := hc1
  have hc2 : w.2.1 + 6 - s0 ≤ R.slots := hc2
  have hn : n0 ≤ w.1 := hn
  have hs0 : s0 ≤ w.2.1 := hs0
  have hg := X.2.2.2.2.2.2.2.2
  have ecs : ((zz_sv z0 sp st).map fun v => v.category).sum = zz_cs st := zz_cs_sv st
  refine vx_throwSW (rest := zz_sv z0 sp st) (text := text) X.1 X.2.1 hl x0 x1 x2 x5 X.2.2.2.1 hcls hnames (X.2.2.2.2.1 _ hw1) (X.2.2.2.2.1 _ hw2) (hR s hg) (hat s hg args X.2.2.2.2.1) hgood (hU s hg) (hN s hg) hS (by rw [hl'.1]; exact X.2.2.1.symm) d0 d3 d4 d6 d9 (fun x h => (hx x h).elim) (by omega) (by rw [ecs]; omega) (by show w.1 - n0 + 1 ≤ _; omega) (by show w.2.1 - s0 + 6 ≤ _; omega) X.2.2.2.2.2.2.1 ?_ hS.2.2 (by show w.1 - n0 + 1 ≤ w.1 + 1 - n0; omega) (by show w.2.1 - s0 + 6 ≤ w.2.1 + 6 - s0; omega)
  intro t ce _ hz hce hv hcl hold
  refine ⟨rfl, zz_I_push (w := w) hsp0 hI rfl (fun j => zz_pu_g hs hi j) ?_ hz hold, ?_, ?_⟩
  · have hK := X.2.2.2.2.2.1.1 ci _ hc
    refine ⟨_, hc, ce, by have h1 := hI.1; rw [← h1]; exact hce, Option.some.inj (hcl.symm.trans hK.2.1), hv, fun k hk => absurd hk (Nat.not_lt_zero _)⟩
  · rw [hz]
    exact Nat.le_succ_of_le hS.1
  · intro q h1 h2
    rw [hold q (Nat.lt_of_lt_of_le h1 hS.1)]
    exact hS.2.1 q h1 h2
end ZW2
end
section
/-! a handler that stores what it caught by a wide place -/
section ZH2
variable {l : Launch} {Ts : List Cond} {D : va_G} {cl : List vw_C} {fk : Nat → Nat → Nat} {cy : Nat → ClassId} {z0 : Nat} {sp : Nat → Nat} {tys : List (ClassId × FieldType)} {G : State → Prop} {own mn : String} {nL : Nat} {cc : ByteArray} {d : Nat} {pc : Nat}
variable {yn : Nat → MethodName} {cn : Nat → ByteArray} {ml : Nat → Nat} {rt : Nat → Option FieldType}
/-- the method calls yq, which throws an E; the row x of its table catches it: astore, a constant, return -/
theorem zz_MH_X2 {y : MethodName} {yq index na ci N b ph i : Nat} {kv : Int} {v : Int32} {C E : String} {T : u_T} {lv : List (Nat × Value)} {as bs r : List Value} {w w1 w' : zz_W} {hh pre suf : List (Nat × Nat × Nat × Nat)} {x : Nat × Nat × Nat × Nat} (e1 : y.cls = own) (e2 : y.name = mn) (hy0 : plainName y.cls = true) (ha : zz_cs as ≤ nL)
    (hB : zz_B l Ts D cl fk cy z0 sp tys G own mn nL cc d (0, lv_args 0 as, [], w) (pc, lv, bs.reverse ++ .ref b :: r, w1))
    (hd : decode cc pc = .ok (.invokevirtual index, 3)) (hgood : ∀ w ∈ Ts, goodWord w = true) (hG : zz_GF z0 G) (hc : cl[ci]? = some (C, T, N))
    (hy : (yn yq).cls = C ∧ (yn yq).cls ≠ "java/lang/invoke/MethodHandle" ∧ (yn yq).cls ≠ "java/lang/invoke/VarHandle" ∧ (parseMethodDescriptor (yn yq).desc).map (fun d => d.parameters.length) = some na) (hml : ml yq ≤ 45) (hw : ∀ w ∈ ([.methodLink own index (yn yq), .instanceMethod (yn yq), .selects C (yn yq) (yn yq), .initialized C, .code (yn yq) (cn yq) (ml yq) (rt yq)] : List Cond), w ∈ Ts)
    (hM : zz_MX l Ts D cl fk cy z0 sp tys G yn cn ml rt d yq (.ref b :: bs) w1 E w') (hna : bs.length = na) (hb : zz_ic w1 b ci = true) (hr : zz_cs r ≤ 8)
    (hsplit : hh = pre ++ x :: suf) (hpass : ∀ z ∈ pre, z.2.2.2 ≠ 0 ∧ ∃ nm : String, Cond.classLink own z.2.2.2 nm ∈ Ts ∧ ∀ U, G U → va_Nc E nm U) (hcov : covers ⟨x.1, x.2.1, x.2.2.1, x.2.2.2⟩ pc = true) (hx0 : x.2.2.2 ≠ 0) (hlink : Cond.classLink own x.2.2.2 E ∈ Ts) (hcast : ∀ U, G U → va_Nw (.castable E E) U)
    (hph : x.2.2.1 = ph) (d0 : decode cc ph = .ok (.astore i, 2)) (hin : i < nL) (d1 : decode cc (ph + 2) = .ok (.iconst kv, 1)) (hv : Int32.ofInt kv = v) (d2 : decode cc (ph + 3) = .ok (.ireturn, 1)) : zz_MH l Ts D cl fk cy z0 sp tys G y cc nL (some .int) hh (d + 1) as w [.int v] w' := by
  subst e1 e2 hph
  have q1 := hB.1
  have q2 := hM.1
  refine ⟨⟨Nat.le_trans q1.1 q2.1, Nat.le_trans q1.2 q2.2⟩, Nat.le_refl _, ?_⟩
  refine va_MetW (cc := cc) (maxL := nL) (ret := some .int) (hh := hh) hy0 rfl ?_
  intro p e s m args below meth c s₁ B hml0 hpc
  obtain ⟨rfl, hI, hK, hGs⟩ := hpc
  have hts := atoms_spec (ws := Cond.codeWith y cc nL (some .int) hh :: Ts) B.pre
  have X : zz_X Ts D cl tys G y.cls y.name nL cc p s m (zz_sv z0 sp as).toArray meth c := ⟨B.exec, B.bytes, hml0, findClass_of_methodNamed B.named, fun w hw => hts w (List.mem_cons_of_mem _ hw), hK, B.notSynchronized, (name_of_methodNamed B.named B.method).1, hGs⟩
  have htab : c.exceptionTable.toList = tableOf hh := vx_table (x := y) B (hts _ List.mem_cons_self)
  have hl := lv_entry (zz_sv z0 sp as) (n := nL) (by rw [zz_lg_len, zz_cs_svv]; exact ha)
  rw [zz_lv_args] at hl
  rw [lg_entry_eq]
  have q3 : w.1 ≤ w1.1 := q1.1
  have q4 : w.2.1 ≤ w1.2.1 := q1.2
  have k1 := hB.2 p e (headSpec (Cond.codeWith y cc nL (some .int) hh :: Ts) { frames := d + 1, cells := w'.1 - w.1, slots := w'.2.1 - w.2.1, locals := 64 * (d + 1) }).room s m (zz_sv z0 sp as).toArray below meth c X (Nat.le_refl _) (Nat.le_refl _) s.heap [] w.1 w.2.1 (MQ below (zz_Qc D cl fk cy z0 sp [.int v] w') (zz_sv z0 sp as).toArray s (w'.1 - w.1) (w'.2.1 - w.2.1) (fun q => z0 ≤ q)) _ hI va_S.rf hl (Nat.le_refl _) (Nat.le_refl _) (by show w1.1 - w.1 ≤ w'.1 - w.1; omega) (by show w1.2.1 - w.2.1 ≤ w'.2.1 - w.2.1; omega) (fun H locs ls hI hS hl => ?_)
  · have k2 : W p l e (headSpec (Cond.codeWith y cc nL (some .int) hh :: Ts) { frames := d + 1, cells := w'.1 - w.1, slots := w'.2.1 - w.2.1, locals := 64 * (d + 1) }).room s m (zz_sv z0 sp as).toArray below meth c s.heap [] (w.1 - w.1) (w.2.1 - w.2.1) (MQ below (zz_Qc D cl fk cy z0 sp [.int v] w') (zz_sv z0 sp as).toArray s (w'.1 - w.1) (w'.2.1 - w.2.1) (fun q => z0 ≤ q)) (F0 m 0 ((lg_sl (zz_sv z0 sp as) ++ List.replicate (nL - (lg_sl (zz_sv z0 sp as)).length) Slot.unset).toArray) []) := k1
    rw [Nat.sub_self, Nat.sub_self] at k2
    exact k2
  · have hI : zz_I D cl fk cy z0 sp w1 H := hI
    have hl : lv_has ls nL (zz_lv z0 sp lv) := hl
    obtain ⟨⟨m1, m2⟩, hM⟩ := hM
    obtain ⟨i1, i2, i3, i4⟩ := zz_ic_ok hb
    have hst2 : zz_sv z0 sp (bs.reverse ++ .ref b :: r) = (zz_sv z0 sp bs).reverse ++ .ref (zz_ad z0 sp b) :: zz_sv z0 sp r := by
      rw [zz_sv_app, zz_sv_rev]
      show _ ++ zz_v z0 sp (.ref b) :: zz_sv z0 sp r = _
      rw [zz_v_ref i2]
    show W p l e _ s m (zz_sv z0 sp as).toArray below meth c H locs (w1.1 - w.1) (w1.2.1 - w.2.1) _ (F0 m pc ls (zz_sv z0 sp (bs.reverse ++ .ref b :: r)))
    rw [hst2]
    have he := zz_ws_get (fk := fk) (cy := cy) (z0 := z0) (sp := sp) i1
    rw [zz_e_o i3 i4] at he
    have hcw : CallW (headSpec (Cond.codeWith y cc nL (some .int) hh :: Ts) { frames := d + 1, cells := w'.1 - w.1, slots := w'.2.1 - w.2.1, locals := 64 * (d + 1) }).room s (zz_sv z0 sp as).toArray y.cls C index (yn yq) (cn yq) (ml yq) (rt yq) (Cond.code (yn yq) (cn yq) (ml yq) (rt yq) :: Ts) { frames := d, cells := w'.1 - w1.1, slots := w'.2.1 - w1.2.1, locals := 64 * d } (w'.1 - w1.1) (w'.2.1 - w1.2.1) na :=
      cwV na X.2.2.2.2.1 (zz_goodIn hgood (fun w h => by
        rcases List.mem_append.mp h with h | h
        · exact hw w (by simp only [List.mem_cons, List.not_mem_nil, or_false] at h ⊢; rcases h with h | h | h | h <;> simp [h])
        · rcases List.mem_cons.mp h with h | h
          · rw [h]; exact hw _ (by simp)
          · exact h)) rfl rfl rfl hy ⟨Nat.le_refl _, by show 8 + (ml yq + 11) + 64 * d ≤ 64 * (d + 1); omega⟩
    have hrun := vx_runV (As := zz_sv z0 sp bs) (rest := zz_sv z0 sp r) (g := F0 m pc ls ((zz_sv z0 sp bs).reverse ++ .ref (zz_ad z0 sp b) :: zz_sv z0 sp r)) (H := H) (locs := locs) (cells := w1.1 - w.1) (slots := w1.2.1 - w.2.1) (below := below) (meth := meth) (e := e) ⟨X.1, X.2.1, X.2.2.1, X.2.2.2.1, X.2.2.2.2.1⟩ hM hcw ⟨zz_blind hG, va_recv X.2.2.2.2.2.1 hI.2 hc he, fun U hU hW => ⟨by show (Value.ref (zz_ad z0 sp b) :: zz_sv z0 sp bs).toArray = (zz_v z0 sp (.ref b) :: zz_sv z0 sp bs).toArray; rw [zz_v_ref i2], by rw [hU]; exact hI, va_K.moved hW.alike X.2.2.2.2.2.1, zz_G_at X hG hS hU hW⟩⟩ rfl (by unfold zz_sv; rw [List.length_map]; exact hna) hl.1 rfl (lv_room (by rw [zz_cs_sv]; exact hr)) hd ⟨by show w1.1 - w.1 + (w'.1 - w1.1) ≤ w'.1 - w.1; omega, by show w1.2.1 - w.2.1 + (w'.2.1 - w1.2.1) ≤ w'.2.1 - w.2.1; omega⟩
    intro T0 hT0 X0
    rcases hrun T0 hT0 X0 with ⟨_, _, _, _, _, _, _, _, _, _, hF, _⟩ | ⟨q, st₀, t, T', L, E', ce, h0, X', hL, g1, g2, ⟨rfl, hI', hF⟩, hce, hcv, hcl, hst⟩
    · exact hF.elim
    · have hS' : va_S (fun q : Nat => z0 ≤ q) s.heap T'.heap (locs ++ L) := by
        obtain ⟨hz, hk⟩ := hF
        rw [h0] at hz hk
        refine ⟨Nat.le_trans hS.1 (by rw [g1]; exact hz), fun q h1 h2 => by rw [g1, hk q (Nat.lt_of_lt_of_le h1 hS.1) h2]; exact hS.2.1 q h1 h2, fun q hq => ?_⟩
        rcases List.mem_append.mp hq with h | h
        · exact hS.2.2 q h
        · exact hL q h
      have n1 : w1.1 - w.1 + (w'.1 - w1.1) = w'.1 - w.1 := by omega
      have n2 : w1.2.1 - w.2.1 + (w'.2.1 - w1.2.1) = w'.2.1 - w.2.1 := by omega
      have hW : W p l e (headSpec (Cond.codeWith y cc nL (some .int) hh :: Ts) { frames := d + 1, cells := w'.1 - w.1, slots := w'.2.1 - w.2.1, locals := 64 * (d + 1) }).room s m (zz_sv z0 sp as).toArray below meth c T'.heap (locs ++ L) (w1.1 - w.1 + (w'.1 - w1.1)) (w1.2.1 - w.2.1 + (w'.2.1 - w1.2.1)) (MQ below (zz_Qc D cl fk cy z0 sp [.int v] w') (zz_sv z0 sp as).toArray s (w'.1 - w.1) (w'.2.1 - w.2.1) (fun q => z0 ≤ q)) (F0 m x.2.2.1 ls [.ref q]) := by
        rw [n1, n2]
        exact lv_astore X.1 X.2.1 d0 hl hin rfl fun ls' _ => lv_iconst X.1 X.2.1 d1 hv (W.iret X.1 X.2.1 B.returns (fun t9 ht9 _ => ⟨⟨rfl, by rw [ht9, g1]; exact hI'⟩, hS'.F ht9⟩) hS'.2.2 d2 X.2.2.2.2.2.2.1)
      obtain ⟨t2, a1, b1⟩ := vx_catch (own := y.cls) (name := E') (E := E') (ce := ce) (q := q) (pc := pc) (ls := ls) (rest := zz_sv z0 sp r) X.2.2.2.1 (tableOf pre) ⟨x.1, x.2.1, x.2.2.1, x.2.2.2⟩ (tableOf suf) (by rw [htab, hsplit]; unfold tableOf; rw [List.map_append, List.map_cons]) (fun z hz => by
        obtain ⟨z', hz', rfl⟩ := List.mem_map.mp hz
        obtain ⟨hz0, nm, hl1, hn1⟩ := hpass z' hz'
        exact Or.inr ⟨hz0, nm, X.2.2.2.2.1 _ hl1, hn1 s hGs⟩) hcov hx0 (X.2.2.2.2.1 _ hlink) (va_Nw.use rfl (hcast s hGs)) (by rw [g1]; exact hce) hcv hcl hW T' rfl X'
      exact ⟨t2, hst.trans a1, b1⟩
end ZH2
end
section
/-! a text by a wide index -/
section ZLW1
variable {p : Program} {l : Launch} {e : Env} {R : Room} {s : State} {m : MethodId} {args : Array Value} {below : List Frame} {meth : Method} {c : Code} {H : Heap} {locs : List Loc} {cells slots : Nat} {Q : State → Prop}
theorem zo_vldcSW {cc : ByteArray} {pc : Nat} {ls : Array Slot} {rest : List Value} (hexec : p.tables.exec = Jvm.exec) (hb : c.code = cc) {own tx : String} {index q : Nat} (hown : s.vm.findClass own = some m.cls) (hZ : vk_R own index tx q s) (hdg : decode cc pc = .ok (.ldc_w index, 3))
    (k : W p l e R s m args below meth c H locs cells slots Q (F0 m (pc + 3) ls (.ref q :: rest))) : W p l e R s m args below meth c H locs cells slots Q (F0 m pc ls rest) := by
  intro T hT X
  obtain ⟨t, a1, b1⟩ := k T hT X
  exact ⟨t, X.ldcStringW hexec hown (text := tx) (a := q) hZ.1 hZ.2 (g := F0 m pc ls rest) rfl (by rw [hb]; exact hdg) t a1, b1⟩
end ZLW1
section ZLW2
variable {l : Launch} {Ts : List Cond} {D : va_G} {cl : List vw_C} {fk : Nat → Nat → Nat} {cy : Nat → ClassId} {z0 : Nat} {sp : Nat → Nat} {tys : List (ClassId × FieldType)} {G : State → Prop} {own mn : String} {nL : Nat} {cc : ByteArray} {d : Nat} {K : zz_K} {pc : Nat}
theorem zo_ldcSW {index k : Nat} {tx : String} (hd : decode cc pc = .ok (.ldc_w index, 3)) (hR : ∀ U, G U → vk_R own index tx (sp k) U) : zz_O l Ts D cl fk cy z0 sp tys G own mn nL cc d K pc (za_const (.ref (1000000 + k)) (pc + 3)) :=
  zo_still (fun f f' _ hf => by
    cases hf
    refine ⟨rfl, fun p e R s m args below meth c H locs cells slots Q ls X hS hl kk => ?_⟩
    have k1 := kk ls hl
    have e1 : zz_sv z0 sp (Value.ref (1000000 + k) :: f.2.2.1) = .ref (sp k) :: zz_sv z0 sp f.2.2.1 := by
      show Value.ref (zz_r z0 sp (1000000 + k)) :: _ = _
      rw [zz_r, if_neg (by omega), show 1000000 + k - 1000000 = k by omega]
      rfl
    rw [e1] at k1
    exact zo_vldcSW X.1 X.2.1 X.2.2.2.1 (hR s X.2.2.2.2.2.2.2.2) hd k1) (fun f f' hf => by cases hf; rfl)
end ZLW2
end
