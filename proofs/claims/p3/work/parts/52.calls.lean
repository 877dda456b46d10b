/-! CALLS -/
/-- what is known of the things that stood there before: it stays when cells above z0 alone change -/
def zz_GF (z0 : Nat) (G : State → Prop) : Prop := zz_GS z0 G ∧ (∀ U V : State, V.vm = U.vm → V.heap = U.heap → G U → G V) ∧ ∀ U, G U → z0 ≤ U.heap.size
noncomputable def zz_tk {β : Type} (na : Nat) : List Value → List Value → (List Value → List Value → Option β) → Option β :=
  Nat.rec (motive := fun _ => List Value → List Value → (List Value → List Value → Option β) → Option β) (fun st acc k => k acc st) (fun _ ih st acc k => List.casesOn st none (fun x xs => ih xs (x :: acc) k)) na
theorem zz_tk_ok {β : Type} {k : List Value → List Value → Option β} {b : β} : ∀ (na : Nat) (st acc : List Value), zz_tk na st acc k = some b → ∃ as rest, st = as.reverse ++ rest ∧ as.length = na ∧ k (as ++ acc) rest = some b
  | 0, st, acc, h => ⟨[], st, rfl, rfl, h⟩
  | na + 1, [], acc, h => by cases h
  | na + 1, x :: xs, acc, h => by
    have h : zz_tk na xs (x :: acc) k = some b := h
    obtain ⟨as, rest, e1, e2, e3⟩ := zz_tk_ok na xs (x :: acc) h
    refine ⟨as ++ [x], rest, ?_, ?_, ?_⟩
    · rw [e1]; simp
    · rw [List.length_append, e2]; rfl
    · rw [List.append_assoc]; exact e3
/-- what a call leaves: its answer, if it has one, above the rest -/
noncomputable def zz_cr (n : Nat) (lv : List (Nat × Value)) (r : List Value) (q : Option (List Value × zz_W)) : Option zz_F :=
  Option.casesOn q none (fun q => List.casesOn q.1 (some (n, lv, r, q.2)) (fun v _ => some (n, lv, v :: r, q.2)))
theorem zz_cr_ok {n : Nat} {lv : List (Nat × Value)} {r : List Value} {q : Option (List Value × zz_W)} {f' : zz_F} (h : zz_cr n lv r q = some f') : ∃ rv w', q = some (rv, w') ∧ (rv.length ≤ 1 → f' = (n, lv, rv ++ r, w')) ∧ f'.2.2.2 = w' := by
  cases q with
  | none => cases h
  | some q =>
    obtain ⟨rv, w'⟩ := q
    cases rv with
    | nil => cases h; exact ⟨[], w', rfl, fun _ => rfl, rfl⟩
    | cons v t =>
      cases h
      refine ⟨v :: t, w', rfl, fun hl => ?_, rfl⟩
      have : t = [] := List.length_eq_zero_iff.mp (by simpa using hl)
      subst this
      rfl
def zz_ic (w : zz_W) (i ci : Nat) : Bool := Nat.blt i w.1 && (Nat.blt i 1000000 && (Nat.beq (zz_g w i).1 3 && Nat.beq (zz_g w i).2.1 ci))
theorem zz_ic_ok {w : zz_W} {i ci : Nat} (h : zz_ic w i ci = true) : i < w.1 ∧ i < 1000000 ∧ (zz_g w i).1 = 3 ∧ (zz_g w i).2.1 = ci := by
  unfold zz_ic at h
  obtain ⟨h1, h⟩ := zz_and h
  obtain ⟨h2, h⟩ := zz_and h
  obtain ⟨h3, h4⟩ := zz_and h
  exact ⟨zz_blt h1, zz_blt h2, zz_beq h3, zz_beq h4⟩
noncomputable def za_callV (ci y na n : Nat) : zz_A := fun K f => zz_tk na f.2.2.1 [] (fun as r => match r with
  | .ref b :: r' => cond (zz_ic f.2.2.2 b ci && Nat.ble (zz_cs r') 8) (zz_cr n f.2.1 r' (K y (.ref b :: as) f.2.2.2)) none
  | _ => none)
noncomputable def za_callS (y na n : Nat) : zz_A := fun K f => zz_tk na f.2.2.1 [] (fun as r => cond (Nat.ble (zz_cs r) 8) (zz_cr n f.2.1 r (K y as f.2.2.2)) none)
section ZY
variable {l : Launch} {Ts : List Cond} {D : va_G} {cl : List vw_C} {fk : Nat → Nat → Nat} {cy : Nat → ClassId} {z0 : Nat} {sp : Nat → Nat} {tys : List (ClassId × FieldType)} {G : State → Prop} {own mn : String} {nL : Nat} {cc : ByteArray} {d : Nat} {K : zz_K} {pc : Nat}
variable {yn : Nat → MethodName} {cn : Nat → ByteArray} {ml : Nat → Nat} {rt : Nat → Option FieldType}
theorem zz_sv_app (a b : List Value) : zz_sv z0 sp (a ++ b) = zz_sv z0 sp a ++ zz_sv z0 sp b := List.map_append
theorem zz_sv_rev (a : List Value) : zz_sv z0 sp a.reverse = (zz_sv z0 sp a).reverse := List.map_reverse
theorem zz_blind {as : List Value} {w : zz_W} (hG : zz_GF z0 G) : FrameBlind (zz_Pc D cl fk cy z0 sp tys G as w) := fun a U g mk q => ⟨q.1, q.2.1, va_K.moved (u := U) (U := U.calling g mk a) (Vm.Alike.refl U.vm) q.2.2.1, hG.2.1 U (U.calling g mk a) rfl rfl q.2.2.2⟩
/-- G holds at every call -/
theorem zz_G_at {p : Program} {s : State} {m : MethodId} {args : Array Value} {meth : Method} {c : Code} (X : zz_X Ts D cl tys G own mn nL cc p s m args meth c) (hG : zz_GF z0 G) {H : Heap} {locs : List Loc} (hS : va_S (fun q : Nat => z0 ≤ q) s.heap H locs) {U : State} (hU : U.heap = H) (hW : s.WarmedH U.vm) : G U := by
  have hg := X.2.2.2.2.2.2.2.2
  have hz := hG.2.2 s hg
  refine hG.1 s U hW hz (fun q hq => ?_) hg
  rw [hU]
  exact hS.2.1 q (Nat.lt_of_lt_of_le hq hz) (by omega)
/-- behind a call -/
theorem zz_behind {p : Program} {e : Env} {R : Room} {s : State} {m : MethodId} {args : Array Value} {below : List Frame} {meth : Method} {c : Code} {H : Heap} {locs : List Loc} {cells slots mc ms : Nat} {Q : State → Prop} {ls : Array Slot} {st0 rest : List Value} {a : Array Value} {rv : List Value} {w' : zz_W} {pc : Nat} (hrv : rv.length ≤ 1)
    (hr : va_Run p l e R s m args below meth c H locs cells slots mc ms (F0 m pc ls st0) (zz_sv z0 sp rest) (zz_Qc D cl fk cy z0 sp rv w' a) (fun q => z0 ≤ q)) (hS : va_S (fun q : Nat => z0 ≤ q) s.heap H locs)
    (kk : ∀ (H1 : Heap) (locs1 : List Loc), zz_I D cl fk cy z0 sp w' H1 → va_S (fun q : Nat => z0 ≤ q) s.heap H1 locs1 → W p l e R s m args below meth c H1 locs1 (cells + mc) (slots + ms) Q (F0 m (pc + 3) ls (zz_sv z0 sp (rv ++ rest)))) : W p l e R s m args below meth c H locs cells slots Q (F0 m pc ls st0) := by
  intro T hT X
  obtain ⟨v, st₀, t, T', L, h0, X', hL, e1, e2, ⟨⟨hv, hI⟩, hz, hk⟩, st⟩ := hr T hT X
  rw [h0] at hz hk
  have hv : v = (zz_sv z0 sp rv).head? := by
    injection hv
  obtain ⟨t2, a1, b1⟩ := kk T'.heap (locs ++ L) (by rw [e1]; exact hI)
    ⟨Nat.le_trans hS.1 (by rw [e1]; exact hz), fun q h1 h2 => by rw [e1, hk q (Nat.lt_of_lt_of_le h1 hS.1) h2]; exact hS.2.1 q h1 h2, fun q hq => by
      rcases List.mem_append.mp hq with h | h
      · exact hS.2.2 q h
      · exact hL q h⟩ T' rfl X'
  refine ⟨t2, st t2 ?_, b1⟩
  have e3 : v.toList ++ zz_sv z0 sp rest = zz_sv z0 sp (rv ++ rest) := by
    rw [hv]
    match rv, hrv with
    | [], _ => rfl
    | [x], _ => rfl
    | _ :: _ :: _, h => exact absurd h (by simp)
  rw [e3]
  exact a1
theorem zz_goodIn {ws : List Cond} (hgood : ∀ w ∈ Ts, goodWord w = true) (h : ∀ w ∈ ws, w ∈ Ts) : GoodIn Ts ws := fun w hw => ⟨h w hw, good_of_word (hgood w (h w hw))⟩
theorem zo_callV {y index na ci N : Nat} {C : String} {T : u_T} (hd : decode cc pc = .ok (.invokevirtual index, 3)) (hKS : zz_KS l D cl fk cy z0 sp tys G yn (fun y => Cond.code (yn y) (cn y) (ml y) (rt y) :: Ts) d K) (hgood : ∀ w ∈ Ts, goodWord w = true) (hG : zz_GF z0 G) (hc : cl[ci]? = some (C, T, N))
    (hy : (yn y).cls = C ∧ (yn y).cls ≠ "java/lang/invoke/MethodHandle" ∧ (yn y).cls ≠ "java/lang/invoke/VarHandle" ∧ (parseMethodDescriptor (yn y).desc).map (fun d => d.parameters.length) = some na) (hml : ml y ≤ 45) (hw : ∀ w ∈ ([.methodLink own index (yn y), .instanceMethod (yn y), .selects C (yn y) (yn y), .initialized C, .code (yn y) (cn y) (ml y) (rt y)] : List Cond), w ∈ Ts) : zz_O l Ts D cl fk cy z0 sp tys G own mn nL cc d K pc (za_callV ci y na (pc + 3)) := by
  refine ⟨fun f f' hf => ?_, ?_⟩
  · unfold za_callV at hf
    obtain ⟨as, r, -, -, hf⟩ := zz_tk_ok _ _ _ hf
    split at hf
    · obtain ⟨-, hf⟩ := zz_cond hf
      obtain ⟨rv, w', hq, -, e1⟩ := zz_cr_ok hf
      rw [e1]
      exact (hKS _ _ _ _ _ hq).1
    · cases hf
  · intro p e R s m args below meth c X hR1 hR2 H locs n0 s0 Q ls f f' hpc hf hI hS hl hn hs hc1 hc2 kk
    unfold za_callV at hf
    obtain ⟨as, r, hst, hlen, hf⟩ := zz_tk_ok _ _ _ hf
    split at hf
    · rename_i b r'
      obtain ⟨hb, hf⟩ := zz_cond hf
      obtain ⟨hb1, hb2⟩ := zz_and hb
      obtain ⟨i1, i2, i3, i4⟩ := zz_ic_ok hb1
      obtain ⟨rv, w', hq, e1, e2⟩ := zz_cr_ok hf
      obtain ⟨⟨m1, m2⟩, hrv, hM⟩ := hKS _ _ _ _ _ hq
      have e1 := e1 hrv
      subst e1
      rw [List.append_nil] at hM
      have hst2 : zz_sv z0 sp f.2.2.1 = (zz_sv z0 sp as).reverse ++ .ref (zz_ad z0 sp b) :: zz_sv z0 sp r' := by
        rw [hst, zz_sv_app, zz_sv_rev]
        show _ ++ zz_v z0 sp (.ref b) :: zz_sv z0 sp r' = _
        rw [zz_v_ref i2]
      rw [hst2]
      have he := zz_ws_get (fk := fk) (cy := cy) (z0 := z0) (sp := sp) i1
      rw [zz_e_o i3 i4] at he
      have hcw : CallW R s args own C index (yn y) (cn y) (ml y) (rt y) (Cond.code (yn y) (cn y) (ml y) (rt y) :: Ts) { frames := d, cells := w'.1 - f.2.2.2.1, slots := w'.2.1 - f.2.2.2.2.1, locals := 64 * d } (w'.1 - f.2.2.2.1) (w'.2.1 - f.2.2.2.2.1) na :=
        cwV na X.2.2.2.2.1 (zz_goodIn hgood (fun w h => by
          rcases List.mem_append.mp h with h | h
          · exact hw w (by simp only [List.mem_cons, List.not_mem_nil, or_false] at h ⊢; rcases h with h | h | h | h <;> simp [h])
          · rcases List.mem_cons.mp h with h | h
            · rw [h]; exact hw _ (by simp)
            · exact h)) rfl rfl rfl hy ⟨hR1, by show 8 + (ml y + 11) + 64 * d ≤ _; omega⟩
      have hc1' : w'.1 - n0 ≤ R.cells := hc1
      have hc2' : w'.2.1 - s0 ≤ R.slots := hc2
      refine zz_behind (fk := fk) (cy := cy) (D := D) (cl := cl) (mc := w'.1 - f.2.2.2.1) (ms := w'.2.1 - f.2.2.2.2.1) (rest := r') hrv (va_runV (As := zz_sv z0 sp as) ⟨X.1, X.2.1, X.2.2.1, X.2.2.2.1, X.2.2.2.2.1⟩ hM hcw ⟨zz_blind hG, va_recv X.2.2.2.2.2.1 hI.2 hc he, fun U hU hW => ⟨by show (Value.ref (zz_ad z0 sp b) :: zz_sv z0 sp as).toArray = (zz_v z0 sp (.ref b) :: zz_sv z0 sp as).toArray; rw [zz_v_ref i2], by rw [hU]; exact hI, va_K.moved hW.alike X.2.2.2.2.2.1, zz_G_at X hG hS hU hW⟩⟩ rfl (by unfold zz_sv; rw [List.length_map]; exact hlen) hl.1 rfl (lv_room (by rw [zz_cs_sv]; exact zz_ble hb2)) hd ⟨by omega, by omega⟩) hS fun H1 locs1 hI1 hS1 => ?_
      have k1 := kk H1 locs1 ls hI1 hS1 hl
      have q1 : w'.1 - n0 = f.2.2.2.1 - n0 + (w'.1 - f.2.2.2.1) := by omega
      have q2 : w'.2.1 - s0 = f.2.2.2.2.1 - s0 + (w'.2.1 - f.2.2.2.2.1) := by omega
      have k2 : W p l e R s m args below meth c H1 locs1 (w'.1 - n0) (w'.2.1 - s0) Q (F0 m (pc + 3) ls (zz_sv z0 sp (rv ++ r'))) := k1
      rw [q1, q2] at k2
      exact k2
    · cases hf
theorem zo_callI {y index na ci N : Nat} {C : String} {T : u_T} (hd : decode cc pc = .ok (.invokespecial index, 3)) (hKS : zz_KS l D cl fk cy z0 sp tys G yn (fun y => Cond.code (yn y) (cn y) (ml y) (rt y) :: Ts) d K) (hgood : ∀ w ∈ Ts, goodWord w = true) (hG : zz_GF z0 G) (hrt : rt y = none) (hnm : (yn y).name = "<init>")
    (hy : (yn y).cls ≠ "java/lang/invoke/MethodHandle" ∧ (yn y).cls ≠ "java/lang/invoke/VarHandle" ∧ (parseMethodDescriptor (yn y).desc).map (fun d => d.parameters.length) = some na) (hml : ml y ≤ 45) (hw : ∀ w ∈ ([.methodLink own index (yn y), .instanceMethod (yn y), .initialized (yn y).cls, .code (yn y) (cn y) (ml y) (rt y)] : List Cond), w ∈ Ts) : zz_O l Ts D cl fk cy z0 sp tys G own mn nL cc d K pc (za_callV ci y na (pc + 3)) := by
  refine ⟨fun f f' hf => ?_, ?_⟩
  · unfold za_callV at hf
    obtain ⟨as, r, -, -, hf⟩ := zz_tk_ok _ _ _ hf
    split at hf
    · obtain ⟨-, hf⟩ := zz_cond hf
      obtain ⟨rv, w', hq, -, e1⟩ := zz_cr_ok hf
      rw [e1]
      exact (hKS _ _ _ _ _ hq).1
    · cases hf
  · intro p e R s m args below meth c X hR1 hR2 H locs n0 s0 Q ls f f' hpc hf hI hS hl hn hs hc1 hc2 kk
    unfold za_callV at hf
    obtain ⟨as, r, hst, hlen, hf⟩ := zz_tk_ok _ _ _ hf
    split at hf
    · rename_i b r'
      obtain ⟨hb, hf⟩ := zz_cond hf
      obtain ⟨hb1, hb2⟩ := zz_and hb
      obtain ⟨i1, i2, i3, i4⟩ := zz_ic_ok hb1
      obtain ⟨rv, w', hq, e1, e2⟩ := zz_cr_ok hf
      obtain ⟨⟨m1, m2⟩, hrv, hM⟩ := hKS _ _ _ _ _ hq
      have e1 := e1 hrv
      subst e1
      rw [List.append_nil] at hM
      have hst2 : zz_sv z0 sp f.2.2.1 = (zz_sv z0 sp as).reverse ++ .ref (zz_ad z0 sp b) :: zz_sv z0 sp r' := by
        rw [hst, zz_sv_app, zz_sv_rev]
        show _ ++ zz_v z0 sp (.ref b) :: zz_sv z0 sp r' = _
        rw [zz_v_ref i2]
      rw [hst2]
      have hw0 := hw
      rw [hrt] at hw0
      have hcw : CallB R s args own index (yn y) (cn y) (ml y) none (Cond.code (yn y) (cn y) (ml y) (rt y) :: Ts) { frames := d, cells := w'.1 - f.2.2.2.1, slots := w'.2.1 - f.2.2.2.2.1, locals := 64 * d } (w'.1 - f.2.2.2.1) (w'.2.1 - f.2.2.2.2.1) na ∧ (yn y).name = "<init>" ∧ (Cond.instanceMethod (yn y)).before args s = true :=
        cwI na X.2.2.2.2.1 (zz_goodIn hgood (fun w h => by
          rcases List.mem_cons.mp h with h | h
          · rw [h]; exact hw _ (by simp)
          · exact h)) (by rw [hrt]) rfl rfl (X.2.2.2.2.1 _ (hw _ (by simp))) (X.2.2.2.2.1 _ (hw _ (by simp))) (X.2.2.2.2.1 _ (hw _ (by simp))) hnm hy ⟨hR1, by show 8 + (ml y + 11) + 64 * d ≤ _; omega⟩
      have hc1' : w'.1 - n0 ≤ R.cells := hc1
      have hc2' : w'.2.1 - s0 ≤ R.slots := hc2
      refine zz_behind (fk := fk) (cy := cy) (D := D) (cl := cl) (mc := w'.1 - f.2.2.2.1) (ms := w'.2.1 - f.2.2.2.2.1) (rest := r') hrv (va_runI (As := zz_sv z0 sp as) (b := zz_ad z0 sp b) ⟨X.1, X.2.1, X.2.2.1, X.2.2.2.1, X.2.2.2.2.1⟩ hM hcw ⟨zz_blind hG, fun U hU hW => ⟨by show (Value.ref (zz_ad z0 sp b) :: zz_sv z0 sp as).toArray = (zz_v z0 sp (.ref b) :: zz_sv z0 sp as).toArray; rw [zz_v_ref i2], by rw [hU]; exact hI, va_K.moved hW.alike X.2.2.2.2.2.1, zz_G_at X hG hS hU hW⟩⟩ rfl (by unfold zz_sv; rw [List.length_map]; exact hlen) hl.1 rfl (lv_room (by rw [zz_cs_sv]; exact zz_ble hb2)) hd ⟨by omega, by omega⟩) hS fun H1 locs1 hI1 hS1 => ?_
      have k1 := kk H1 locs1 ls hI1 hS1 hl
      have q1 : w'.1 - n0 = f.2.2.2.1 - n0 + (w'.1 - f.2.2.2.1) := by omega
      have q2 : w'.2.1 - s0 = f.2.2.2.2.1 - s0 + (w'.2.1 - f.2.2.2.2.1) := by omega
      have k2 : W p l e R s m args below meth c H1 locs1 (w'.1 - n0) (w'.2.1 - s0) Q (F0 m (pc + 3) ls (zz_sv z0 sp (rv ++ r'))) := k1
      rw [q1, q2] at k2
      exact k2
    · cases hf
theorem zo_callS {y index na : Nat} (hd : decode cc pc = .ok (.invokestatic index, 3)) (hKS : zz_KS l D cl fk cy z0 sp tys G yn (fun y => Cond.code (yn y) (cn y) (ml y) (rt y) :: Ts) d K) (hgood : ∀ w ∈ Ts, goodWord w = true) (hG : zz_GF z0 G)
    (hy : (yn y).cls ≠ "java/lang/invoke/MethodHandle" ∧ (yn y).cls ≠ "java/lang/invoke/VarHandle" ∧ (parseMethodDescriptor (yn y).desc).map (fun d => d.parameters.length) = some na) (hml : ml y ≤ 45) (hw : ∀ w ∈ ([.methodLink own index (yn y), .static (yn y), .initialized (yn y).cls, .code (yn y) (cn y) (ml y) (rt y)] : List Cond), w ∈ Ts) : zz_O l Ts D cl fk cy z0 sp tys G own mn nL cc d K pc (za_callS y na (pc + 3)) := by
  refine ⟨fun f f' hf => ?_, ?_⟩
  · unfold za_callS at hf
    obtain ⟨as, r, -, -, hf⟩ := zz_tk_ok _ _ _ hf
    obtain ⟨-, hf⟩ := zz_cond hf
    obtain ⟨rv, w', hq, -, e1⟩ := zz_cr_ok hf
    rw [e1]
    exact (hKS _ _ _ _ _ hq).1
  · intro p e R s m args below meth c X hR1 hR2 H locs n0 s0 Q ls f f' hpc hf hI hS hl hn hs hc1 hc2 kk
    unfold za_callS at hf
    obtain ⟨as, r', hst, hlen, hf⟩ := zz_tk_ok _ _ _ hf
    obtain ⟨hb2, hf⟩ := zz_cond hf
    obtain ⟨rv, w', hq, e1, e2⟩ := zz_cr_ok hf
    obtain ⟨⟨m1, m2⟩, hrv, hM⟩ := hKS _ _ _ _ _ hq
    have e1 := e1 hrv
    subst e1
    rw [List.append_nil] at hM
    have hst2 : zz_sv z0 sp f.2.2.1 = (zz_sv z0 sp as).reverse ++ zz_sv z0 sp r' := by
      rw [hst, zz_sv_app, zz_sv_rev]
    rw [hst2]
    have hcw : CallB R s args own index (yn y) (cn y) (ml y) (rt y) (Cond.code (yn y) (cn y) (ml y) (rt y) :: Ts) { frames := d, cells := w'.1 - f.2.2.2.1, slots := w'.2.1 - f.2.2.2.2.1, locals := 64 * d } (w'.1 - f.2.2.2.1) (w'.2.1 - f.2.2.2.2.1) na ∧ (Cond.static (yn y)).before args s = true :=
      ⟨callB_of na X.2.2.2.2.1 (zz_goodIn hgood (fun w h => by
          rcases List.mem_cons.mp h with h | h
          · rw [h]; exact hw _ (by simp)
          · exact h)) rfl rfl rfl (X.2.2.2.2.1 _ (hw _ (by simp))) (X.2.2.2.2.1 _ (hw _ (by simp))) hy ⟨hR1, by show 8 + (ml y + 11) + 64 * d ≤ _; omega⟩, X.2.2.2.2.1 _ (hw _ (by simp))⟩
    have hc1' : w'.1 - n0 ≤ R.cells := hc1
    have hc2' : w'.2.1 - s0 ≤ R.slots := hc2
    refine zz_behind (fk := fk) (cy := cy) (D := D) (cl := cl) (mc := w'.1 - f.2.2.2.1) (ms := w'.2.1 - f.2.2.2.2.1) (rest := r') hrv (va_runS (As := zz_sv z0 sp as) ⟨X.1, X.2.1, X.2.2.1, X.2.2.2.1, X.2.2.2.2.1⟩ hM hcw ⟨zz_blind hG, fun U hU hW => ⟨rfl, by rw [hU]; exact hI, va_K.moved hW.alike X.2.2.2.2.2.1, zz_G_at X hG hS hU hW⟩⟩ rfl (by unfold zz_sv; rw [List.length_map]; exact hlen) hl.1 rfl (lv_room (by rw [zz_cs_sv]; exact zz_ble hb2)) hd ⟨by omega, by omega⟩) hS fun H1 locs1 hI1 hS1 => ?_
    have k1 := kk H1 locs1 ls hI1 hS1 hl
    have q1 : w'.1 - n0 = f.2.2.2.1 - n0 + (w'.1 - f.2.2.2.1) := by omega
    have q2 : w'.2.1 - s0 = f.2.2.2.2.1 - s0 + (w'.2.1 - f.2.2.2.2.1) := by omega
    have k2 : W p l e R s m args below meth c H1 locs1 (w'.1 - n0) (w'.2.1 - s0) Q (F0 m (pc + 3) ls (zz_sv z0 sp (rv ++ r'))) := k1
    rw [q1, q2] at k2
    exact k2
end ZY
