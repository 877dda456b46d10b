/-! CALLS OF INHERITED METHODS, of a superclass's own -/
/-- a private method of a class above C is selected as it is; C and its class are told by a word of another method of that class -/
theorem zz_selUp {C : String} {y z : MethodName} {s : State} {args : Array Value} (hz : (Cond.selects C z z).before args s = true) (hcls : z.cls = y.cls) (hy : y.cls ≠ "java/lang/invoke/MethodHandle" ∧ y.cls ≠ "java/lang/invoke/VarHandle")
    (hpriv : (Cond.privateMethod y).before args s = true) (hinst : (Cond.instanceMethod y).before args s = true) : (Cond.selects C y y).before args s = true := by
  obtain ⟨c2, r2, m2, q1, q2, q3, q4, kP, hkP, hkPi⟩ := Cond.selects_spec hz
  obtain ⟨mk, methM, hnamed, hmethM, -, -⟩ := Cond.instanceMethod_spec hinst
  have hfound : s.methodFound? y.cls y.name y.desc = some mk := State.methodFound?_of_named hnamed hy
  have hsel : selectMethod {} s.vm c2 mk = .method mk := selectMethod_private hmethM (Cond.privateMethod_at hpriv mk methM hnamed hmethM)
  have h1 := findClass_of_methodNamed q3
  have h2 := findClass_of_methodNamed hnamed
  rw [hcls] at h1
  have hc : m2.cls = mk.cls := Option.some.inj (h1.symm.trans h2)
  rw [hc] at hkP
  simp only [Cond.before, Cond.holds, Cond.value, q1, hfound, hnamed, hsel, hkP]
  simp; exact hkPi
section ZUP
variable {l : Launch} {Ts : List Cond} {D : va_G} {cl : List vw_C} {fk : Nat → Nat → Nat} {cy : Nat → ClassId} {z0 : Nat} {sp : Nat → Nat} {tys : List (ClassId × FieldType)} {G : State → Prop} {own mn : String} {nL : Nat} {cc : ByteArray} {d : Nat} {K : zz_K} {pc : Nat}
variable {yn : Nat → MethodName} {cn : Nat → ByteArray} {ml : Nat → Nat} {rt : Nat → Option FieldType}
theorem zo_callU {y index na ci N : Nat} {C : String} {T : u_T} (hd : decode cc pc = .ok (.invokevirtual index, 3)) (hKS : zz_KS l D cl fk cy z0 sp tys G yn (fun y => Cond.code (yn y) (cn y) (ml y) (rt y) :: Ts) d K) (hgood : ∀ w ∈ Ts, goodWord w = true) (hG : zz_GF z0 G) (hc : cl[ci]? = some (C, T, N))
    (hy : (yn y).cls ≠ "java/lang/invoke/MethodHandle" ∧ (yn y).cls ≠ "java/lang/invoke/VarHandle" ∧ (parseMethodDescriptor (yn y).desc).map (fun d => d.parameters.length) = some na) (hml : ml y ≤ 45) (hw : ∀ w ∈ ([.methodLink own index (yn y), .instanceMethod (yn y), .selects C (yn y) (yn y), .initialized (yn y).cls, .code (yn y) (cn y) (ml y) (rt y)] : List Cond), w ∈ Ts) : zz_O l Ts D cl fk cy z0 sp tys G own mn nL cc d K pc (za_callV ci y na (pc + 3)) := by
  refine ⟨fun f f' hf => ?_, ?_⟩
  · unfold za_callV at hf
    obtain ⟨as, r, -, -, hf⟩ := zz_tk_ok _ _ _ hf
    split at hf
    · obtain ⟨-, hf⟩ := zz_cond hf
      obtain ⟨rv, w', hq, -, e1⟩ := zz_cr_ok hf
      rw [e1]
      exact (hKS _ _ _ _ _ hq).1
    · cases hf
  · intro p e R s m args below meth c X hR1 hR2 H locs n0 s0 Q ls f f' hpc hf hI hS hl hn hs hc1 hc2 kk
    unfold za_callV at hf
    obtain ⟨as, r, hst, hlen, hf⟩ := zz_tk_ok _ _ _ hf
    split at hf
    · rename_i b r'
      obtain ⟨hb, hf⟩ := zz_cond hf
      obtain ⟨hb1, hb2⟩ := zz_and hb
      obtain ⟨i1, i2, i3, i4⟩ := zz_ic_ok hb1
      obtain ⟨rv, w', hq, e1, e2⟩ := zz_cr_ok hf
      obtain ⟨⟨m1, m2⟩, hrv, hM⟩ := hKS _ _ _ _ _ hq
      have e1 := e1 hrv
      subst e1
      rw [List.append_nil] at hM
      have hst2 : zz_sv z0 sp f.2.2.1 = (zz_sv z0 sp as).reverse ++ .ref (zz_ad z0 sp b) :: zz_sv z0 sp r' := by
        rw [hst, zz_sv_app, zz_sv_rev]
        show _ ++ zz_v z0 sp (.ref b) :: zz_sv z0 sp r' = _
        rw [zz_v_ref i2]
      rw [hst2]
      have he := zz_ws_get (fk := fk) (cy := cy) (z0 := z0) (sp := sp) i1
      rw [zz_e_o i3 i4] at he
      have hcw : CallW R s args own C index (yn y) (cn y) (ml y) (rt y) (Cond.code (yn y) (cn y) (ml y) (rt y) :: Ts) { frames := d, cells := w'.1 - f.2.2.2.1, slots := w'.2.1 - f.2.2.2.2.1, locals := 64 * d } (w'.1 - f.2.2.2.1) (w'.2.1 - f.2.2.2.2.1) na :=
        ⟨callB_of na X.2.2.2.2.1 (zz_goodIn hgood (fun w h => by
          rcases List.mem_cons.mp h with h | h
          · rw [h]; exact hw _ (by simp)
          · exact h)) rfl rfl rfl (X.2.2.2.2.1 _ (hw _ (by simp))) (X.2.2.2.2.1 _ (hw _ (by simp))) hy ⟨hR1, by show 8 + (ml y + 11) + 64 * d ≤ _; omega⟩, X.2.2.2.2.1 _ (hw _ (by simp)), X.2.2.2.2.1 _ (hw _ (by simp))⟩
      have hc1' : w'.1 - n0 ≤ R.cells := hc1
      have hc2' : w'.2.1 - s0 ≤ R.slots := hc2
      refine zz_behind (fk := fk) (cy := cy) (D := D) (cl := cl) (mc := w'.1 - f.2.2.2.1) (ms := w'.2.1 - f.2.2.2.2.1) (rest := r') hrv (va_runV (As := zz_sv z0 sp as) ⟨X.1, X.2.1, X.2.2.1, X.2.2.2.1, X.2.2.2.2.1⟩ hM hcw ⟨zz_blind hG, va_recv X.2.2.2.2.2.1 hI.2 hc he, fun U hU hW => ⟨by show (Value.ref (zz_ad z0 sp b) :: zz_sv z0 sp as).toArray = (zz_v z0 sp (.ref b) :: zz_sv z0 sp as).toArray; rw [zz_v_ref i2], by rw [hU]; exact hI, va_K.moved hW.alike X.2.2.2.2.2.1, zz_G_at X hG hS hU hW⟩⟩ rfl (by unfold zz_sv; rw [List.length_map]; exact hlen) hl.1 rfl (lv_room (by rw [zz_cs_sv]; exact zz_ble hb2)) hd ⟨by omega, by omega⟩) hS fun H1 locs1 hI1 hS1 => ?_
      have k1 := kk H1 locs1 ls hI1 hS1 hl
      have q1 : w'.1 - n0 = f.2.2.2.1 - n0 + (w'.1 - f.2.2.2.1) := by omega
      have q2 : w'.2.1 - s0 = f.2.2.2.2.1 - s0 + (w'.2.1 - f.2.2.2.2.1) := by omega
      have k2 : W p l e R s m args below meth c H1 locs1 (w'.1 - n0) (w'.2.1 - s0) Q (F0 m (pc + 3) ls (zz_sv z0 sp (rv ++ r'))) := k1
      rw [q1, q2] at k2
      exact k2
    · cases hf
theorem zo_callSU {y index na ci N : Nat} {C : String} {T : u_T} (hd : decode cc pc = .ok (.invokespecial index, 3)) (hKS : zz_KS l D cl fk cy z0 sp tys G yn (fun y => Cond.code (yn y) (cn y) (ml y) (rt y) :: Ts) d K) (hgood : ∀ w ∈ Ts, goodWord w = true) (hG : zz_GF z0 G) (hc : cl[ci]? = some (C, T, N))
    (hy : (yn y).name ≠ "<init>" ∧ (parseMethodDescriptor (yn y).desc).map (fun d => d.parameters.length) = some na) (hml : ml y ≤ 45) (hw : ∀ w ∈ ([.methodLink own index (yn y), .sameMethod (yn y).cls (yn y).cls (yn y).name (yn y).desc, .superclass own (yn y).cls, .instanceMethod (yn y), .initialized (yn y).cls, .code (yn y) (cn y) (ml y) (rt y)] : List Cond), w ∈ Ts) : zz_O l Ts D cl fk cy z0 sp tys G own mn nL cc d K pc (za_callV ci y na (pc + 3)) := by
  refine ⟨fun f f' hf => ?_, ?_⟩
  · unfold za_callV at hf
    obtain ⟨as, r, -, -, hf⟩ := zz_tk_ok _ _ _ hf
    split at hf
    · obtain ⟨-, hf⟩ := zz_cond hf
      obtain ⟨rv, w', hq, -, e1⟩ := zz_cr_ok hf
      rw [e1]
      exact (hKS _ _ _ _ _ hq).1
    · cases hf
  · intro p e R s m args below meth c X hR1 hR2 H locs n0 s0 Q ls f f' hpc hf hI hS hl hn hs hc1 hc2 kk
    unfold za_callV at hf
    obtain ⟨as, r, hst, hlen, hf⟩ := zz_tk_ok _ _ _ hf
    split at hf
    · rename_i b r'
      obtain ⟨hb, hf⟩ := zz_cond hf
      obtain ⟨hb1, hb2⟩ := zz_and hb
      obtain ⟨i1, i2, i3, i4⟩ := zz_ic_ok hb1
      obtain ⟨rv, w', hq, e1, e2⟩ := zz_cr_ok hf
      obtain ⟨⟨m1, m2⟩, hrv, hM⟩ := hKS _ _ _ _ _ hq
      have e1 := e1 hrv
      subst e1
      rw [List.append_nil] at hM
      have hst2 : zz_sv z0 sp f.2.2.1 = (zz_sv z0 sp as).reverse ++ .ref (zz_ad z0 sp b) :: zz_sv z0 sp r' := by
        rw [hst, zz_sv_app, zz_sv_rev]
        show _ ++ zz_v z0 sp (.ref b) :: zz_sv z0 sp r' = _
        rw [zz_v_ref i2]
      rw [hst2]
      have he := zz_ws_get (fk := fk) (cy := cy) (z0 := z0) (sp := sp) i1
      rw [zz_e_o i3 i4] at he
      have hcw : va_CS R s args own index (yn y) (cn y) (ml y) (rt y) (Cond.code (yn y) (cn y) (ml y) (rt y) :: Ts) { frames := d, cells := w'.1 - f.2.2.2.1, slots := w'.2.1 - f.2.2.2.2.1, locals := 64 * d } (w'.1 - f.2.2.2.1) (w'.2.1 - f.2.2.2.2.1) na :=
        va_cwSU na X.2.2.2.2.1 (zz_goodIn hgood (fun w h => by
          rcases List.mem_append.mp h with h | h
          · exact hw w (by simp only [List.mem_cons, List.not_mem_nil, or_false] at h ⊢; rcases h with h | h | h | h | h <;> simp [h])
          · rcases List.mem_cons.mp h with h | h
            · rw [h]; exact hw _ (by simp)
            · exact h)) rfl rfl rfl hy ⟨hR1, by show 8 + (ml y + 11) + 64 * d ≤ _; omega⟩
      have hc1' : w'.1 - n0 ≤ R.cells := hc1
      have hc2' : w'.2.1 - s0 ≤ R.slots := hc2
      refine zz_behind (fk := fk) (cy := cy) (D := D) (cl := cl) (mc := w'.1 - f.2.2.2.1) (ms := w'.2.1 - f.2.2.2.2.1) (rest := r') hrv (va_runSU (As := zz_sv z0 sp as) (X.2.2.2.2.2.1.1 ci _ hc).2 ⟨X.1, X.2.1, X.2.2.1, X.2.2.2.1, X.2.2.2.2.1⟩ hM hcw ⟨zz_blind hG, va_recv X.2.2.2.2.2.1 hI.2 hc he, fun U hU hW => ⟨by show (Value.ref (zz_ad z0 sp b) :: zz_sv z0 sp as).toArray = (zz_v z0 sp (.ref b) :: zz_sv z0 sp as).toArray; rw [zz_v_ref i2], by rw [hU]; exact hI, va_K.moved hW.alike X.2.2.2.2.2.1, zz_G_at X hG hS hU hW⟩⟩ rfl (by unfold zz_sv; rw [List.length_map]; exact hlen) hl.1 rfl (lv_room (by rw [zz_cs_sv]; exact zz_ble hb2)) hd ⟨by omega, by omega⟩) hS fun H1 locs1 hI1 hS1 => ?_
      have k1 := kk H1 locs1 ls hI1 hS1 hl
      have q1 : w'.1 - n0 = f.2.2.2.1 - n0 + (w'.1 - f.2.2.2.1) := by omega
      have q2 : w'.2.1 - s0 = f.2.2.2.2.1 - s0 + (w'.2.1 - f.2.2.2.2.1) := by omega
      have k2 : W p l e R s m args below meth c H1 locs1 (w'.1 - n0) (w'.2.1 - s0) Q (F0 m (pc + 3) ls (zz_sv z0 sp (rv ++ r'))) := k1
      rw [q1, q2] at k2
      exact k2
    · cases hf
end ZUP
