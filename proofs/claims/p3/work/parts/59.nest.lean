/-! CALLS OF NEST MATES' PRIVATE METHODS, COPIES OF ROWS -/
section ZN
variable {l : Launch} {Ts : List Cond} {D : va_G} {cl : List vw_C} {fk : Nat → Nat → Nat} {cy : Nat → ClassId} {z0 : Nat} {sp : Nat → Nat} {tys : List (ClassId × FieldType)} {G : State → Prop} {own mn : String} {nL : Nat} {cc : ByteArray} {d : Nat} {K : zz_K} {pc : Nat}
variable {yn : Nat → MethodName} {cn : Nat → ByteArray} {ml : Nat → Nat} {rt : Nat → Option FieldType}
theorem zo_callSN {y index na : Nat} {host : String} (hd : decode cc pc = .ok (.invokestatic index, 3)) (hKS : zz_KS l D cl fk cy z0 sp tys G yn (fun y => Cond.code (yn y) (cn y) (ml y) (rt y) :: Ts) d K) (hgood : ∀ w ∈ Ts, goodWord w = true) (hG : zz_GF z0 G)
    (hy : (yn y).cls ≠ "java/lang/invoke/MethodHandle" ∧ (yn y).cls ≠ "java/lang/invoke/VarHandle" ∧ (parseMethodDescriptor (yn y).desc).map (fun d => d.parameters.length) = some na) (hml : ml y ≤ 45) (hnw : ∀ U, G U → va_Nw (.methodLinkNest own index (yn y) host) U) (hw2 : Cond.static (yn y) ∈ Ts) (hw3 : Cond.initialized (yn y).cls ∈ Ts) (hw4 : Cond.code (yn y) (cn y) (ml y) (rt y) ∈ Ts) : zz_O l Ts D cl fk cy z0 sp tys G own mn nL cc d K pc (za_callS y na (pc + 3)) := by
  refine ⟨fun f f' hf => ?_, ?_⟩
  · unfold za_callS at hf
    obtain ⟨as, r, -, -, hf⟩ := zz_tk_ok _ _ _ hf
    obtain ⟨-, hf⟩ := zz_cond hf
    obtain ⟨rv, w', hq, -, e1⟩ := zz_cr_ok hf
    rw [e1]
    exact (hKS _ _ _ _ _ hq).1
  · intro p e R s m args below meth c X hR1 hR2 H locs n0 s0 Q ls f f' hpc hf hI hS hl hn hs hc1 hc2 kk
    unfold za_callS at hf
    obtain ⟨as, r', hst, hlen, hf⟩ := zz_tk_ok _ _ _ hf
    obtain ⟨hb2, hf⟩ := zz_cond hf
    obtain ⟨rv, w', hq, e1, e2⟩ := zz_cr_ok hf
    obtain ⟨⟨m1, m2⟩, hrv, hM⟩ := hKS _ _ _ _ _ hq
    have e1 := e1 hrv
    subst e1
    rw [List.append_nil] at hM
    have hst2 : zz_sv z0 sp f.2.2.1 = (zz_sv z0 sp as).reverse ++ zz_sv z0 sp r' := by
      rw [hst, zz_sv_app, zz_sv_rev]
    rw [hst2]
    have hcw : va_CN R s args own index (yn y) host (cn y) (ml y) (rt y) (Cond.code (yn y) (cn y) (ml y) (rt y) :: Ts) { frames := d, cells := w'.1 - f.2.2.2.1, slots := w'.2.1 - f.2.2.2.2.1, locals := 64 * d } (w'.1 - f.2.2.2.1) (w'.2.1 - f.2.2.2.2.1) na ∧ (Cond.static (yn y)).before args s = true ∧ True :=
      ⟨va_cnB na X.2.2.2.2.1 (zz_goodIn hgood (fun w h => by
          rcases List.mem_cons.mp h with h | h
          · rw [h]; exact hw4
          · exact h)) rfl rfl rfl (hnw s X.2.2.2.2.2.2.2.2) (X.2.2.2.2.1 _ hw3) hy ⟨hR1, by show 8 + (ml y + 11) + 64 * d ≤ _; omega⟩, X.2.2.2.2.1 _ hw2, trivial⟩
    have hc1' : w'.1 - n0 ≤ R.cells := hc1
    have hc2' : w'.2.1 - s0 ≤ R.slots := hc2
    refine zz_behind (fk := fk) (cy := cy) (D := D) (cl := cl) (mc := w'.1 - f.2.2.2.1) (ms := w'.2.1 - f.2.2.2.2.1) (rest := r') hrv (va_runSN (As := zz_sv z0 sp as) ⟨X.1, X.2.1, X.2.2.1, X.2.2.2.1, X.2.2.2.2.1⟩ hM hcw ⟨zz_blind hG, fun U hU hW => ⟨rfl, by rw [hU]; exact hI, va_K.moved hW.alike X.2.2.2.2.2.1, zz_G_at X hG hS hU hW⟩⟩ rfl (by unfold zz_sv; rw [List.length_map]; exact hlen) hl.1 rfl (lv_room (by rw [zz_cs_sv]; exact zz_ble hb2)) hd ⟨by omega, by omega⟩) hS fun H1 locs1 hI1 hS1 => ?_
    have k1 := kk H1 locs1 ls hI1 hS1 hl
    have q1 : w'.1 - n0 = f.2.2.2.1 - n0 + (w'.1 - f.2.2.2.1) := by omega
    have q2 : w'.2.1 - s0 = f.2.2.2.2.1 - s0 + (w'.2.1 - f.2.2.2.2.1) := by omega
    have k2 : W p l e R s m args below meth c H1 locs1 (w'.1 - n0) (w'.2.1 - s0) Q (F0 m (pc + 3) ls (zz_sv z0 sp (rv ++ r'))) := k1
    rw [q1, q2] at k2
    exact k2
/-- a virtual call of a text's method: the receiver stood there before -/
noncomputable def za_callK (g : Nat → Bool) (y na n : Nat) : zz_A := fun K f => zz_tk na f.2.2.1 [] (fun as r => match r with
  | .ref b :: r' => cond (g b && Nat.ble (zz_cs r') 8) (zz_cr n f.2.1 r' (K y (.ref b :: as) f.2.2.2)) none
  | _ => none)
theorem zo_callK {y index na : Nat} {C : String} {g : Nat → Bool} (hd : decode cc pc = .ok (.invokevirtual index, 3)) (hKS : zz_KS l D cl fk cy z0 sp tys G yn (fun y => Cond.code (yn y) (cn y) (ml y) (rt y) :: Ts) d K) (hgood : ∀ w ∈ Ts, goodWord w = true) (hG : zz_GF z0 G) (hg : ∀ b, g b = true → ∀ U, G U → va_O C (zz_r z0 sp b) (fun q : Nat => z0 ≤ q) U U.heap)
    (hy : (yn y).cls = C ∧ (yn y).cls ≠ "java/lang/invoke/MethodHandle" ∧ (yn y).cls ≠ "java/lang/invoke/VarHandle" ∧ (parseMethodDescriptor (yn y).desc).map (fun d => d.parameters.length) = some na) (hml : ml y ≤ 45) (hw : ∀ w ∈ ([.methodLink own index (yn y), .instanceMethod (yn y), .selects C (yn y) (yn y), .initialized C, .code (yn y) (cn y) (ml y) (rt y)] : List Cond), w ∈ Ts) : zz_O l Ts D cl fk cy z0 sp tys G own mn nL cc d K pc (za_callK g y na (pc + 3)) := by
  refine ⟨fun f f' hf => ?_, ?_⟩
  · unfold za_callK at hf
    obtain ⟨as, r, -, -, hf⟩ := zz_tk_ok _ _ _ hf
    split at hf
    · obtain ⟨-, hf⟩ := zz_cond hf
      obtain ⟨rv, w', hq, -, e1⟩ := zz_cr_ok hf
      rw [e1]
      exact (hKS _ _ _ _ _ hq).1
    · cases hf
  · intro p e R s m args below meth c X hR1 hR2 H locs n0 s0 Q ls f f' hpc hf hI hS hl hn hs hc1 hc2 kk
    unfold za_callK at hf
    obtain ⟨as, r, hst, hlen, hf⟩ := zz_tk_ok _ _ _ hf
    split at hf
    · rename_i b r'
      obtain ⟨hb, hf⟩ := zz_cond hf
      obtain ⟨hb1, hb2⟩ := zz_and hb
      obtain ⟨rv, w', hq, e1, e2⟩ := zz_cr_ok hf
      obtain ⟨⟨m1, m2⟩, hrv, hM⟩ := hKS _ _ _ _ _ hq
      have e1 := e1 hrv
      subst e1
      rw [List.append_nil] at hM
      have hst2 : zz_sv z0 sp f.2.2.1 = (zz_sv z0 sp as).reverse ++ .ref (zz_r z0 sp b) :: zz_sv z0 sp r' := by
        rw [hst, zz_sv_app, zz_sv_rev]
        rfl
      rw [hst2]
      obtain ⟨cell, o1, o2, o3, o4⟩ := hg b hb1 s X.2.2.2.2.2.2.2.2
      have hrecv : ∃ cellB : Cell, H[zz_r z0 sp b]? = some cellB ∧ cellB.vm.isStatics = false ∧ s.vm.findClass C = some cellB.cls := ⟨cell, by rw [hS.2.1 _ (Array.getElem?_eq_some_iff.mp o1).1 o4]; exact o1, o2, o3⟩
      have hcw : CallW R s args own C index (yn y) (cn y) (ml y) (rt y) (Cond.code (yn y) (cn y) (ml y) (rt y) :: Ts) { frames := d, cells := w'.1 - f.2.2.2.1, slots := w'.2.1 - f.2.2.2.2.1, locals := 64 * d } (w'.1 - f.2.2.2.1) (w'.2.1 - f.2.2.2.2.1) na :=
        cwV na X.2.2.2.2.1 (zz_goodIn hgood (fun w h => by
          rcases List.mem_append.mp h with h | h
          · exact hw w (by simp only [List.mem_cons, List.not_mem_nil, or_false] at h ⊢; rcases h with h | h | h | h <;> simp [h])
          · rcases List.mem_cons.mp h with h | h
            · rw [h]; exact hw _ (by simp)
            · exact h)) rfl rfl rfl hy ⟨hR1, by show 8 + (ml y + 11) + 64 * d ≤ _; omega⟩
      have hc1' : w'.1 - n0 ≤ R.cells := hc1
      have hc2' : w'.2.1 - s0 ≤ R.slots := hc2
      refine zz_behind (fk := fk) (cy := cy) (D := D) (cl := cl) (mc := w'.1 - f.2.2.2.1) (ms := w'.2.1 - f.2.2.2.2.1) (rest := r') hrv (va_runV (As := zz_sv z0 sp as) ⟨X.1, X.2.1, X.2.2.1, X.2.2.2.1, X.2.2.2.2.1⟩ hM hcw ⟨zz_blind hG, hrecv, fun U hU hW => ⟨rfl, by rw [hU]; exact hI, va_K.moved hW.alike X.2.2.2.2.2.1, zz_G_at X hG hS hU hW⟩⟩ rfl (by unfold zz_sv; rw [List.length_map]; exact hlen) hl.1 rfl (lv_room (by rw [zz_cs_sv]; exact zz_ble hb2)) hd ⟨by omega, by omega⟩) hS fun H1 locs1 hI1 hS1 => ?_
      have k1 := kk H1 locs1 ls hI1 hS1 hl
      have q1 : w'.1 - n0 = f.2.2.2.1 - n0 + (w'.1 - f.2.2.2.1) := by omega
      have q2 : w'.2.1 - s0 = f.2.2.2.2.1 - s0 + (w'.2.1 - f.2.2.2.2.1) := by omega
      have k2 : W p l e R s m args below meth c H1 locs1 (w'.1 - n0) (w'.2.1 - s0) Q (F0 m (pc + 3) ls (zz_sv z0 sp (rv ++ r'))) := k1
      rw [q1, q2] at k2
      exact k2
    · cases hf
end ZN
