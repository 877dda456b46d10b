/-! EVERY RUN IS A CONTRACT, also of members of classes that the machine has entries of, if it has none of them -/
section ZMF
variable {l : Launch} {Ts : List Cond} {D : va_G} {cl : List vw_C} {fk : Nat → Nat → Nat} {cy : Nat → ClassId} {z0 : Nat} {sp : Nat → Nat} {tys : List (ClassId × FieldType)} {G : State → Prop}
variable {yn : Nat → MethodName} {cn : Nat → ByteArray} {ml : Nat → Nat} {rt : Nat → Option FieldType} {P : Nat → zz_T}
theorem zz_KS_allF (hP : ∀ (d : Nat) (K : zz_K), zz_KS l D cl fk cy z0 sp tys G yn (fun y => Cond.code (yn y) (cn y) (ml y) (rt y) :: Ts) d K → ∀ y, zz_TO l Ts D cl fk cy z0 sp tys G (yn y).cls (yn y).name (ml y) (cn y) d K (P y)) (hR : ∀ y, zz_RO (cn y) (rt y) (P y)) (hy : ∀ y, plainFor (yn y) = true) :
    ∀ d : Nat, zz_KS l D cl fk cy z0 sp tys G yn (fun y => Cond.code (yn y) (cn y) (ml y) (rt y) :: Ts) d (zz_cl P ml d)
  | 0 => fun y as w rv w' h => by cases h
  | d + 1 => fun y as w rv w' h => by
    have h : zz_rn (P y) (ml y) (zz_cl P ml d) as w = some (rv, w') := h
    unfold zz_rn at h
    obtain ⟨ha, h⟩ := zz_cond h
    cases hf : zz_it (P y) (zz_cl P ml d) 30 (0, lv_args 0 as, [], w) with
    | none => rw [hf] at h; cases h
    | some f =>
      rw [hf] at h
      have h : zz_rt (P y) f = some (rv, w') := h
      have hB := zz_it_B (hP d _ (zz_KS_allF hP hR hy d) y) 30 hf
      obtain ⟨hrv, e1, hend⟩ := zz_rt_ok (l := l) (z0 := z0) (sp := sp) (hR y) h
      subst e1
      refine ⟨hB.1, hrv, ?_⟩
      refine va_MetF (cc := cn y) (maxL := ml y) (ret := rt y) (hy y) rfl ?_
      intro p e s m args below meth c s₁ B hml hv
      obtain ⟨rfl, hI, hK, hG⟩ := hv
      have hts := atoms_spec (ws := Cond.code (yn y) (cn y) (ml y) (rt y) :: Ts) B.pre
      have X : zz_X Ts D cl tys G (yn y).cls (yn y).name (ml y) (cn y) p s m (zz_sv z0 sp as).toArray meth c := ⟨B.exec, B.bytes, hml, findClass_of_methodNamed B.named, fun w hw => hts w (List.mem_cons_of_mem _ hw), hK, B.notSynchronized, (name_of_methodNamed B.named B.method).1, hG⟩
      have hl := lv_entry (zz_sv z0 sp as) (n := ml y) (by rw [zz_lg_len, zz_cs_svv]; exact zz_ble ha)
      rw [zz_lv_args] at hl
      rw [lg_entry_eq]
      have k1 := hB.2 p e (headSpec (Cond.code (yn y) (cn y) (ml y) (rt y) :: Ts) { frames := d + 1, cells := f.2.2.2.1 - w.1, slots := f.2.2.2.2.1 - w.2.1, locals := 64 * (d + 1) }).room s m (zz_sv z0 sp as).toArray below meth c X (Nat.le_refl _) (Nat.le_refl _) s.heap [] w.1 w.2.1 (MQ below (zz_Qc D cl fk cy z0 sp rv f.2.2.2) (zz_sv z0 sp as).toArray s (f.2.2.2.1 - w.1) (f.2.2.2.2.1 - w.2.1) (fun q => z0 ≤ q)) _ hI va_S.rf hl (Nat.le_refl _) (Nat.le_refl _) (Nat.le_refl _) (Nat.le_refl _) (fun H' locs' ls' hI' hS' hl' => hend p e _ s m _ below meth c H' locs' _ _ ls' _ _ B.exec B.bytes B.returns B.notSynchronized (fun t ht _ => ⟨⟨rfl, by rw [ht]; exact hI'⟩, hS'.F ht⟩) hS'.2.2)
      have k2 : W p l e (headSpec (Cond.code (yn y) (cn y) (ml y) (rt y) :: Ts) { frames := d + 1, cells := f.2.2.2.1 - w.1, slots := f.2.2.2.2.1 - w.2.1, locals := 64 * (d + 1) }).room s m (zz_sv z0 sp as).toArray below meth c s.heap [] (w.1 - w.1) (w.2.1 - w.2.1) (MQ below (zz_Qc D cl fk cy z0 sp rv f.2.2.2) (zz_sv z0 sp as).toArray s (f.2.2.2.1 - w.1) (f.2.2.2.2.1 - w.2.1) (fun q => z0 ≤ q)) (F0 m 0 ((lg_sl (zz_sv z0 sp as) ++ List.replicate (ml y - (lg_sl (zz_sv z0 sp as)).length) Slot.unset).toArray) []) := k1
      rw [Nat.sub_self, Nat.sub_self] at k2
      exact k2
end ZMF
