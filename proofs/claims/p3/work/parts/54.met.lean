/-! EVERY RUN OF THE ABSTRACT MACHINE IS A CONTRACT OF THE REAL ONE -/
/-- returns stand where the table says so -/
def zz_RO (cc : ByteArray) (rt : Option FieldType) (T : zz_T) : Prop :=
  (∀ pc, (zz_ent T pc).1 = 1 → decode cc pc = .ok (.return_, 1) ∧ rt = none) ∧ (∀ pc, (zz_ent T pc).1 = 2 → decode cc pc = .ok (.ireturn, 1) ∧ rt = some .int) ∧ (∀ pc, (zz_ent T pc).1 = 3 → decode cc pc = .ok (.ireturn, 1) ∧ rt = some .boolean) ∧
  (∀ pc, (zz_ent T pc).1 = 4 → decode cc pc = .ok (.lreturn, 1) ∧ rt = some .long) ∧ (∀ pc, (zz_ent T pc).1 = 5 → decode cc pc = .ok (.areturn, 1) ∧ ∃ t, rt = some t ∧ ((∃ n, t = .object n) ∨ ∃ u, t = .array u)) ∧
  (∀ pc, (zz_ent T pc).1 = 6 → decode cc pc = .ok (.ireturn, 1) ∧ rt = some .char) ∧ (∀ pc, (zz_ent T pc).1 = 7 → decode cc pc = .ok (.ireturn, 1) ∧ rt = some .byte)
theorem zz_lg_len : ∀ vs : List Value, (lg_sl vs).length = zz_cs vs
  | [] => rfl
  | v :: vs => by
    have h1 : lg_sl (v :: vs) = (if v.category = 2 then [.val v, .second] else [.val v]) ++ lg_sl vs := rfl
    have h2 : zz_cs (v :: vs) = v.category + zz_cs vs := by unfold zz_cs; simp
    rw [h1, List.length_append, zz_lg_len vs, h2]
    rcases lv_cat v with h | h
    · rw [h]; rfl
    · rw [h]; rfl
theorem zz_nb : ∀ n, n < 128 → narrow .byte (.int (Int32.ofNat n)) = .int (Int32.ofNat n) := by decide
section ZM
variable {l : Launch} {Ts : List Cond} {D : va_G} {cl : List vw_C} {fk : Nat → Nat → Nat} {cy : Nat → ClassId} {z0 : Nat} {sp : Nat → Nat} {tys : List (ClassId × FieldType)} {G : State → Prop}
variable {yn : Nat → MethodName} {cn : Nat → ByteArray} {ml : Nat → Nat} {rt : Nat → Option FieldType} {P : Nat → zz_T}
theorem zz_cs_svv (as : List Value) : zz_cs (zz_sv z0 sp as) = zz_cs as := zz_cs_sv as
theorem zz_rt_ok {y : Nat} (hR : zz_RO (cn y) (rt y) (P y)) {f : zz_F} {rv : List Value} {w' : zz_W} (h : zz_rt (P y) f = some (rv, w')) : rv.length ≤ 1 ∧ w' = f.2.2.2 ∧
    ∀ (p : Program) (e : Env) (R : Room) (s : State) (m : MethodId) (args : Array Value) (below : List Frame) (meth : Method) (c : Code) (H : Heap) (locs : List Loc) (cells slots : Nat) (ls : Array Slot) (Qc : Array Value → State → Outcome → State → Prop) (free : Addr → Prop),
      p.tables.exec = Jvm.exec → c.code = cn y → meth.sig.returnType = rt y → meth.locks = false → (∀ t : State, t.heap = H → s.WarmedH t.vm → Qc args s (.returned (zz_sv z0 sp rv).head?) t) → (∀ q ∈ locs, free q.base) →
      W p l e R s m args below meth c H locs cells slots (MQ below Qc args s cells slots free) (F0 m f.1 ls (zz_sv z0 sp f.2.2.1)) := by
  unfold zz_rt at h
  split at h
  · rename_i hk hst
    cases h
    refine ⟨Nat.zero_le _, rfl, fun p e R s m args below meth c H locs cells slots ls Qc free hx hb hr hlocks hq hf => ?_⟩
    obtain ⟨hd, ht⟩ := hR.1 f.1 hk
    rw [hst]
    exact W.vret hx hb (hr.trans ht) hq hf hd hlocks
  · rename_i v hk hst
    cases h
    refine ⟨Nat.le_refl _, rfl, fun p e R s m args below meth c H locs cells slots ls Qc free hx hb hr hlocks hq hf => ?_⟩
    obtain ⟨hd, ht⟩ := hR.2.1 f.1 hk
    rw [hst]
    exact W.iret hx hb (hr.trans ht) hq hf hd hlocks
  · rename_i v hk hst
    obtain ⟨hv, h⟩ := zz_cond h
    cases h
    refine ⟨Nat.le_refl _, rfl, fun p e R s m args below meth c H locs cells slots ls Qc free hx hb hr hlocks hq hf => ?_⟩
    obtain ⟨hd, ht⟩ := hR.2.2.1 f.1 hk
    rw [hst]
    exact W.zret (ty := .boolean) hx hb (hr.trans ht) (by rcases zz_b01 (zz_blt hv) with rfl | rfl <;> rfl) hq hf hd hlocks
  · rename_i v hk hst
    cases h
    refine ⟨Nat.le_refl _, rfl, fun p e R s m args below meth c H locs cells slots ls Qc free hx hb hr hlocks hq hf => ?_⟩
    obtain ⟨hd, ht⟩ := hR.2.2.2.1 f.1 hk
    rw [hst]
    exact W.lret hx hb (hr.trans ht) hq hf hd hlocks
  · rename_i v hk hst
    obtain ⟨hv, h⟩ := zz_cond h
    cases h
    refine ⟨Nat.le_refl _, rfl, fun p e R s m args below meth c H locs cells slots ls Qc free hx hb hr hlocks hq hf => ?_⟩
    obtain ⟨hd, ht⟩ := hR.2.2.2.2.2.1 f.1 hk
    rw [hst]
    exact W.zret (ty := .char) hx hb (hr.trans ht) (by rw [← zz_nI_of v]; exact (pk_charN (zz_blt hv)).1) hq hf hd hlocks
  · rename_i v hk hst
    obtain ⟨hv, h⟩ := zz_cond h
    cases h
    refine ⟨Nat.le_refl _, rfl, fun p e R s m args below meth c H locs cells slots ls Qc free hx hb hr hlocks hq hf => ?_⟩
    obtain ⟨hd, ht⟩ := hR.2.2.2.2.2.2 f.1 hk
    rw [hst]
    exact W.zret (ty := .byte) hx hb (hr.trans ht) (by rw [← zz_nI_of v]; exact zz_nb _ (zz_blt hv)) hq hf hd hlocks
  · rename_i v hk hst
    cases h
    refine ⟨Nat.le_refl _, rfl, fun p e R s m args below meth c H locs cells slots ls Qc free hx hb hr hlocks hq hf => ?_⟩
    obtain ⟨hd, t, ht, hrt⟩ := hR.2.2.2.2.1 f.1 hk
    rw [hst]
    exact W.aret hx hb (hr.trans ht) hrt (Or.inr ⟨_, rfl⟩) hq hf hd hlocks
  · rename_i hk hst
    cases h
    refine ⟨Nat.le_refl _, rfl, fun p e R s m args below meth c H locs cells slots ls Qc free hx hb hr hlocks hq hf => ?_⟩
    obtain ⟨hd, t, ht, hrt⟩ := hR.2.2.2.2.1 f.1 hk
    rw [hst]
    exact W.aret hx hb (hr.trans ht) hrt (Or.inl rfl) hq hf hd hlocks
  · cases h
theorem zz_KS_all (hP : ∀ (d : Nat) (K : zz_K), zz_KS l D cl fk cy z0 sp tys G yn (fun y => Cond.code (yn y) (cn y) (ml y) (rt y) :: Ts) d K → ∀ y, zz_TO l Ts D cl fk cy z0 sp tys G (yn y).cls (yn y).name (ml y) (cn y) d K (P y)) (hR : ∀ y, zz_RO (cn y) (rt y) (P y)) (hy : ∀ y, plainName (yn y).cls = true) :
    ∀ d : Nat, zz_KS l D cl fk cy z0 sp tys G yn (fun y => Cond.code (yn y) (cn y) (ml y) (rt y) :: Ts) d (zz_cl P ml d)
  | 0 => fun y as w rv w' h => by cases h
  | d + 1 => fun y as w rv w' h => by
    have h : zz_rn (P y) (ml y) (zz_cl P ml d) as w = some (rv, w') := h
    unfold zz_rn at h
    obtain ⟨ha, h⟩ := zz_cond h
    cases hf : zz_it (P y) (zz_cl P ml d) 30 (0, lv_args 0 as, [], w) with
    | none => rw [hf] at h; cases h
    | some f =>
      rw [hf] at h
      have h : zz_rt (P y) f = some (rv, w') := h
      have hB := zz_it_B (hP d _ (zz_KS_all hP hR hy d) y) 30 hf
      obtain ⟨hrv, e1, hend⟩ := zz_rt_ok (l := l) (z0 := z0) (sp := sp) (hR y) h
      subst e1
      refine ⟨hB.1, hrv, ?_⟩
      refine Met.ofW (cc := cn y) (maxL := ml y) (ret := rt y) (hy y) rfl ?_
      intro p e s m args below meth c s₁ B hml hv
      obtain ⟨rfl, hI, hK, hG⟩ := hv
      have hts := atoms_spec (ws := Cond.code (yn y) (cn y) (ml y) (rt y) :: Ts) B.pre
      have X : zz_X Ts D cl tys G (yn y).cls (yn y).name (ml y) (cn y) p s m (zz_sv z0 sp as).toArray meth c := ⟨B.exec, B.bytes, hml, findClass_of_methodNamed B.named, fun w hw => hts w (List.mem_cons_of_mem _ hw), hK, B.notSynchronized, (name_of_methodNamed B.named B.method).1, hG⟩
      have hl := lv_entry (zz_sv z0 sp as) (n := ml y) (by rw [zz_lg_len, zz_cs_svv]; exact zz_ble ha)
      rw [zz_lv_args] at hl
      rw [lg_entry_eq]
      have k1 := hB.2 p e (headSpec (Cond.code (yn y) (cn y) (ml y) (rt y) :: Ts) { frames := d + 1, cells := f.2.2.2.1 - w.1, slots := f.2.2.2.2.1 - w.2.1, locals := 64 * (d + 1) }).room s m (zz_sv z0 sp as).toArray below meth c X (Nat.le_refl _) (Nat.le_refl _) s.heap [] w.1 w.2.1 (MQ below (zz_Qc D cl fk cy z0 sp rv f.2.2.2) (zz_sv z0 sp as).toArray s (f.2.2.2.1 - w.1) (f.2.2.2.2.1 - w.2.1) (fun q => z0 ≤ q)) _ hI va_S.rf hl (Nat.le_refl _) (Nat.le_refl _) (Nat.le_refl _) (Nat.le_refl _) (fun H' locs' ls' hI' hS' hl' => hend p e _ s m _ below meth c H' locs' _ _ ls' _ _ B.exec B.bytes B.returns B.notSynchronized (fun t ht _ => ⟨⟨rfl, by rw [ht]; exact hI'⟩, hS'.F ht⟩) hS'.2.2)
      have k2 : W p l e (headSpec (Cond.code (yn y) (cn y) (ml y) (rt y) :: Ts) { frames := d + 1, cells := f.2.2.2.1 - w.1, slots := f.2.2.2.2.1 - w.2.1, locals := 64 * (d + 1) }).room s m (zz_sv z0 sp as).toArray below meth c s.heap [] (w.1 - w.1) (w.2.1 - w.2.1) (MQ below (zz_Qc D cl fk cy z0 sp rv f.2.2.2) (zz_sv z0 sp as).toArray s (f.2.2.2.1 - w.1) (f.2.2.2.2.1 - w.2.1) (fun q => z0 ≤ q)) (F0 m 0 ((lg_sl (zz_sv z0 sp as) ++ List.replicate (ml y - (lg_sl (zz_sv z0 sp as)).length) Slot.unset).toArray) []) := k1
      rw [Nat.sub_self, Nat.sub_self] at k2
      exact k2
end ZM
