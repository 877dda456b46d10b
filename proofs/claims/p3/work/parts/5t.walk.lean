/-! WALKS: contracts of methods that were walked step by step over frames with variables in them -/
/-- the method y, called with as in the world w, gives rv and the world w' -/
def zz_M (l : Launch) (Ts : List Cond) (D : va_G) (cl : List vw_C) (fk : Nat → Nat → Nat) (cy : Nat → ClassId) (z0 : Nat) (sp : Nat → Nat) (tys : List (ClassId × FieldType)) (G : State → Prop) (yn : Nat → MethodName) (cn : Nat → ByteArray) (ml : Nat → Nat) (rt : Nat → Option FieldType) (d y : Nat) (as : List Value) (w : zz_W) (rv : List Value) (w' : zz_W) : Prop :=
  (w.1 ≤ w'.1 ∧ w.2.1 ≤ w'.2.1) ∧ rv.length ≤ 1 ∧
    Met l (yn y) (Cond.code (yn y) (cn y) (ml y) (rt y) :: Ts) { frames := d, cells := w'.1 - w.1, slots := w'.2.1 - w.2.1, locals := 64 * d } (zz_Pc D cl fk cy z0 sp tys G as w) (zz_Qc D cl fk cy z0 sp rv w') (w'.1 - w.1) (w'.2.1 - w.2.1) (fun q => z0 ≤ q)
/-- calls: one is known -/
noncomputable def zz_k1 (y : Nat) (as : List Value) (w : zz_W) (q : List Value × zz_W) : zz_K := fun y' as' w' => @ite _ (y' = y ∧ as' = as ∧ w' = w) (Classical.propDecidable _) (some q) none
def zz_k0 : zz_K := fun _ _ _ => none
theorem zz_k1_at {y : Nat} {as : List Value} {w : zz_W} {q : List Value × zz_W} : zz_k1 y as w q y as w = some q := by
  unfold zz_k1
  rw [if_pos ⟨rfl, rfl, rfl⟩]
/-- what a return at pc with st on the stack owes -/
def zz_end (l : Launch) (z0 : Nat) (sp : Nat → Nat) (cc : ByteArray) (rt : Option FieldType) (pc : Nat) (st rv : List Value) : Prop :=
  ∀ (p : Program) (e : Env) (R : Room) (s : State) (m : MethodId) (args : Array Value) (below : List Frame) (meth : Method) (c : Code) (H : Heap) (locs : List Loc) (cells slots : Nat) (ls : Array Slot) (Qc : Array Value → State → Outcome → State → Prop) (free : Addr → Prop),
    p.tables.exec = Jvm.exec → c.code = cc → meth.sig.returnType = rt → meth.locks = false → (∀ t : State, t.heap = H → s.WarmedH t.vm → Qc args s (.returned (zz_sv z0 sp rv).head?) t) → (∀ q ∈ locs, free q.base) →
    W p l e R s m args below meth c H locs cells slots (MQ below Qc args s cells slots free) (F0 m pc ls (zz_sv z0 sp st))
section ZQ
variable {l : Launch} {Ts : List Cond} {D : va_G} {cl : List vw_C} {fk : Nat → Nat → Nat} {cy : Nat → ClassId} {z0 : Nat} {sp : Nat → Nat} {tys : List (ClassId × FieldType)} {G : State → Prop} {own mn : String} {nL : Nat} {cc : ByteArray} {d : Nat} {pc : Nat}
variable {yn : Nat → MethodName} {cn : Nat → ByteArray} {ml : Nat → Nat} {rt : Nat → Option FieldType}
theorem zz_end_v (hd : decode cc pc = .ok (.return_, 1)) : zz_end l z0 sp cc none pc [] [] :=
  fun _ _ _ _ _ _ _ _ _ _ _ _ _ _ _ _ hx hb hr hlocks hq hf => W.vret hx hb hr hq hf hd hlocks
theorem zz_end_i {v : Int32} (hd : decode cc pc = .ok (.ireturn, 1)) : zz_end l z0 sp cc (some .int) pc [.int v] [.int v] :=
  fun _ _ _ _ _ _ _ _ _ _ _ _ _ _ _ _ hx hb hr hlocks hq hf => W.iret hx hb hr hq hf hd hlocks
theorem zz_end_z {v : Int32} (hd : decode cc pc = .ok (.ireturn, 1)) (hv : zz_nI v < 2) : zz_end l z0 sp cc (some .boolean) pc [.int v] [.int v] :=
  fun _ _ _ _ _ _ _ _ _ _ _ _ _ _ _ _ hx hb hr hlocks hq hf => W.zret (ty := .boolean) hx hb hr (by rcases zz_b01 hv with rfl | rfl <;> rfl) hq hf hd hlocks
theorem zz_end_c {v : Int32} (hd : decode cc pc = .ok (.ireturn, 1)) (hv : zz_nI v < 65536) : zz_end l z0 sp cc (some .char) pc [.int v] [.int v] :=
  fun _ _ _ _ _ _ _ _ _ _ _ _ _ _ _ _ hx hb hr hlocks hq hf => W.zret (ty := .char) hx hb hr (by rw [← zz_nI_of v]; exact (pk_charN hv).1) hq hf hd hlocks
theorem zz_end_a {b : Nat} {t : FieldType} (hd : decode cc pc = .ok (.areturn, 1)) (ht : (∃ n, t = .object n) ∨ ∃ u, t = .array u) : zz_end l z0 sp cc (some t) pc [.ref b] [.ref b] :=
  fun _ _ _ _ _ _ _ _ _ _ _ _ _ _ _ _ hx hb hr hlocks hq hf => W.aret hx hb hr ht (Or.inr ⟨_, rfl⟩) hq hf hd hlocks
theorem zz_k0_KS : zz_KS l D cl fk cy z0 sp tys G yn (fun y => Cond.code (yn y) (cn y) (ml y) (rt y) :: Ts) d zz_k0 := fun _ _ _ _ _ h => by cases h
theorem zz_k1_KS {y : Nat} {as rv : List Value} {w w' : zz_W} (h : zz_M l Ts D cl fk cy z0 sp tys G yn cn ml rt d y as w rv w') : zz_KS l D cl fk cy z0 sp tys G yn (fun y => Cond.code (yn y) (cn y) (ml y) (rt y) :: Ts) d (zz_k1 y as w (rv, w')) := by
  intro y9 as9 w9 rv9 w9' h9
  unfold zz_k1 at h9
  by_cases hc : y9 = y ∧ as9 = as ∧ w9 = w
  · rw [if_pos hc] at h9
    cases h9
    obtain ⟨rfl, rfl, rfl⟩ := hc
    exact h
  · rw [if_neg hc] at h9
    cases h9
/-- one step -/
theorem zz_sg {T : zz_T} {K : zz_K} {act : zz_A} {fr : List (Nat × Value) × List Value × zz_W} {f' g : zz_F} (hT : zz_TO l Ts D cl fk cy z0 sp tys G own mn nL cc d K T) (he : zz_ent T pc = (0, act)) (h : act K (pc, fr) = some f')
    (k : zz_B l Ts D cl fk cy z0 sp tys G own mn nL cc d f' g) : zz_B l Ts D cl fk cy z0 sp tys G own mn nL cc d (pc, fr) g := by
  have h1 : (zz_ent T pc).1 = 0 := by rw [he]
  have h2 : (zz_ent T pc).2 = act := by rw [he]
  exact zz_B_tr (zz_O_B (hT pc h1) rfl (by rw [h2]; exact h)) k
/-- a call whose contract is known -/
theorem zz_sV {T : zz_T} {ci y na n b : Nat} {lv : List (Nat × Value)} {st as r rv : List Value} {w w' : zz_W} {g : zz_F} (hT : ∀ K, zz_KS l D cl fk cy z0 sp tys G yn (fun y => Cond.code (yn y) (cn y) (ml y) (rt y) :: Ts) d K → zz_TO l Ts D cl fk cy z0 sp tys G own mn nL cc d K T) (he : zz_ent T pc = (0, za_callV ci y na n))
    (hM : zz_M l Ts D cl fk cy z0 sp tys G yn cn ml rt d y (.ref b :: as) w rv w') (hst : st = as.reverse ++ .ref b :: r) (hna : as.length = na) (hb : zz_ic w b ci = true) (hr : zz_cs r ≤ 8)
    (k : zz_B l Ts D cl fk cy z0 sp tys G own mn nL cc d (n, lv, rv ++ r, w') g) : zz_B l Ts D cl fk cy z0 sp tys G own mn nL cc d (pc, lv, st, w) g :=
  zz_sg (hT _ (zz_k1_KS hM)) he (ze_callV hst hna hb hr hM.2.1 zz_k1_at) k
theorem zz_sS {T : zz_T} {y na n : Nat} {lv : List (Nat × Value)} {st as r rv : List Value} {w w' : zz_W} {g : zz_F} (hT : ∀ K, zz_KS l D cl fk cy z0 sp tys G yn (fun y => Cond.code (yn y) (cn y) (ml y) (rt y) :: Ts) d K → zz_TO l Ts D cl fk cy z0 sp tys G own mn nL cc d K T) (he : zz_ent T pc = (0, za_callS y na n))
    (hM : zz_M l Ts D cl fk cy z0 sp tys G yn cn ml rt d y as w rv w') (hst : st = as.reverse ++ r) (hna : as.length = na) (hr : zz_cs r ≤ 8)
    (k : zz_B l Ts D cl fk cy z0 sp tys G own mn nL cc d (n, lv, rv ++ r, w') g) : zz_B l Ts D cl fk cy z0 sp tys G own mn nL cc d (pc, lv, st, w) g :=
  zz_sg (hT _ (zz_k1_KS hM)) he (ze_callS hst hna hr hM.2.1 zz_k1_at) k
/-- a body that comes to a return is a contract -/
theorem zz_M_B {y pc' : Nat} {lv' : List (Nat × Value)} {as st rv : List Value} {w w' : zz_W} {rtx : Option FieldType} (e1 : (yn y).cls = own) (e2 : (yn y).name = mn) (e3 : ml y = nL) (e4 : cn y = cc) (e5 : rt y = rtx) (hy : plainFor (yn y) = true) (ha : zz_cs as ≤ nL) (hrv : rv.length ≤ 1)
    (hend : zz_end l z0 sp cc rtx pc' st rv) (hB : zz_B l Ts D cl fk cy z0 sp tys G own mn nL cc d (0, lv_args 0 as, [], w) (pc', lv', st, w')) : zz_M l Ts D cl fk cy z0 sp tys G yn cn ml rt (d + 1) y as w rv w' := by
  subst e1 e2 e3 e4 e5
  refine ⟨hB.1, hrv, ?_⟩
  refine va_MetF (cc := cn y) (maxL := ml y) (ret := rt y) hy rfl ?_
  intro p e s m args below meth c s₁ B hml hv
  obtain ⟨rfl, hI, hK, hG⟩ := hv
  have hts := atoms_spec (ws := Cond.code (yn y) (cn y) (ml y) (rt y) :: Ts) B.pre
  have X : zz_X Ts D cl tys G (yn y).cls (yn y).name (ml y) (cn y) p s m (zz_sv z0 sp as).toArray meth c := ⟨B.exec, B.bytes, hml, findClass_of_methodNamed B.named, fun w hw => hts w (List.mem_cons_of_mem _ hw), hK, B.notSynchronized, (name_of_methodNamed B.named B.method).1, hG⟩
  have hl := lv_entry (zz_sv z0 sp as) (n := ml y) (by rw [zz_lg_len, zz_cs_svv]; exact ha)
  rw [zz_lv_args] at hl
  rw [lg_entry_eq]
  have k1 := hB.2 p e (headSpec (Cond.code (yn y) (cn y) (ml y) (rt y) :: Ts) { frames := d + 1, cells := w'.1 - w.1, slots := w'.2.1 - w.2.1, locals := 64 * (d + 1) }).room s m (zz_sv z0 sp as).toArray below meth c X (Nat.le_refl _) (Nat.le_refl _) s.heap [] w.1 w.2.1 (MQ below (zz_Qc D cl fk cy z0 sp rv w') (zz_sv z0 sp as).toArray s (w'.1 - w.1) (w'.2.1 - w.2.1) (fun q => z0 ≤ q)) _ hI va_S.rf hl (Nat.le_refl _) (Nat.le_refl _) (Nat.le_refl _) (Nat.le_refl _) (fun H' locs' ls' hI' hS' hl' => hend p e _ s m _ below meth c H' locs' _ _ ls' _ _ B.exec B.bytes B.returns B.notSynchronized (fun t ht _ => ⟨⟨rfl, by rw [ht]; exact hI'⟩, hS'.F ht⟩) hS'.2.2)
  have k2 : W p l e (headSpec (Cond.code (yn y) (cn y) (ml y) (rt y) :: Ts) { frames := d + 1, cells := w'.1 - w.1, slots := w'.2.1 - w.2.1, locals := 64 * (d + 1) }).room s m (zz_sv z0 sp as).toArray below meth c s.heap [] (w.1 - w.1) (w.2.1 - w.2.1) (MQ below (zz_Qc D cl fk cy z0 sp rv w') (zz_sv z0 sp as).toArray s (w'.1 - w.1) (w'.2.1 - w.2.1) (fun q => z0 ≤ q)) (F0 m 0 ((lg_sl (zz_sv z0 sp as) ++ List.replicate (ml y - (lg_sl (zz_sv z0 sp as)).length) Slot.unset).toArray) []) := k1
  rw [Nat.sub_self, Nat.sub_self] at k2
  exact k2
end ZQ
/-! THROWS over the abstract machine -/
/-- the world behind a throw of E -/
def zz_XC (D : va_G) (cl : List vw_C) (fk : Nat → Nat → Nat) (cy : Nat → ClassId) (z0 : Nat) (sp : Nat → Nat) (E : String) (w' : zz_W) : String → State → State → Prop := fun E' st t => E' = E ∧ zz_I D cl fk cy z0 sp w' t.heap ∧ va_F (fun q : Nat => z0 ≤ q) st t
/-- the method y, called with as in the world w, throws an E, the world is then w' -/
def zz_MX (l : Launch) (Ts : List Cond) (D : va_G) (cl : List vw_C) (fk : Nat → Nat → Nat) (cy : Nat → ClassId) (z0 : Nat) (sp : Nat → Nat) (tys : List (ClassId × FieldType)) (G : State → Prop) (yn : Nat → MethodName) (cn : Nat → ByteArray) (ml : Nat → Nat) (rt : Nat → Option FieldType) (d y : Nat) (as : List Value) (w : zz_W) (E : String) (w' : zz_W) : Prop :=
  (w.1 ≤ w'.1 ∧ w.2.1 ≤ w'.2.1) ∧
    vx_Met l (yn y) (Cond.code (yn y) (cn y) (ml y) (rt y) :: Ts) { frames := d, cells := w'.1 - w.1, slots := w'.2.1 - w.2.1, locals := 64 * d } (zz_Pc D cl fk cy z0 sp tys G as w) (fun _ _ _ _ => False) (zz_XC D cl fk cy z0 sp E w') (w'.1 - w.1) (w'.2.1 - w.2.1) (fun q => z0 ≤ q)
/-- from the frame f the method throws an E out of itself -/
def zz_TX (l : Launch) (Ts : List Cond) (D : va_G) (cl : List vw_C) (fk : Nat → Nat → Nat) (cy : Nat → ClassId) (z0 : Nat) (sp : Nat → Nat) (tys : List (ClassId × FieldType)) (G : State → Prop) (own mn : String) (nL : Nat) (cc : ByteArray) (d : Nat) (f : zz_F) (E : String) (w' : zz_W) : Prop :=
  (f.2.2.2.1 ≤ w'.1 ∧ f.2.2.2.2.1 ≤ w'.2.1) ∧
  ∀ (p : Program) (e : Env) (R : Room) (s : State) (m : MethodId) (args : Array Value) (below : List Frame) (meth : Method) (c : Code), zz_X Ts D cl tys G own mn nL cc p s m args meth c → d + 1 ≤ R.frames → 64 * (d + 1) ≤ R.locals → (∀ x ∈ c.exceptionTable.toList, False) →
  ∀ (H : Heap) (locs : List Loc) (n0 s0 : Nat) (ls : Array Slot), zz_I D cl fk cy z0 sp f.2.2.2 H → va_S (fun q : Nat => z0 ≤ q) s.heap H locs → lv_has ls nL (zz_lv z0 sp f.2.1) →
    n0 ≤ f.2.2.2.1 → s0 ≤ f.2.2.2.2.1 → w'.1 - n0 ≤ R.cells → w'.2.1 - s0 ≤ R.slots →
    W p l e R s m args below meth c H locs (f.2.2.2.1 - n0) (f.2.2.2.2.1 - s0) (vx_MQ below (fun _ _ _ _ => False) (zz_XC D cl fk cy z0 sp E w') args s (w'.1 - n0) (w'.2.1 - s0) (fun q => z0 ≤ q)) (F0 m f.1 ls (zz_sv z0 sp f.2.2.1))
section ZTX
variable {l : Launch} {Ts : List Cond} {D : va_G} {cl : List vw_C} {fk : Nat → Nat → Nat} {cy : Nat → ClassId} {z0 : Nat} {sp : Nat → Nat} {tys : List (ClassId × FieldType)} {G : State → Prop} {own mn : String} {nL : Nat} {cc : ByteArray} {d : Nat} {pc : Nat}
variable {yn : Nat → MethodName} {cn : Nat → ByteArray} {ml : Nat → Nat} {rt : Nat → Option FieldType}
theorem zz_TX_B {f g : zz_F} {E : String} {w' : zz_W} (h1 : zz_B l Ts D cl fk cy z0 sp tys G own mn nL cc d f g) (h2 : zz_TX l Ts D cl fk cy z0 sp tys G own mn nL cc d g E w') : zz_TX l Ts D cl fk cy z0 sp tys G own mn nL cc d f E w' := by
  have q1 := h1.1
  have q2 := h2.1
  refine ⟨⟨Nat.le_trans q1.1 q2.1, Nat.le_trans q1.2 q2.2⟩, ?_⟩
  intro p e R s m args below meth c X r1 r2 hx H locs n0 s0 ls hI hS hl hn hs hc1 hc2
  exact h1.2 p e R s m args below meth c X r1 r2 H locs n0 s0 _ ls hI hS hl hn hs (by omega) (by omega) fun H' locs' ls' hI' hS' hl' => h2.2 p e R s m args below meth c X r1 r2 hx H' locs' n0 s0 ls' hI' hS' hl' (by omega) (by omega) hc1 hc2
theorem zz_MX_B {y : Nat} {as : List Value} {w w' : zz_W} {E : String} (e1 : (yn y).cls = own) (e2 : (yn y).name = mn) (e3 : ml y = nL) (e4 : cn y = cc) (hy : plainName (yn y).cls = true) (ha : zz_cs as ≤ nL)
    (hT : zz_TX l Ts D cl fk cy z0 sp tys G own mn nL cc d (0, lv_args 0 as, [], w) E w') : zz_MX l Ts D cl fk cy z0 sp tys G yn cn ml rt (d + 1) y as w E w' := by
  subst e1 e2 e3 e4
  refine ⟨hT.1, ?_⟩
  refine vx_ofW (cc := cn y) (maxL := ml y) (ret := rt y) hy rfl ?_
  intro p e s m args below meth c s₁ B hml hx hv
  obtain ⟨rfl, hI, hK, hG⟩ := hv
  have hts := atoms_spec (ws := Cond.code (yn y) (cn y) (ml y) (rt y) :: Ts) B.pre
  have X : zz_X Ts D cl tys G (yn y).cls (yn y).name (ml y) (cn y) p s m (zz_sv z0 sp as).toArray meth c := ⟨B.exec, B.bytes, hml, findClass_of_methodNamed B.named, fun w hw => hts w (List.mem_cons_of_mem _ hw), hK, B.notSynchronized, (name_of_methodNamed B.named B.method).1, hG⟩
  have hl := lv_entry (zz_sv z0 sp as) (n := ml y) (by rw [zz_lg_len, zz_cs_svv]; exact ha)
  rw [zz_lv_args] at hl
  rw [lg_entry_eq]
  have k1 := hT.2 p e (headSpec (Cond.code (yn y) (cn y) (ml y) (rt y) :: Ts) { frames := d + 1, cells := w'.1 - w.1, slots := w'.2.1 - w.2.1, locals := 64 * (d + 1) }).room s m (zz_sv z0 sp as).toArray below meth c X (Nat.le_refl _) (Nat.le_refl _) hx s.heap [] w.1 w.2.1 _ hI va_S.rf hl (Nat.le_refl _) (Nat.le_refl _) (Nat.le_refl _) (Nat.le_refl _)
  have k2 : W p l e (headSpec (Cond.code (yn y) (cn y) (ml y) (rt y) :: Ts) { frames := d + 1, cells := w'.1 - w.1, slots := w'.2.1 - w.2.1, locals := 64 * (d + 1) }).room s m (zz_sv z0 sp as).toArray below meth c s.heap [] (w.1 - w.1) (w.2.1 - w.2.1) (vx_MQ below (fun _ _ _ _ => False) (zz_XC D cl fk cy z0 sp E w') (zz_sv z0 sp as).toArray s (w'.1 - w.1) (w'.2.1 - w.2.1) (fun q => z0 ≤ q)) (F0 m 0 ((lg_sl (zz_sv z0 sp as) ++ List.replicate (ml y - (lg_sl (zz_sv z0 sp as)).length) Slot.unset).toArray) []) := k1
  rw [Nat.sub_self, Nat.sub_self] at k2
  exact k2
/-- 'throw new E("text")' -/
theorem zz_TX_new (hsp0 : sp 18446744073709551616 = 0) {E text : String} {names : List String} {ik is ic ci k ix : Nat} {rx : ByteArray} {T : u_T} {lv : List (Nat × Value)} {st : List Value} {w : zz_W} (x0 : decode rx 0 = .ok (.aload_n 0, 1)) (x1 : decode rx 1 = .ok (.aload_n 1, 1)) (x2 : decode rx 2 = .ok (.invokespecial ix, 3)) (x5 : decode rx 5 = .ok (.return_, 1)) (hl : l.stackTraces = false) (hcls : Bundle.fit E = true) (hnames : ∀ n ∈ names, Bundle.fit n = true) (hc : cl[ci]? = some (E, T, 0))
    (hw1 : Cond.classLink own ik E ∈ Ts) (hw2 : Cond.initialized E ∈ Ts) (hR : ∀ U, G U → vk_R own is text (sp k) U) (hat : ∀ s : State, G s → ∀ args : Array Value, (∀ w ∈ Ts, w.before args s = true) → ∀ w ∈ vx_atS own ic E ix rx names, w.before args s = true)
    (hgood : ∀ w ∈ Cond.classLink own ik E :: Cond.initialized E :: vx_atS own ic E ix rx names, vx_ot w = true)
    (hU : ∀ U, G U → vx_Zq Bundle.tN "UNASSIGNED_STACK" Bundle.steD (fun q : Nat => z0 ≤ q) U U.heap) (hN : ∀ U, G U → vx_Zq Bundle.tN "SUPPRESSED_SENTINEL" Bundle.listD (fun q : Nat => z0 ≤ q) U U.heap)
    (d0 : decode cc pc = .ok (.new ik, 3)) (d3 : decode cc (pc + 3) = .ok (.dup, 1)) (d4 : decode cc (pc + 4) = .ok (.ldc is, 2)) (d6 : decode cc (pc + 6) = .ok (.invokespecial ic, 3)) (d9 : decode cc (pc + 9) = .ok (.athrow, 1))
    (hd : names.length + 3 ≤ d) (hd2 : zz_cs st + (13 * (names.length + 1) + 43) ≤ 64 * (d + 1)) (hs : zz_sh w) (hi : w.1 < 1024) : zz_TX l Ts D cl fk cy z0 sp tys G own mn nL cc d (pc, lv, st, w) E (zz_pu w (3, ci, 0, 0) 6) := by
  refine ⟨⟨Nat.le_succ _, Nat.le_add_right _ _⟩, ?_⟩
  intro p e R s m args below meth c X r1 r2 hx H locs n0 s0 ls hI hS hl' hn hs0 hc1 hc2
  have hc1 : w.1 + 1 - n0 ≤ R.cells := hc1
  have hc2 : w.2.1 + 6 - s0 ≤ R.slots := hc2
  have hn : n0 ≤ w.1 := hn
  have hs0 : s0 ≤ w.2.1 := hs0
  have hg := X.2.2.2.2.2.2.2.2
  have ecs : ((zz_sv z0 sp st).map fun v => v.category).sum = zz_cs st := zz_cs_sv st
  refine vx_throwS (rest := zz_sv z0 sp st) (text := text) X.1 X.2.1 hl x0 x1 x2 x5 X.2.2.2.1 hcls hnames (X.2.2.2.2.1 _ hw1) (X.2.2.2.2.1 _ hw2) (hR s hg) (hat s hg args X.2.2.2.2.1) hgood (hU s hg) (hN s hg) hS (by rw [hl'.1]; exact X.2.2.1.symm) d0 d3 d4 d6 d9 (fun x h => (hx x h).elim) (by omega) (by rw [ecs]; omega) (by show w.1 - n0 + 1 ≤ _; omega) (by show w.2.1 - s0 + 6 ≤ _; omega) X.2.2.2.2.2.2.1 ?_ hS.2.2 (by show w.1 - n0 + 1 ≤ w.1 + 1 - n0; omega) (by show w.2.1 - s0 + 6 ≤ w.2.1 + 6 - s0; omega)
  intro t ce _ hz hce hv hcl hold
  refine ⟨rfl, zz_I_push (w := w) hsp0 hI rfl (fun j => zz_pu_g hs hi j) ?_ hz hold, ?_, ?_⟩
  · have hK := X.2.2.2.2.2.1.1 ci _ hc
    refine ⟨_, hc, ce, by have h1 := hI.1; rw [← h1]; exact hce, Option.some.inj (hcl.symm.trans hK.2.1), hv, fun k hk => absurd hk (Nat.not_lt_zero _)⟩
  · rw [hz]
    exact Nat.le_succ_of_le hS.1
  · intro q h1 h2
    rw [hold q (Nat.lt_of_lt_of_le h1 hS.1)]
    exact hS.2.1 q h1 h2
/-- a call that throws, not caught here -/
theorem zz_TX_call {y index na ci N b : Nat} {C E : String} {T : u_T} {lv : List (Nat × Value)} {as r : List Value} {w w' : zz_W} (hd : decode cc pc = .ok (.invokevirtual index, 3)) (hgood : ∀ w ∈ Ts, goodWord w = true) (hG : zz_GF z0 G) (hc : cl[ci]? = some (C, T, N))
    (hy : (yn y).cls = C ∧ (yn y).cls ≠ "java/lang/invoke/MethodHandle" ∧ (yn y).cls ≠ "java/lang/invoke/VarHandle" ∧ (parseMethodDescriptor (yn y).desc).map (fun d => d.parameters.length) = some na) (hml : ml y ≤ 45) (hw : ∀ w ∈ ([.methodLink own index (yn y), .instanceMethod (yn y), .selects C (yn y) (yn y), .initialized C, .code (yn y) (cn y) (ml y) (rt y)] : List Cond), w ∈ Ts)
    (hM : zz_MX l Ts D cl fk cy z0 sp tys G yn cn ml rt d y (.ref b :: as) w E w') (hna : as.length = na) (hb : zz_ic w b ci = true) (hr : zz_cs r ≤ 8) : zz_TX l Ts D cl fk cy z0 sp tys G own mn nL cc d (pc, lv, as.reverse ++ .ref b :: r, w) E w' := by
  refine ⟨hM.1, ?_⟩
  intro p e R s m args below meth c X r1 r2 hx H locs n0 s0 ls hI hS hl hn hs hc1 hc2
  have hn : n0 ≤ w.1 := hn
  have hs : s0 ≤ w.2.1 := hs
  have hI : zz_I D cl fk cy z0 sp w H := hI
  obtain ⟨⟨m1, m2⟩, hM⟩ := hM
  obtain ⟨i1, i2, i3, i4⟩ := zz_ic_ok hb
  have hst2 : zz_sv z0 sp (as.reverse ++ .ref b :: r) = (zz_sv z0 sp as).reverse ++ .ref (zz_ad z0 sp b) :: zz_sv z0 sp r := by
    rw [zz_sv_app, zz_sv_rev]
    show _ ++ zz_v z0 sp (.ref b) :: zz_sv z0 sp r = _
    rw [zz_v_ref i2]
  show W p l e R s m args below meth c H locs (w.1 - n0) (w.2.1 - s0) _ (F0 m pc ls (zz_sv z0 sp (as.reverse ++ .ref b :: r)))
  rw [hst2]
  have he := zz_ws_get (fk := fk) (cy := cy) (z0 := z0) (sp := sp) i1
  rw [zz_e_o i3 i4] at he
  have hcw : CallW R s args own C index (yn y) (cn y) (ml y) (rt y) (Cond.code (yn y) (cn y) (ml y) (rt y) :: Ts) { frames := d, cells := w'.1 - w.1, slots := w'.2.1 - w.2.1, locals := 64 * d } (w'.1 - w.1) (w'.2.1 - w.2.1) na :=
    cwV na X.2.2.2.2.1 (zz_goodIn hgood (fun w h => by
      rcases List.mem_append.mp h with h | h
      · exact hw w (by simp only [List.mem_cons, List.not_mem_nil, or_false] at h ⊢; rcases h with h | h | h | h <;> simp [h])
      · rcases List.mem_cons.mp h with h | h
        · rw [h]; exact hw _ (by simp)
        · exact h)) rfl rfl rfl hy ⟨r1, by show 8 + (ml y + 11) + 64 * d ≤ _; omega⟩
  have hrun := vx_runV (As := zz_sv z0 sp as) (rest := zz_sv z0 sp r) (g := F0 m pc ls ((zz_sv z0 sp as).reverse ++ .ref (zz_ad z0 sp b) :: zz_sv z0 sp r)) (H := H) (locs := locs) (cells := w.1 - n0) (slots := w.2.1 - s0) (below := below) (meth := meth) (e := e) ⟨X.1, X.2.1, X.2.2.1, X.2.2.2.1, X.2.2.2.2.1⟩ hM hcw ⟨zz_blind hG, va_recv X.2.2.2.2.2.1 hI.2 hc he, fun U hU hW => ⟨by show (Value.ref (zz_ad z0 sp b) :: zz_sv z0 sp as).toArray = (zz_v z0 sp (.ref b) :: zz_sv z0 sp as).toArray; rw [zz_v_ref i2], by rw [hU]; exact hI, va_K.moved hW.alike X.2.2.2.2.2.1, zz_G_at X hG hS hU hW⟩⟩ rfl (by unfold zz_sv; rw [List.length_map]; exact hna) hl.1 rfl (lv_room (by rw [zz_cs_sv]; exact hr)) hd ⟨by omega, by omega⟩
  intro T0 hT0 X0
  rcases hrun T0 hT0 X0 with ⟨_, _, _, _, _, _, _, _, _, _, hF, _⟩ | ⟨q, st₀, t, T', L, E', ce, h0, X', hL, e1, e2, ⟨rfl, hI', hF⟩, hce, hcv, hcl, hst⟩
  · exact hF.elim
  · have hS' : va_S (fun q : Nat => z0 ≤ q) s.heap T'.heap (locs ++ L) := by
      obtain ⟨hz, hk⟩ := hF
      rw [h0] at hz hk
      refine ⟨Nat.le_trans hS.1 (by rw [e1]; exact hz), fun q h1 h2 => by rw [e1, hk q (Nat.lt_of_lt_of_le h1 hS.1) h2]; exact hS.2.1 q h1 h2, fun q hq => ?_⟩
      rcases List.mem_append.mp hq with h | h
      · exact hS.2.2 q h
      · exact hL q h
    obtain ⟨t2, a1, b1⟩ := vx_out (Qc := fun _ _ _ _ => False) (XC := zz_XC D cl fk cy z0 sp E' w') (free := fun q => z0 ≤ q) (mc := w'.1 - n0) (ms := w'.2.1 - s0) (pc := pc) (ls := ls) (rest := zz_sv z0 sp r) (q := q) (fun x h => (hx x h).elim) X.2.2.2.2.2.2.1 (by rw [e1]; exact hce) hcv hcl (fun t9 ht9 _ => ⟨rfl, by rw [ht9, e1]; exact hI', hS'.F ht9⟩) hS'.2.2 (by omega) (by omega) T' rfl X'
    exact ⟨t2, hst.trans a1, b1⟩
end ZTX
