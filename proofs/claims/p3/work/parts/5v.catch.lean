/-! METHODS WITH HANDLERS: they return, or catch what a call throws -/
def zz_MH (l : Launch) (Ts : List Cond) (D : va_G) (cl : List vw_C) (fk : Nat → Nat → Nat) (cy : Nat → ClassId) (z0 : Nat) (sp : Nat → Nat) (tys : List (ClassId × FieldType)) (G : State → Prop) (y : MethodName) (cc : ByteArray) (nL : Nat) (rtx : Option FieldType) (hh : List (Nat × Nat × Nat × Nat)) (d : Nat) (as : List Value) (w : zz_W) (rv : List Value) (w' : zz_W) : Prop :=
  (w.1 ≤ w'.1 ∧ w.2.1 ≤ w'.2.1) ∧ rv.length ≤ 1 ∧
    Met l y (Cond.codeWith y cc nL rtx hh :: Ts) { frames := d, cells := w'.1 - w.1, slots := w'.2.1 - w.2.1, locals := 64 * d } (zz_Pc D cl fk cy z0 sp tys G as w) (zz_Qc D cl fk cy z0 sp rv w') (w'.1 - w.1) (w'.2.1 - w.2.1) (fun q => z0 ≤ q)
section ZH
variable {l : Launch} {Ts : List Cond} {D : va_G} {cl : List vw_C} {fk : Nat → Nat → Nat} {cy : Nat → ClassId} {z0 : Nat} {sp : Nat → Nat} {tys : List (ClassId × FieldType)} {G : State → Prop} {own mn : String} {nL : Nat} {cc : ByteArray} {d : Nat} {pc : Nat}
variable {yn : Nat → MethodName} {cn : Nat → ByteArray} {ml : Nat → Nat} {rt : Nat → Option FieldType}
theorem zz_MH_B {y : MethodName} {pc' : Nat} {lv' : List (Nat × Value)} {as st rv : List Value} {w w' : zz_W} {rtx : Option FieldType} {hh : List (Nat × Nat × Nat × Nat)} (e1 : y.cls = own) (e2 : y.name = mn) (hy : plainName y.cls = true) (ha : zz_cs as ≤ nL) (hrv : rv.length ≤ 1)
    (hend : zz_end l z0 sp cc rtx pc' st rv) (hB : zz_B l Ts D cl fk cy z0 sp tys G own mn nL cc d (0, lv_args 0 as, [], w) (pc', lv', st, w')) : zz_MH l Ts D cl fk cy z0 sp tys G y cc nL rtx hh (d + 1) as w rv w' := by
  subst e1 e2
  refine ⟨hB.1, hrv, ?_⟩
  refine va_MetW (cc := cc) (maxL := nL) (ret := rtx) (hh := hh) hy rfl ?_
  intro p e s m args below meth c s₁ B hml hv
  obtain ⟨rfl, hI, hK, hG⟩ := hv
  have hts := atoms_spec (ws := Cond.codeWith y cc nL rtx hh :: Ts) B.pre
  have X : zz_X Ts D cl tys G y.cls y.name nL cc p s m (zz_sv z0 sp as).toArray meth c := ⟨B.exec, B.bytes, hml, findClass_of_methodNamed B.named, fun w hw => hts w (List.mem_cons_of_mem _ hw), hK, B.notSynchronized, (name_of_methodNamed B.named B.method).1, hG⟩
  have hl := lv_entry (zz_sv z0 sp as) (n := nL) (by rw [zz_lg_len, zz_cs_svv]; exact ha)
  rw [zz_lv_args] at hl
  rw [lg_entry_eq]
  have k1 := hB.2 p e (headSpec (Cond.codeWith y cc nL rtx hh :: Ts) { frames := d + 1, cells := w'.1 - w.1, slots := w'.2.1 - w.2.1, locals := 64 * (d + 1) }).room s m (zz_sv z0 sp as).toArray below meth c X (Nat.le_refl _) (Nat.le_refl _) s.heap [] w.1 w.2.1 (MQ below (zz_Qc D cl fk cy z0 sp rv w') (zz_sv z0 sp as).toArray s (w'.1 - w.1) (w'.2.1 - w.2.1) (fun q => z0 ≤ q)) _ hI va_S.rf hl (Nat.le_refl _) (Nat.le_refl _) (Nat.le_refl _) (Nat.le_refl _) (fun H' locs' ls' hI' hS' hl' => hend p e _ s m _ below meth c H' locs' _ _ ls' _ _ B.exec B.bytes B.returns B.notSynchronized (fun t ht _ => ⟨⟨rfl, by rw [ht]; exact hI'⟩, hS'.F ht⟩) hS'.2.2)
  have k2 : W p l e (headSpec (Cond.codeWith y cc nL rtx hh :: Ts) { frames := d + 1, cells := w'.1 - w.1, slots := w'.2.1 - w.2.1, locals := 64 * (d + 1) }).room s m (zz_sv z0 sp as).toArray below meth c s.heap [] (w.1 - w.1) (w.2.1 - w.2.1) (MQ below (zz_Qc D cl fk cy z0 sp rv w') (zz_sv z0 sp as).toArray s (w'.1 - w.1) (w'.2.1 - w.2.1) (fun q => z0 ≤ q)) (F0 m 0 ((lg_sl (zz_sv z0 sp as) ++ List.replicate (nL - (lg_sl (zz_sv z0 sp as)).length) Slot.unset).toArray) []) := k1
  rw [Nat.sub_self, Nat.sub_self] at k2
  exact k2
/-- the method calls yq, which throws an E; the row x of its table catches it: astore, a constant, return -/
theorem zz_MH_X {y : MethodName} {yq index na ci N b ph i : Nat} {kf : Fin 4} {kv : Int} {v : Int32} {C E : String} {T : u_T} {lv : List (Nat × Value)} {as bs r : List Value} {w w1 w' : zz_W} {hh pre suf : List (Nat × Nat × Nat × Nat)} {x : Nat × Nat × Nat × Nat} (e1 : y.cls = own) (e2 : y.name = mn) (hy0 : plainName y.cls = true) (ha : zz_cs as ≤ nL)
    (hB : zz_B l Ts D cl fk cy z0 sp tys G own mn nL cc d (0, lv_args 0 as, [], w) (pc, lv, bs.reverse ++ .ref b :: r, w1))
    (hd : decode cc pc = .ok (.invokevirtual index, 3)) (hgood : ∀ w ∈ Ts, goodWord w = true) (hG : zz_GF z0 G) (hc : cl[ci]? = some (C, T, N))
    (hy : (yn yq).cls = C ∧ (yn yq).cls ≠ "java/lang/invoke/MethodHandle" ∧ (yn yq).cls ≠ "java/lang/invoke/VarHandle" ∧ (parseMethodDescriptor (yn yq).desc).map (fun d => d.parameters.length) = some na) (hml : ml yq ≤ 45) (hw : ∀ w ∈ ([.methodLink own index (yn yq), .instanceMethod (yn yq), .selects C (yn yq) (yn yq), .initialized C, .code (yn yq) (cn yq) (ml yq) (rt yq)] : List Cond), w ∈ Ts)
    (hM : zz_MX l Ts D cl fk cy z0 sp tys G yn cn ml rt d yq (.ref b :: bs) w1 E w') (hna : bs.length = na) (hb : zz_ic w1 b ci = true) (hr : zz_cs r ≤ 8)
    (hsplit : hh = pre ++ x :: suf) (hpass : ∀ z ∈ pre, z.2.2.2 ≠ 0 ∧ ∃ nm : String, Cond.classLink own z.2.2.2 nm ∈ Ts ∧ ∀ U, G U → va_Nc E nm U) (hcov : covers ⟨x.1, x.2.1, x.2.2.1, x.2.2.2⟩ pc = true) (hx0 : x.2.2.2 ≠ 0) (hlink : Cond.classLink own x.2.2.2 E ∈ Ts) (hcast : ∀ U, G U → va_Nw (.castable E E) U)
    (hph : x.2.2.1 = ph) (d0 : decode cc ph = .ok (.astore_n kf, 1)) (hi : (kf : Nat) = i) (hin : i < nL) (d1 : decode cc (ph + 1) = .ok (.iconst kv, 1)) (hv : Int32.ofInt kv = v) (d2 : decode cc (ph + 2) = .ok (.ireturn, 1)) : zz_MH l Ts D cl fk cy z0 sp tys G y cc nL (some .int) hh (d + 1) as w [.int v] w' := by
  subst e1 e2 hph
  have q1 := hB.1
  have q2 := hM.1
  refine ⟨⟨Nat.le_trans q1.1 q2.1, Nat.le_trans q1.2 q2.2⟩, Nat.le_refl _, ?_⟩
  refine va_MetW (cc := cc) (maxL := nL) (ret := some .int) (hh := hh) hy0 rfl ?_
  intro p e s m args below meth c s₁ B hml0 hpc
  obtain ⟨rfl, hI, hK, hGs⟩ := hpc
  have hts := atoms_spec (ws := Cond.codeWith y cc nL (some .int) hh :: Ts) B.pre
  have X : zz_X Ts D cl tys G y.cls y.name nL cc p s m (zz_sv z0 sp as).toArray meth c := ⟨B.exec, B.bytes, hml0, findClass_of_methodNamed B.named, fun w hw => hts w (List.mem_cons_of_mem _ hw), hK, B.notSynchronized, (name_of_methodNamed B.named B.method).1, hGs⟩
  have htab : c.exceptionTable.toList = tableOf hh := vx_table (x := y) B (hts _ List.mem_cons_self)
  have hl := lv_entry (zz_sv z0 sp as) (n := nL) (by rw [zz_lg_len, zz_cs_svv]; exact ha)
  rw [zz_lv_args] at hl
  rw [lg_entry_eq]
  have q3 : w.1 ≤ w1.1 := q1.1
  have q4 : w.2.1 ≤ w1.2.1 := q1.2
  have k1 := hB.2 p e (headSpec (Cond.codeWith y cc nL (some .int) hh :: Ts) { frames := d + 1, cells := w'.1 - w.1, slots := w'.2.1 - w.2.1, locals := 64 * (d + 1) }).room s m (zz_sv z0 sp as).toArray below meth c X (Nat.le_refl _) (Nat.le_refl _) s.heap [] w.1 w.2.1 (MQ below (zz_Qc D cl fk cy z0 sp [.int v] w') (zz_sv z0 sp as).toArray s (w'.1 - w.1) (w'.2.1 - w.2.1) (fun q => z0 ≤ q)) _ hI va_S.rf hl (Nat.le_refl _) (Nat.le_refl _) (by show w1.1 - w.1 ≤ w'.1 - w.1; omega) (by show w1.2.1 - w.2.1 ≤ w'.2.1 - w.2.1; omega) (fun H locs ls hI hS hl => ?_)
  · have k2 : W p l e (headSpec (Cond.codeWith y cc nL (some .int) hh :: Ts) { frames := d + 1, cells := w'.1 - w.1, slots := w'.2.1 - w.2.1, locals := 64 * (d + 1) }).room s m (zz_sv z0 sp as).toArray below meth c s.heap [] (w.1 - w.1) (w.2.1 - w.2.1) (MQ below (zz_Qc D cl fk cy z0 sp [.int v] w') (zz_sv z0 sp as).toArray s (w'.1 - w.1) (w'.2.1 - w.2.1) (fun q => z0 ≤ q)) (F0 m 0 ((lg_sl (zz_sv z0 sp as) ++ List.replicate (nL - (lg_sl (zz_sv z0 sp as)).length) Slot.unset).toArray) []) := k1
    rw [Nat.sub_self, Nat.sub_self] at k2
    exact k2
  · have hI : zz_I D cl fk cy z0 sp w1 H := hI
    have hl : lv_has ls nL (zz_lv z0 sp lv) := hl
    obtain ⟨⟨m1, m2⟩, hM⟩ := hM
    obtain ⟨i1, i2, i3, i4⟩ := zz_ic_ok hb
    have hst2 : zz_sv z0 sp (bs.reverse ++ .ref b :: r) = (zz_sv z0 sp bs).reverse ++ .ref (zz_ad z0 sp b) :: zz_sv z0 sp r := by
      rw [zz_sv_app, zz_sv_rev]
      show _ ++ zz_v z0 sp (.ref b) :: zz_sv z0 sp r = _
      rw [zz_v_ref i2]
    show W p l e _ s m (zz_sv z0 sp as).toArray below meth c H locs (w1.1 - w.1) (w1.2.1 - w.2.1) _ (F0 m pc ls (zz_sv z0 sp (bs.reverse ++ .ref b :: r)))
    rw [hst2]
    have he := zz_ws_get (fk := fk) (cy := cy) (z0 := z0) (sp := sp) i1
    rw [zz_e_o i3 i4] at he
    have hcw : CallW (headSpec (Cond.codeWith y cc nL (some .int) hh :: Ts) { frames := d + 1, cells := w'.1 - w.1, slots := w'.2.1 - w.2.1, locals := 64 * (d + 1) }).room s (zz_sv z0 sp as).toArray y.cls C index (yn yq) (cn yq) (ml yq) (rt yq) (Cond.code (yn yq) (cn yq) (ml yq) (rt yq) :: Ts) { frames := d, cells := w'.1 - w1.1, slots := w'.2.1 - w1.2.1, locals := 64 * d } (w'.1 - w1.1) (w'.2.1 - w1.2.1) na :=
      cwV na X.2.2.2.2.1 (zz_goodIn hgood (fun w h => by
        rcases List.mem_append.mp h with h | h
        · exact hw w (by simp only [List.mem_cons, List.not_mem_nil, or_false] at h ⊢; rcases h with h | h | h | h <;> simp [h])
        · rcases List.mem_cons.mp h with h | h
          · rw [h]; exact hw _ (by simp)
          · exact h)) rfl rfl rfl hy ⟨Nat.le_refl _, by show 8 + (ml yq + 11) + 64 * d ≤ 64 * (d + 1); omega⟩
    have hrun := vx_runV (As := zz_sv z0 sp bs) (rest := zz_sv z0 sp r) (g := F0 m pc ls ((zz_sv z0 sp bs).reverse ++ .ref (zz_ad z0 sp b) :: zz_sv z0 sp r)) (H := H) (locs := locs) (cells := w1.1 - w.1) (slots := w1.2.1 - w.2.1) (below := below) (meth := meth) (e := e) ⟨X.1, X.2.1, X.2.2.1, X.2.2.2.1, X.2.2.2.2.1⟩ hM hcw ⟨zz_blind hG, va_recv X.2.2.2.2.2.1 hI.2 hc he, fun U hU hW => ⟨by show (Value.ref (zz_ad z0 sp b) :: zz_sv z0 sp bs).toArray = (zz_v z0 sp (.ref b) :: zz_sv z0 sp bs).toArray; rw [zz_v_ref i2], by rw [hU]; exact hI, va_K.moved hW.alike X.2.2.2.2.2.1, zz_G_at X hG hS hU hW⟩⟩ rfl (by unfold zz_sv; rw [List.length_map]; exact hna) hl.1 rfl (lv_room (by rw [zz_cs_sv]; exact hr)) hd ⟨by show w1.1 - w.1 + (w'.1 - w1.1) ≤ w'.1 - w.1; omega, by show w1.2.1 - w.2.1 + (w'.2.1 - w1.2.1) ≤ w'.2.1 - w.2.1; omega⟩
    intro T0 hT0 X0
    rcases hrun T0 hT0 X0 with ⟨_, _, _, _, _, _, _, _, _, _, hF, _⟩ | ⟨q, st₀, t, T', L, E', ce, h0, X', hL, g1, g2, ⟨rfl, hI', hF⟩, hce, hcv, hcl, hst⟩
    · exact hF.elim
    · have hS' : va_S (fun q : Nat => z0 ≤ q) s.heap T'.heap (locs ++ L) := by
        obtain ⟨hz, hk⟩ := hF
        rw [h0] at hz hk
        refine ⟨Nat.le_trans hS.1 (by rw [g1]; exact hz), fun q h1 h2 => by rw [g1, hk q (Nat.lt_of_lt_of_le h1 hS.1) h2]; exact hS.2.1 q h1 h2, fun q hq => ?_⟩
        rcases List.mem_append.mp hq with h | h
        · exact hS.2.2 q h
        · exact hL q h
      have n1 : w1.1 - w.1 + (w'.1 - w1.1) = w'.1 - w.1 := by omega
      have n2 : w1.2.1 - w.2.1 + (w'.2.1 - w1.2.1) = w'.2.1 - w.2.1 := by omega
      have hW : W p l e (headSpec (Cond.codeWith y cc nL (some .int) hh :: Ts) { frames := d + 1, cells := w'.1 - w.1, slots := w'.2.1 - w.2.1, locals := 64 * (d + 1) }).room s m (zz_sv z0 sp as).toArray below meth c T'.heap (locs ++ L) (w1.1 - w.1 + (w'.1 - w1.1)) (w1.2.1 - w.2.1 + (w'.2.1 - w1.2.1)) (MQ below (zz_Qc D cl fk cy z0 sp [.int v] w') (zz_sv z0 sp as).toArray s (w'.1 - w.1) (w'.2.1 - w.2.1) (fun q => z0 ≤ q)) (F0 m x.2.2.1 ls [.ref q]) := by
        rw [n1, n2]
        exact lv_astore_n X.1 X.2.1 d0 hi hl hin rfl fun ls' _ => lv_iconst X.1 X.2.1 d1 hv (W.iret X.1 X.2.1 B.returns (fun t9 ht9 _ => ⟨⟨rfl, by rw [ht9, g1]; exact hI'⟩, hS'.F ht9⟩) hS'.2.2 d2 X.2.2.2.2.2.2.1)
      obtain ⟨t2, a1, b1⟩ := vx_catch (own := y.cls) (name := E') (E := E') (ce := ce) (q := q) (pc := pc) (ls := ls) (rest := zz_sv z0 sp r) X.2.2.2.1 (tableOf pre) ⟨x.1, x.2.1, x.2.2.1, x.2.2.2⟩ (tableOf suf) (by rw [htab, hsplit]; unfold tableOf; rw [List.map_append, List.map_cons]) (fun z hz => by
        obtain ⟨z', hz', rfl⟩ := List.mem_map.mp hz
        obtain ⟨hz0, nm, hl1, hn1⟩ := hpass z' hz'
        exact Or.inr ⟨hz0, nm, X.2.2.2.2.1 _ hl1, hn1 s hGs⟩) hcov hx0 (X.2.2.2.2.1 _ hlink) (va_Nw.use rfl (hcast s hGs)) (by rw [g1]; exact hce) hcv hcl hW T' rfl X'
      exact ⟨t2, hst.trans a1, b1⟩
/-- a static call of a method with handlers -/
theorem zz_sH {y : MethodName} {index na nLy : Nat} {ccy : ByteArray} {rty : Option FieldType} {hh : List (Nat × Nat × Nat × Nat)} {lv : List (Nat × Value)} {st as r rv : List Value} {w w' : zz_W} (hd : decode cc pc = .ok (.invokestatic index, 3)) (hgood : ∀ w ∈ Ts, goodWord w = true) (hG : zz_GF z0 G)
    (hy : y.cls ≠ "java/lang/invoke/MethodHandle" ∧ y.cls ≠ "java/lang/invoke/VarHandle" ∧ (parseMethodDescriptor y.desc).map (fun d => d.parameters.length) = some na) (hml : nLy ≤ 45) (hw1 : Cond.methodLink own index y ∈ Ts) (hw2 : Cond.static y ∈ Ts) (hw3 : Cond.initialized y.cls ∈ Ts) (hw4 : Cond.codeWith y ccy nLy rty hh ∈ Ts)
    (hM : zz_MH l Ts D cl fk cy z0 sp tys G y ccy nLy rty hh d as w rv w') (hst : st = as.reverse ++ r) (hna : as.length = na) (hr : zz_cs r ≤ 8) : zz_B l Ts D cl fk cy z0 sp tys G own mn nL cc d (pc, lv, st, w) (pc + 3, lv, rv ++ r, w') := by
  subst hst
  obtain ⟨⟨m1, m2⟩, hrv, hM⟩ := hM
  refine ⟨⟨m1, m2⟩, ?_⟩
  intro p e R s m args below meth c X hR1 hR2 H locs n0 s0 Q ls hI hS hl hn hs hc1 hc2 kk
  have hI : zz_I D cl fk cy z0 sp w H := hI
  have hn : n0 ≤ w.1 := hn
  have hs : s0 ≤ w.2.1 := hs
  have hc1 : w'.1 - n0 ≤ R.cells := hc1
  have hc2 : w'.2.1 - s0 ≤ R.slots := hc2
  have hst2 : zz_sv z0 sp (as.reverse ++ r) = (zz_sv z0 sp as).reverse ++ zz_sv z0 sp r := by
    rw [zz_sv_app, zz_sv_rev]
  show W p l e R s m args below meth c H locs (w.1 - n0) (w.2.1 - s0) Q (F0 m pc ls (zz_sv z0 sp (as.reverse ++ r)))
  rw [hst2]
  have hcw : vx_CSW R s args own index y ccy nLy rty hh (Cond.codeWith y ccy nLy rty hh :: Ts) { frames := d, cells := w'.1 - w.1, slots := w'.2.1 - w.2.1, locals := 64 * d } (w'.1 - w.1) (w'.2.1 - w.2.1) na :=
    vx_cwSW na X.2.2.2.2.1 (zz_goodIn hgood (fun w h => by
      rcases List.mem_append.mp h with h | h
      · simp only [List.mem_cons, List.not_mem_nil, or_false] at h
        rcases h with h | h | h <;> (rw [h]; assumption)
      · rcases List.mem_cons.mp h with h | h
        · rw [h]; exact hw4
        · exact h)) rfl rfl rfl hy ⟨hR1, by show 8 + (nLy + 11) + 64 * d ≤ _; omega⟩
  refine zz_behind (fk := fk) (cy := cy) (D := D) (cl := cl) (mc := w'.1 - w.1) (ms := w'.2.1 - w.2.1) (rest := r) hrv (vx_runSW (As := zz_sv z0 sp as) ⟨X.1, X.2.1, X.2.2.1, X.2.2.2.1, X.2.2.2.2.1⟩ hM hcw ⟨zz_blind hG, fun U hU hW => ⟨rfl, by rw [hU]; exact hI, va_K.moved hW.alike X.2.2.2.2.2.1, zz_G_at X hG hS hU hW⟩⟩ rfl (by unfold zz_sv; rw [List.length_map]; exact hna) hl.1 rfl (lv_room (by rw [zz_cs_sv]; exact hr)) hd ⟨by omega, by omega⟩) hS fun H1 locs1 hI1 hS1 => ?_
  have k1 := kk H1 locs1 ls hI1 hS1 hl
  have q1 : w'.1 - n0 = w.1 - n0 + (w'.1 - w.1) := by omega
  have q2 : w'.2.1 - s0 = w.2.1 - s0 + (w'.2.1 - w.2.1) := by omega
  have k2 : W p l e R s m args below meth c H1 locs1 (w'.1 - n0) (w'.2.1 - s0) Q (F0 m (pc + 3) ls (zz_sv z0 sp (rv ++ r))) := k1
  rw [q1, q2] at k2
  exact k2
end ZH
