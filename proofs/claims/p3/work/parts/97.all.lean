/-! THE LAW ON EVERY SCRIPT OF AT MOST 2048 INTS -/
theorem zz_GF_and {z0 : Nat} {G : State → Prop} {ty : FieldType} {t N : Nat} {h : Nat → Value} (hG : zz_GF z0 G) : zz_GF z0 (fun U => G U ∧ va_T ty t N h (fun q : Nat => z0 ≤ q) U U.heap) := by
  refine ⟨fun U V hW hz hq g => ⟨hG.1 U V hW hz hq g.1, (va_T.moved hW.alike g.2).kept (fun a _ ha => hq a (by omega))⟩, fun U V hv hh g => ⟨hG.2.1 U V hv hh g.1, ?_⟩, fun U g => hG.2.2 U g.1⟩
  rw [hh]
  exact va_T.moved (by rw [hv]; exact Vm.Alike.refl _) g.2
theorem zW_nm {l : Launch} {D : va_G} {cy : Nat → ClassId} {z0 : Nat} {sp : Nat → Nat} {G : State → Prop} (hG : zz_GF z0 G) (hP : ∀ U, G U → zz_GD zS zS2 zLg z0 sp U) (k : Nat) : zW l D cy z0 (zz_spk k sp) G := zW_ok hG (fun U h => zz_GD_nm (by decide +kernel) (by decide +kernel) (by decide +kernel) (hP U h))
theorem zHy_ok {l : Launch} {D : va_G} {cy : Nat → ClassId} {z0 : Nat} {sp : Nat → Nat} {G : State → Prop} (hG : zz_GF z0 G) (hP : ∀ U, G U → zz_GD zS zS2 zLg z0 sp U) (hsp0 : sp 18446744073709551616 = 0) (hl : l.stackTraces = false) (hE : ∀ U, G U → zGX z0 U) : zHy l D cy z0 sp G := ⟨hG, hP, zW_ok hG hP, hsp0, fun k => zW_nm hG hP k, zTXp_ok hl hP hE hsp0, hl, hE⟩
theorem zLaw_N {l : Launch} {D : va_G} {cy : Nat → ClassId} {z0 : Nat} {sp : Nat → Nat} {G : State → Prop} (H : zHy l D cy z0 sp G) {mn : String} {L : Nat} (hL : L ≤ 2048) {xs : Nat → Int32} (hX : ∀ U, G U → va_T .int (sp 999999) L (fun j => .int (xs j)) (fun q : Nat => z0 ≤ q) U U.heap) : ∃ i w2, zz_B l zTs D zcl zFK cy z0 sp (zTys cy) G "ToolMillLaw" mn 7 code 470 zF_0 (906, zLv i, [.int (Int32.ofNat 1)], w2) ∧ w2.1 ≤ 1000 ∧ w2.2.1 ≤ 2330000 := by
  obtain ⟨hG, hP, hW, hsp0, hr⟩ := id H
  have KS := zKS (l := l) (D := D) (cy := cy) (z0 := z0) (sp := sp) hsp0 hG hP 470
  have b0 := zLaw_pre (mn := mn) KS hsp0 hG hP zR1 zR2
  obtain ⟨i, w2, b1, n1, n2⟩ := zLaw_go (mn := mn) H hX hL 512 0 0 zW3 (by omega) (by omega) (Nat.le_refl _) zIv_0
  exact ⟨i, w2, zz_B_tr b0 b1, n1, n2⟩
set_option maxHeartbeats 4000000 in
theorem whole_start {p : Program} {e : Env} {s : State} {m : MethodId} {below : List Frame} {meth : Method} {c : Code} (l : Launch) (hl : l.stackTraces = false) {b L : Nat} {xs : Nat → Int32} (hL : L ≤ 2048) (C0 : lw_At p s m meth c b L xs) : W p l e room_1 s m #[Value.ref b] below meth c s.heap [] 0 0 (lw_Z below #[Value.ref b] s) (entryFrame m ([Value.ref b] : List Value).toArray 7) := by
  obtain ⟨hx, hb, hr, hml, hown, hts, hX, hbl, hlocks, hgv⟩ := id C0
  have htx := zXt_ok hts
  obtain ⟨sp0, hsp', hGD'⟩ := zG_at b htx hgv
  obtain ⟨sp, hsp, hsp0, hGD⟩ : ∃ sp : Nat → Nat, sp 999999 = b ∧ sp 18446744073709551616 = 0 ∧ zz_GD zS zS2 zLg s.heap.size sp s := ⟨zz_spk 0 sp0, (zz_spk_o (by decide)).trans hsp', zz_spk_k, zz_GD_nm (by decide +kernel) (by decide +kernel) (by decide +kernel) hGD'⟩
  obtain ⟨D, cy, hK⟩ := zK_at htx
  have hGX := zGX_at htx hgv
  have hT : va_T .int b L (fun j => .int (xs j)) (fun q : Nat => s.heap.size ≤ q) s s.heap := by
    obtain ⟨scr, hcb, hof, hkn, hsz, hval⟩ := hX
    exact ⟨scr, hcb, hof, hkn, Nat.le_of_eq hsz.symm, by rw [hsz], hval, Nat.not_le.mpr hbl⟩
  have hGF : zz_GF s.heap.size (fun U => (zz_GD zS zS2 zLg s.heap.size sp U ∧ va_T .int b L (fun j => .int (xs j)) (fun q : Nat => s.heap.size ≤ q) U U.heap) ∧ zGX s.heap.size U) := zGX_F (zz_GF_and zz_GD_GF)
  obtain ⟨i, w2, B, n1, n2⟩ := zLaw_N (l := l) (D := D) (cy := cy) (mn := meth.name) (zHy_ok hGF (fun U h => h.1.1) hsp0 hl (fun U h => h.2)) hL (xs := xs) (fun U h => by rw [hsp]; exact h.1.2)
  have X : zz_X zTs D zcl (zTys cy) (fun U => (zz_GD zS zS2 zLg s.heap.size sp U ∧ va_T .int b L (fun j => .int (xs j)) (fun q : Nat => s.heap.size ≤ q) U U.heap) ∧ zGX s.heap.size U) "ToolMillLaw" meth.name 7 code p s m #[Value.ref b] meth c := ⟨hx, hb, hml, hown, fun w hw => htx w (zTs_in w hw), hK, hlocks, rfl, ⟨hGD, hT⟩, hGX⟩
  have hl1 := lv_entry ([.ref b]) (n := 7) (Nat.le_of_ble_eq_true rfl)
  rw [lg_entry_eq]
  generalize (lg_sl ([.ref b]) ++ List.replicate (7 - (lg_sl ([.ref b])).length) Slot.unset).toArray = ls at hl1 ⊢
  have hl2 : lv_has ls 7 (zz_lv s.heap.size sp [(0, .ref 1999999)]) := by
    have e : zz_lv s.heap.size sp [(0, .ref 1999999)] = [(0, .ref b)] := by
      show [((0 : Nat), Value.ref (zz_r s.heap.size sp 1999999))] = _
      rw [zz_r_s, hsp]
    rw [e]
    exact hl1
  refine B.2 p e room_1 s m #[Value.ref b] below meth c X (by decide) (by decide) s.heap [] 0 0 (lw_Z below #[Value.ref b] s) ls ⟨rfl, fun k q h => absurd (zz_ws_at h).1 (Nat.not_lt_zero _)⟩ va_S.rf hl2 (Nat.le_refl _) (Nat.le_refl _) (show w2.1 - 0 ≤ 601024 by omega) (show w2.2.1 - 0 ≤ 7293034 by omega) fun H' locs' ls' hI' hS' hl' => ?_
  refine va_forget hS'.2.2 (W.widen (k := 601024) (n := 7293034) (show w2.1 - 0 ≤ 601024 by omega) (show w2.2.1 - 0 ≤ 7293034 by omega) ?_)
  exact lw_ret hx hb hr hlocks zd_900_906
set_option maxHeartbeats 4000000 in
theorem lw_walk (l : Launch) (hl : l.stackTraces = false) (b : Addr) (xs : List Int32) : MetFree l x (headSpec (Jvm.Cond.code x code maxLocals ret :: tables_1) room_1) (lw_P b xs) (fun _ _ _ _ _ => True) lw_Q := by
  refine MetFree.of_bodyS (code := code) (maxLocals := maxLocals) (ret := ret) (by decide) ?_ ?_
  · intro args s m h hn
    obtain ⟨meth, c, h1, h2, h3, h4, h5, h6, -, -⟩ := Cond.code_spec hn (atoms_spec (ws := Jvm.Cond.code x code maxLocals ret :: tables_1) h _ List.mem_cons_self)
    exact ⟨meth, c, h1, h2, h3, h4, h5, h6⟩
  · intro p e s m args below meth c s₁ B hml0 hP _
    obtain ⟨rfl, hx, hbd, hgv⟩ := hP
    obtain ⟨scr, harrAt, hlist, hof, hsmall⟩ := hx
    obtain ⟨hcb, hkn, -, -⟩ := State.arrayAt?_spec harrAt
    have hown : s.vm.findClass R_law = some m.cls := findClass_of_methodNamed B.named
    have hts0 : ∀ c ∈ (Jvm.Cond.code x code maxLocals ret :: tables_1), c.before #[Value.ref b] s = true := atoms_spec (ws := Jvm.Cond.code x code maxLocals ret :: tables_1) B.pre
    have hts : ∀ w ∈ lw_tbl, w.before #[Value.ref b] s = true := k2_hts_sels lw_privs (fun w hw => hts0 w (List.mem_cons_of_mem _ hw)) lw_privs_ok
    have hml : c.maxLocals = 7 := B.maxLocals_eq (hts0 _ List.mem_cons_self)
    have X₀ : Stand p l e room_1 s m #[Value.ref b] below meth c s₁ [] 0 0 := Stand.of_body B
    have hh0 : s₁.heap = s.heap := by rw [B.state]; rfl
    have hsz : scr.slots.size = xs.length := by rw [← Array.length_toList, hlist, List.length_map]
    have hval : ∀ j : Nat, j < xs.length → scr.slots[j]? = some (.int (xs.getD j 0)) := fun j hj => by
      rw [← Array.getElem?_toList, hlist]
      simp [hj]
    have hbl : b < s.heap.size := (Array.getElem?_eq_some_iff.mp hcb).1
    have hX : va_X b xs.length (fun j => xs.getD j 0) s s.heap := ⟨scr, hcb, hof, hkn, hsz, hval⟩
    have K : W p l e room_1 s m #[Value.ref b] below meth c s₁.heap [] 0 0 (lw_Z below #[Value.ref b] s) (entryFrame m ([Value.ref b] : List Value).toArray 7) := by
      rw [hh0]
      exact whole_start l hl hbd ⟨B.exec, B.bytes, B.returns, hml, hown, hts, hX, hbl, B.notSynchronized, hgv⟩
    obtain ⟨t, a1, o, b1, b2, b3⟩ := K s₁ rfl X₀
    exact ⟨t, o, a1, b1, b2, b3⟩
theorem lw_pre_spec {args : Array Value} {s : State} (h : (Jvm.Cond.and given_1 narrow_1).before args s = true) (hr : rest_1_c.before args s = true) : ∃ (b : Addr) (xs : List Int32), lw_P b xs args s := by
  have hs := flat_of_before _ h
  have hq := flat_of_before _ hr
  have hc : (Cond.count 1).before args s = true := hs _ (by decide +kernel)
  have harr : (Cond.arrayOf (.arg 0) .int).before args s = true := hs _ (by decide +kernel)
  have hle : (Cond.le (.length (.arg 0)) (.int 2048)).before args s = true := hs _ (by decide +kernel)
  have hlen : (Cond.isInt (.length (.arg 0))).before args s = true := hq _ (by decide +kernel)
  have hall : (Cond.all (.arg 0) (.isInt (.elem (.arg 0) (.index 0)))).before args s = true := hq _ (by decide +kernel)
  obtain ⟨b, xs, hb, hx⟩ := State.ints_of_pre rfl harr hlen hall
  have hsm : xs.length < 2 ^ 31 := hx.choose_spec.2.2.2
  have hev : (Term.length (.arg 0)).eval args s none [] s = some (.int xs.length.toInt32) := hx.length_eval hb
  have hv := Cond.le_ints hev (show (Term.int 2048).eval args s none [] s = some (.int 2048) from rfl)
  have hd : xs.length.toInt32 ≤ 2048 := by
    simpa [Cond.before, Cond.holds, hv] using hle
  have hN : xs.length ≤ 2048 := (Int32.ofNat_le_ofNat hsm (by decide)).mp (show Int32.ofNat xs.length ≤ Int32.ofNat 2048 from hd)
  exact ⟨b, xs, Cond.one_arg hc (show args[0]? = some (.ref b) from hb), hx, hN, h⟩
theorem lw_comes (l : Launch) (hl : l.stackTraces = false) : Comes l x (Jvm.Cond.code x code maxLocals ret :: tables_1) room_1 (fun tb e args s => Calls_1 tb e args s ∧ rest_1 tb e args s ∧ Pre_1 tb e args s)
    (fun _ _ args s o t => lw_Q args s o t) := by
  intro p e ha hc hk s m args below hf hfit hheap happ hpre
  obtain ⟨b, xs, hP⟩ := lw_pre_spec hpre.2.2 hpre.2.1
  obtain ⟨k, o, h1, h2, h3, hQ⟩   := lw_walk l hl b xs p e ha hc hk s m args below hf ((Spec.applies_iff_loose hf).mp happ).1 hP trivial
  exact ⟨k, o, h1, h2, h3, hQ⟩
theorem lw_frame {s t : State} {o : Outcome} {args : Array Value} (h : Framed s o t [] 601024 7293034) :
    Framed s o t (fieldLocs frame_1_writes args s ++ arrayLocs frame_1_arrays args s ++ staticLocs frame_1_statics s) 601024 7293034 := h
theorem lw_limb (L : Cond) (hL : ∀ (args : Array Value) (s t : State), L.after args s (.returned (some (.int 1))) t = true) :
    ArmFor flags0 classFile x code maxLocals ret World_1 tables_1 room_1 Calls_1 rest_1 Pre_1
      (fun tb e a s o t => postC L tb e a s o t ∧ Framed s o t (fieldLocs frame_1_writes a s ++ arrayLocs frame_1_arrays a s ++ staticLocs frame_1_statics s) 601024 7293034) := by
  intro l hfl _ _ p e ha hc hk s m args below hf hfit hheap happ hpre
  obtain ⟨k, o, h1, h2, h3, rfl, hF⟩ := lw_comes l (by unfold Launch.stackTraces; rw [hfl]; decide) p e ha hc hk s m args below hf hfit hheap happ hpre
  exact ⟨k, _, h1, h2, h3, hL args s _, lw_frame hF⟩
theorem i_vc : Claimed_1_1 ∧ Claimed_1_2 := ⟨lw_limb limb_1_1 (fun args s t => by simp [limb_1_1, Cond.after, Cond.holds, Cond.value]), lw_limb limb_1_2 (fun args s t => Cond.after_iff.mpr (by
  first | (rw [show limb_1_2 = Cond.eq .result (.int 1) from rfl, Cond.eq_ints (x := 1) (y := 1) rfl rfl]; simp; done) | (simp [limb_1_2, Cond.value, Term.eval]; done)))⟩
