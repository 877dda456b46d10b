/-! THE LAW ON EVERY SCRIPT OF AT MOST FOUR INTS -/
theorem zz_GF_and {z0 : Nat} {G : State → Prop} {ty : FieldType} {t N : Nat} {h : Nat → Value} (hG : zz_GF z0 G) : zz_GF z0 (fun U => G U ∧ va_T ty t N h (fun q : Nat => z0 ≤ q) U U.heap) := by
  refine ⟨fun U V hW hz hq g => ⟨hG.1 U V hW hz hq g.1, (va_T.moved hW.alike g.2).kept (fun a _ ha => hq a (by omega))⟩, fun U V hv hh g => ⟨hG.2.1 U V hv hh g.1, ?_⟩, fun U g => hG.2.2 U g.1⟩
  rw [hh]
  exact va_T.moved (by rw [hv]; exact Vm.Alike.refl _) g.2
theorem zLaw_e {l : Launch} {D : va_G} {cy : Nat → ClassId} {z0 : Nat} {sp : Nat → Nat} {G : State → Prop} {mn : String} {d : Nat} {K : zz_K} (hKS : zz_KS l D zcl zFK cy z0 sp (zTys cy) G zYN (fun y => Cond.code (zYN y) (zCN y) (zMQ y) (zRT y) :: zTs) d K) (hG : zz_GF z0 G) (hP : ∀ U, G U → zz_GD zS zS2 zLg z0 sp U) {i : Int32} {w : zz_W} : zz_B l zTs D zcl zFK cy z0 sp (zTys cy) G "ToolMillLaw" mn 7 code d (1487, zLv i, [], w) (23, zLv (i + Int32.ofNat 4), [], w) := by
  have b1 : zz_B l zTs D zcl zFK cy z0 sp (zTys cy) G "ToolMillLaw" mn 7 code d (1487, zLv i, [], w) (1490, zLv (i + Int32.ofNat 4), [], w) := zz_O_B (zlw_1487 hKS hG hP) rfl (by
    show zz_fI (i + Int32.ofNat 4) (fun z => zz_lf false 4 (zLv i) (fun l => some ((1490, (4, Value.int z) :: l, [], w) : zz_F))) = _
    rw [zz_fI_eq, zz_lf_eq]
    rfl)
  have b2 : zz_B l zTs D zcl zFK cy z0 sp (zTys cy) G "ToolMillLaw" mn 7 code d (1490, zLv (i + Int32.ofNat 4), [], w) (23, zLv (i + Int32.ofNat 4), [], w) := zz_O_B (zlw_1490 hKS hG hP) rfl rfl
  exact zz_B_tr b1 b2
theorem zLaw_39 {l : Launch} {D : va_G} {cy : Nat → ClassId} {z0 : Nat} {sp : Nat → Nat} {G : State → Prop} (hG : zz_GF z0 G) (hP : ∀ U, G U → zz_GD zS zS2 zLg z0 sp U) (hl : l.stackTraces = false) (hE : ∀ U, G U → zGX z0 U) {mn : String} {xs : Nat → Int32} (hX : ∀ U, G U → va_T .int (sp 999999) 4 (fun j => .int (xs j)) (fun q : Nat => z0 ≤ q) U U.heap) {k : Nat} (hk : k < 32) : ∃ w2, zz_B l zTs D zcl zFK cy z0 sp (zTys cy) G "ToolMillLaw" mn 7 code 16 (39, zLv (Int32.ofNat 0), [.int (Int32.ofNat k)], zW3) (1487, zLv (Int32.ofNat 0), [], w2) ∧ w2.1 ≤ 331 ∧ w2.2.1 ≤ 2300700 := by
  by_cases h : 22 < k
  · refine ⟨zW3, zz_O_B (zlw_39 (K := zz_k0) zz_k0_KS hG hP) rfl (ze_tsw_d (Or.inr ?_)), by rw [zn3_1]; decide, by rw [zn3_2]; decide⟩
    rw [Int32.toInt_ofNat_of_lt (by omega)]
    omega
  · match k, h with
    | 0, _ => exact zLc_0 hG hP hl hE hX
    | 1, _ => exact zLc_1 hG hP hl hE hX
    | 2, _ => exact zLc_2 hG hP hl hE hX
    | 3, _ => exact zLc_3 hG hP hl hE hX
    | 4, _ => exact zLc_4 hG hP hl hE hX
    | 5, _ => exact zLc_5 hG hP hl hE hX
    | 6, _ => exact zLc_6 hG hP hl hE hX
    | 7, _ => exact zLc_7 hG hP hl hE hX
    | 8, _ => exact zLc_8 hG hP hl hE hX
    | 9, _ => exact zLc_9 hG hP hl hE hX
    | 10, _ => exact zLc_10 hG hP hl hE hX
    | 11, _ => exact zLc_11 hG hP hl hE hX
    | 12, _ => exact zLc_12 hG hP hl hE hX
    | 13, _ => exact zLc_13 hG hP hl hE hX
    | 14, _ => exact zLc_14 hG hP hl hE hX
    | 15, _ => exact zLc_15 hG hP hl hE hX
    | 16, _ => exact zLc_16 hG hP hl hE hX
    | 17, _ => exact zLc_17 hG hP hl hE hX
    | 18, _ => exact zLc_18 hG hP hl hE hX
    | 19, _ => exact zLc_19 hG hP hl hE hX
    | 20, _ => exact zLc_20 hG hP hl hE hX
    | 21, _ => exact zLc_21 hG hP hl hE hX
    | 22, _ => exact zLc_22 hG hP hl hE hX
    | _ + 23, h => exact absurd h (by omega)
theorem zLaw_4 {l : Launch} {D : va_G} {cy : Nat → ClassId} {z0 : Nat} {sp : Nat → Nat} {G : State → Prop} (hG : zz_GF z0 G) (hP : ∀ U, G U → zz_GD zS zS2 zLg z0 sp U) (hl : l.stackTraces = false) (hE : ∀ U, G U → zGX z0 U) {mn : String} {L : Nat} (hL : L ≤ 4) {xs : Nat → Int32} (hX : ∀ U, G U → va_T .int (sp 999999) L (fun j => .int (xs j)) (fun q : Nat => z0 ≤ q) U U.heap) : ∃ i w2, zz_B l zTs D zcl zFK cy z0 sp (zTys cy) G "ToolMillLaw" mn 7 code 16 zF_0 (1494, zLv i, [.int (Int32.ofNat 1)], w2) ∧ w2.1 ≤ 331 ∧ w2.2.1 ≤ 2300700 := by
  have KS := zKS (l := l) (D := D) (cy := cy) (z0 := z0) (sp := sp) hG hP 16
  have b0 := zLaw_pre (mn := mn) KS hG hP zR1 zR2
  by_cases h4 : L < 4
  · have hlt : Int32.ofNat L - Int32.ofNat 4 < Int32.ofNat 0 := by
      rcases (show L = 0 ∨ L = 1 ∨ L = 2 ∨ L = 3 by omega) with rfl | rfl | rfl | rfl <;> decide
    exact ⟨_, _, zz_B_tr b0 (zLaw_out (L := L) (xs := xs) (w := zW3) KS hG hP hX hlt), by rw [zn3_1]; decide, by rw [zn3_2]; decide⟩
  · have e : L = 4 := by omega
    subst e
    have b1 := zLaw_in (mn := mn) (i := Int32.ofNat 0) (w := zW3) KS hG hP hX (by decide) (by decide) (by decide)
    rw [zF_lo (xs (zz_nI (Int32.ofNat 0))) 5 31 (by decide) rfl] at b1
    obtain ⟨w2, b2, n1, n2⟩ := zLaw_39 (l := l) (D := D) (cy := cy) (mn := mn) hG hP hl hE hX (zF_lt (xs (zz_nI (Int32.ofNat 0))) 0 5)
    exact ⟨_, w2, zz_B_tr b0 (zz_B_tr b1 (zz_B_tr b2 (zz_B_tr (zLaw_e KS hG hP) (zLaw_out (L := 4) (xs := xs) KS hG hP hX (by decide))))), n1, n2⟩
set_option maxHeartbeats 4000000 in
theorem whole_start {p : Program} {e : Env} {s : State} {m : MethodId} {below : List Frame} {meth : Method} {c : Code} (l : Launch) (hl : l.stackTraces = false) {b L : Nat} {xs : Nat → Int32} (hL : L ≤ 4) (C0 : lw_At p s m meth c b L xs) : W p l e room_1 s m #[Value.ref b] below meth c s.heap [] 0 0 (lw_Z below #[Value.ref b] s) (entryFrame m ([Value.ref b] : List Value).toArray 7) := by
  obtain ⟨hx, hb, hr, hml, hown, hts, hX, hbl, hlocks, hgv⟩ := id C0
  have htx := zXt_ok hts
  obtain ⟨sp, hsp, hGD⟩ := zG_at b htx hgv
  obtain ⟨D, cy, hK⟩ := zK_at htx
  have hGX := zGX_at htx hgv
  have hT : va_T .int b L (fun j => .int (xs j)) (fun q : Nat => s.heap.size ≤ q) s s.heap := by
    obtain ⟨scr, hcb, hof, hkn, hsz, hval⟩ := hX
    exact ⟨scr, hcb, hof, hkn, Nat.le_of_eq hsz.symm, by rw [hsz], hval, Nat.not_le.mpr hbl⟩
  have hGF : zz_GF s.heap.size (fun U => (zz_GD zS zS2 zLg s.heap.size sp U ∧ va_T .int b L (fun j => .int (xs j)) (fun q : Nat => s.heap.size ≤ q) U U.heap) ∧ zGX s.heap.size U) := zGX_F (zz_GF_and zz_GD_GF)
  obtain ⟨i, w2, B, n1, n2⟩ := zLaw_4 (l := l) (D := D) (cy := cy) (mn := meth.name) hGF (fun U h => h.1.1) hl (fun U h => h.2) hL (xs := xs) (fun U h => by rw [hsp]; exact h.1.2)
  have X : zz_X zTs D zcl (zTys cy) (fun U => (zz_GD zS zS2 zLg s.heap.size sp U ∧ va_T .int b L (fun j => .int (xs j)) (fun q : Nat => s.heap.size ≤ q) U U.heap) ∧ zGX s.heap.size U) "ToolMillLaw" meth.name 7 code p s m #[Value.ref b] meth c := ⟨hx, hb, hml, hown, fun w hw => htx w (zTs_in w hw), hK, hlocks, rfl, ⟨hGD, hT⟩, hGX⟩
  have hl1 := lv_entry ([.ref b]) (n := 7) (Nat.le_of_ble_eq_true rfl)
  rw [lg_entry_eq]
  generalize (lg_sl ([.ref b]) ++ List.replicate (7 - (lg_sl ([.ref b])).length) Slot.unset).toArray = ls at hl1 ⊢
  have hl2 : lv_has ls 7 (zz_lv s.heap.size sp [(0, .ref 1999999)]) := by
    have e : zz_lv s.heap.size sp [(0, .ref 1999999)] = [(0, .ref b)] := by
      show [((0 : Nat), Value.ref (zz_r s.heap.size sp 1999999))] = _
      rw [zz_r_s, hsp]
    rw [e]
    exact hl1
  refine B.2 p e room_1 s m #[Value.ref b] below meth c X (by decide) (by decide) s.heap [] 0 0 (lw_Z below #[Value.ref b] s) ls ⟨rfl, fun k q h => absurd (zz_ws_at h).1 (Nat.not_lt_zero _)⟩ va_S.rf hl2 (Nat.le_refl _) (Nat.le_refl _) (show w2.1 - 0 ≤ 600002 by omega) (show w2.2.1 - 0 ≤ 7302232 by omega) fun H' locs' ls' hI' hS' hl' => ?_
  refine va_forget hS'.2.2 (W.widen (k := 600002) (n := 7302232) (show w2.1 - 0 ≤ 600002 by omega) (show w2.2.1 - 0 ≤ 7302232 by omega) ?_)
  exact lw_ret hx hb hr hlocks zd_900_1494
set_option maxHeartbeats 4000000 in
theorem lw_walk (l : Launch) (hl : l.stackTraces = false) (b : Addr) (xs : List Int32) : MetFree l x (headSpec (Jvm.Cond.code x code maxLocals ret :: tables_1) room_1) (lw_P b xs) (fun _ _ _ _ _ => True) lw_Q := by
  refine MetFree.of_bodyS (code := code) (maxLocals := maxLocals) (ret := ret) (by decide) ?_ ?_
  · intro args s m h hn
    obtain ⟨meth, c, h1, h2, h3, h4, h5, h6, -, -⟩ := Cond.code_spec hn (atoms_spec (ws := Jvm.Cond.code x code maxLocals ret :: tables_1) h _ List.mem_cons_self)
    exact ⟨meth, c, h1, h2, h3, h4, h5, h6⟩
  · intro p e s m args below meth c s₁ B hml0 hP _
    obtain ⟨rfl, hx, hbd, hgv⟩ := hP
    obtain ⟨scr, harrAt, hlist, hof, hsmall⟩ := hx
    obtain ⟨hcb, hkn, -, -⟩ := State.arrayAt?_spec harrAt
    have hown : s.vm.findClass R_law = some m.cls := findClass_of_methodNamed B.named
    have hts0 : ∀ c ∈ (Jvm.Cond.code x code maxLocals ret :: tables_1), c.before #[Value.ref b] s = true := atoms_spec (ws := Jvm.Cond.code x code maxLocals ret :: tables_1) B.pre
    have hts : ∀ w ∈ lw_tbl, w.before #[Value.ref b] s = true := k2_hts_sels lw_privs (fun w hw => hts0 w (List.mem_cons_of_mem _ hw)) lw_privs_ok
    have hml : c.maxLocals = 7 := B.maxLocals_eq (hts0 _ List.mem_cons_self)
    have X₀ : Stand p l e room_1 s m #[Value.ref b] below meth c s₁ [] 0 0 := Stand.of_body B
    have hh0 : s₁.heap = s.heap := by rw [B.state]; rfl
    have hsz : scr.slots.size = xs.length := by rw [← Array.length_toList, hlist, List.length_map]
    have hval : ∀ j : Nat, j < xs.length → scr.slots[j]? = some (.int (xs.getD j 0)) := fun j hj => by
      rw [← Array.getElem?_toList, hlist]
      simp [hj]
    have hbl : b < s.heap.size := (Array.getElem?_eq_some_iff.mp hcb).1
    have hX : va_X b xs.length (fun j => xs.getD j 0) s s.heap := ⟨scr, hcb, hof, hkn, hsz, hval⟩
    have K : W p l e room_1 s m #[Value.ref b] below meth c s₁.heap [] 0 0 (lw_Z below #[Value.ref b] s) (entryFrame m ([Value.ref b] : List Value).toArray 7) := by
      rw [hh0]
      exact whole_start l hl hbd ⟨B.exec, B.bytes, B.returns, hml, hown, hts, hX, hbl, B.notSynchronized, hgv⟩
    obtain ⟨t, a1, o, b1, b2, b3⟩ := K s₁ rfl X₀
    exact ⟨t, o, a1, b1, b2, b3⟩
theorem lw_pre_spec {args : Array Value} {s : State} (h : (Jvm.Cond.and given_1 narrow_1).before args s = true) (hr : rest_1_c.before args s = true) : ∃ (b : Addr) (xs : List Int32), lw_P b xs args s := by
  have hs := flat_of_before _ h
  have hq := flat_of_before _ hr
  have hc : (Cond.count 1).before args s = true := hs _ (by decide +kernel)
  have harr : (Cond.arrayOf (.arg 0) .int).before args s = true := hs _ (by decide +kernel)
  have hle : (Cond.le (.length (.arg 0)) (.int 4)).before args s = true := hs _ (by decide +kernel)
  have hlen : (Cond.isInt (.length (.arg 0))).before args s = true := hq _ (by decide +kernel)
  have hall : (Cond.all (.arg 0) (.isInt (.elem (.arg 0) (.index 0)))).before args s = true := hq _ (by decide +kernel)
  obtain ⟨b, xs, hb, hx⟩ := State.ints_of_pre rfl harr hlen hall
  have hsm : xs.length < 2 ^ 31 := hx.choose_spec.2.2.2
  have hev : (Term.length (.arg 0)).eval args s none [] s = some (.int xs.length.toInt32) := hx.length_eval hb
  have hv := Cond.le_ints hev (show (Term.int 4).eval args s none [] s = some (.int 4) from rfl)
  have hd : xs.length.toInt32 ≤ 4 := by
    simpa [Cond.before, Cond.holds, hv] using hle
  have hN : xs.length ≤ 4 := (Int32.ofNat_le_ofNat hsm (by decide)).mp (show Int32.ofNat xs.length ≤ Int32.ofNat 4 from hd)
  exact ⟨b, xs, Cond.one_arg hc (show args[0]? = some (.ref b) from hb), hx, hN, h⟩
theorem lw_comes (l : Launch) (hl : l.stackTraces = false) : Comes l x (Jvm.Cond.code x code maxLocals ret :: tables_1) room_1 (fun tb e args s => Calls_1 tb e args s ∧ rest_1 tb e args s ∧ Pre_1 tb e args s)
    (fun _ _ args s o t => lw_Q args s o t) := by
  intro p e ha hc hk s m args below hf hfit hheap happ hpre
  obtain ⟨b, xs, hP⟩ := lw_pre_spec hpre.2.2 hpre.2.1
  obtain ⟨k, o, h1, h2, h3, hQ⟩   := lw_walk l hl b xs p e ha hc hk s m args below hf ((Spec.applies_iff_loose hf).mp happ).1 hP trivial
  exact ⟨k, o, h1, h2, h3, hQ⟩
theorem lw_frame {s t : State} {o : Outcome} {args : Array Value} (h : Framed s o t [] 600002 7302232) :
    Framed s o t (fieldLocs frame_1_writes args s ++ arrayLocs frame_1_arrays args s ++ staticLocs frame_1_statics s) 600002 7302232 := h
theorem lw_limb (L : Cond) (hL : ∀ (args : Array Value) (s t : State), L.after args s (.returned (some (.int 1))) t = true) :
    ArmFor flags0 classFile x code maxLocals ret World_1 tables_1 room_1 Calls_1 rest_1 Pre_1
      (fun tb e a s o t => postC L tb e a s o t ∧ Framed s o t (fieldLocs frame_1_writes a s ++ arrayLocs frame_1_arrays a s ++ staticLocs frame_1_statics s) 600002 7302232) := by
  intro l hfl _ _ p e ha hc hk s m args below hf hfit hheap happ hpre
  obtain ⟨k, o, h1, h2, h3, rfl, hF⟩ := lw_comes l (by unfold Launch.stackTraces; rw [hfl]; decide) p e ha hc hk s m args below hf hfit hheap happ hpre
  exact ⟨k, _, h1, h2, h3, hL args s _, lw_frame hF⟩
theorem i_vc : Claimed_1_1 ∧ Claimed_1_2 := ⟨lw_limb limb_1_1 (fun args s t => by simp [limb_1_1, Cond.after, Cond.holds, Cond.value]), lw_limb limb_1_2 (fun args s t => Cond.after_iff.mpr (by
  first | (rw [show limb_1_2 = Cond.eq .result (.int 1) from rfl, Cond.eq_ints (x := 1) (y := 1) rfl rfl]; simp; done) | (simp [limb_1_2, Cond.value, Term.eval]; done)))⟩
