/-! helpers and methods between calls, by program -/
/-- what the law's start gives -/
def zHy (l : Launch) (D : va_G) (cy : Nat → ClassId) (z0 : Nat) (sp : Nat → Nat) (G : State → Prop) : Prop := zz_GF z0 G ∧ (∀ U, G U → zz_GD zS zS2 zLg z0 sp U) ∧ zW l D cy z0 sp G ∧ sp 18446744073709551616 = 0 ∧ (∀ k, zW l D cy z0 (zz_spk k sp) G) ∧ zTXp l D cy z0 sp G ∧ l.stackTraces = false ∧ ∀ U, G U → zGX z0 U
/-- the world behind out[0] = a -/
def zWo (w : zz_W) (N : Nat) (a : Int32) : zz_W := zz_up w 328 (1, 3, 1, zz_to 64 N (zz_nI (Int32.ofNat 0)) (zz_nL a.toInt64))
theorem zQM_w9 : zl_w9 zQM = true := by decide +kernel
theorem zQM_ok : zkt_ok zHX (zk_sux zTL zTM zXS) zQM = true := by decide +kernel
theorem zIv_I {X : zk_St} {n e : Nat} {w : zz_W} (h : zIv X n e w) : zk_I 64 zHX w := h.1.choose_spec.2.1.2.2.2.2.2
theorem zTXp_ok {l : Launch} {D : va_G} {cy : Nat → ClassId} {z0 : Nat} {sp : Nat → Nat} {G : State → Prop} (hl : l.stackTraces = false) (hP : ∀ U, G U → zz_GD zS zS2 zLg z0 sp U) (hE : ∀ U, G U → zGX z0 U) (hsp0 : sp 18446744073709551616 = 0) : zTXp l D cy z0 sp G := by
  intro y pc h d lv w hd hs hi
  obtain ⟨p, hp, hb⟩ := List.any_eq_true.mp h
  obtain ⟨b1, b2⟩ := zz_and hb
  have e1 := zz_beq b1
  have e2 := zz_beq b2
  subst e1
  subst e2
  exact (List.forall_mem_cons.mpr ⟨zth_6_43 hl hP hE hd (zz_lb rfl) hsp0 hs hi, List.forall_mem_cons.mpr ⟨zth_17_14 hl hP hE hd (zz_lb rfl) hsp0 hs hi, List.forall_mem_cons.mpr ⟨zth_18_21 hl hP hE hd (zz_lb rfl) hsp0 hs hi, List.forall_mem_cons.mpr ⟨zth_19_26 hl hP hE hd (zz_lb rfl) hsp0 hs hi, List.forall_mem_cons.mpr ⟨zth_16_157 hl hP hE hd (zz_lb rfl) hsp0 hs hi, List.forall_mem_cons.mpr ⟨zth_22_92 hl hP hE hd (zz_lb rfl) hsp0 hs hi, List.forall_mem_cons.mpr ⟨zth_23_26 hl hP hE hd (zz_lb rfl) hsp0 hs hi, List.forall_mem_cons.mpr ⟨zth_69_7 hl hP hE hd (zz_lb rfl) hsp0 hs hi, List.forall_mem_cons.mpr ⟨zth_75_7 hl hP hE hd (zz_lb rfl) hsp0 hs hi, List.forall_mem_cons.mpr ⟨zth_61_9 hl hP hE hd (zz_lb rfl) hsp0 hs hi, List.forall_mem_cons.mpr ⟨zth_65_18 hl hP hE hd (zz_lb rfl) hsp0 hs hi, List.forall_mem_cons.mpr ⟨zth_7_24 hl hP hE hd (zz_lb rfl) hsp0 hs hi, List.forall_mem_cons.mpr ⟨zth_8_73 hl hP hE hd (zz_lb rfl) hsp0 hs hi, List.forall_mem_cons.mpr ⟨zth_9_20 hl hP hE hd (zz_lb rfl) hsp0 hs hi, List.forall_mem_cons.mpr ⟨zth_9_123 hl hP hE hd (zz_lb rfl) hsp0 hs hi, List.forall_mem_cons.mpr ⟨zth_11_20 hl hP hE hd (zz_lb rfl) hsp0 hs hi, List.forall_mem_cons.mpr ⟨zth_11_118 hl hP hE hd (zz_lb rfl) hsp0 hs hi, List.forall_mem_cons.mpr ⟨zth_12_20 hl hP hE hd (zz_lb rfl) hsp0 hs hi, List.forall_mem_cons.mpr ⟨zth_12_148 hl hP hE hd (zz_lb rfl) hsp0 hs hi, List.forall_mem_cons.mpr ⟨zth_13_9 hl hP hE hd (zz_lb rfl) hsp0 hs hi, List.forall_mem_cons.mpr ⟨zth_2_12 hl hP hE hd (zz_lb rfl) hsp0 hs hi, List.forall_mem_cons.mpr ⟨zth_10_20 hl hP hE hd (zz_lb rfl) hsp0 hs hi, List.forall_mem_cons.mpr ⟨zth_10_50 hl hP hE hd (zz_lb rfl) hsp0 hs hi, List.forall_mem_cons.mpr ⟨zth_10_107 hl hP hE hd (zz_lb rfl) hsp0 hs hi, List.forall_mem_cons.mpr ⟨zth_15_17 hl hP hE hd (zz_lb rfl) hsp0 hs hi, List.forall_mem_cons.mpr ⟨zth_15_39 hl hP hE hd (zz_lb rfl) hsp0 hs hi, List.forall_mem_cons.mpr ⟨zth_1_47 hl hP hE hd (zz_lb rfl) hsp0 hs hi, List.forall_mem_cons.mpr ⟨zth_1_88 hl hP hE hd (zz_lb rfl) hsp0 hs hi, List.forall_mem_cons.mpr ⟨zth_14_7 hl hP hE hd (zz_lb rfl) hsp0 hs hi, List.forall_mem_cons.mpr ⟨zth_14_33 hl hP hE hd (zz_lb rfl) hsp0 hs hi, List.forall_mem_cons.mpr ⟨zth_14_62 hl hP hE hd (zz_lb rfl) hsp0 hs hi, List.forall_mem_cons.mpr ⟨zth_21_25 hl hP hE hd (zz_lb rfl) hsp0 hs hi, List.forall_mem_cons.mpr ⟨zth_21_47 hl hP hE hd (zz_lb rfl) hsp0 hs hi, (fun _ h => absurd h List.not_mem_nil)⟩⟩⟩⟩⟩⟩⟩⟩⟩⟩⟩⟩⟩⟩⟩⟩⟩⟩⟩⟩⟩⟩⟩⟩⟩⟩⟩⟩⟩⟩⟩⟩⟩ : ∀ p ∈ zXL, zz_TX l zTs D zcl zFK cy z0 sp (zTys cy) G (zYN p.1.1).cls (zYN p.1.1).name (zMQ p.1.1) (zCN p.1.1) d (p.1.2, lv, [], w) (zXE p.1.1 p.1.2).1 (zz_pu w (3, (zXE p.1.1 p.1.2).2, 0, 0) 6)) p hp
theorem zHc_800 {l : Launch} {D : va_G} {cy : Nat → ClassId} {z0 : Nat} {sp : Nat → Nat} {G : State → Prop} {d : Nat} (hG : zz_GF z0 G) (hP : ∀ U, G U → zz_GD zS zS2 zLg z0 sp U) {w : zz_W} {p0 : Int32} : zz_B l zTs D zcl zFK cy z0 sp (zTys cy) G "ToolMillLaw" "put" 4 method_3_code d (0, [(0, .ref 0), (1, .int p0), (2, .ref 328)], [], w) (4, [(0, .ref 0), (1, .int p0), (2, .ref 328)], [.int p0, .ref 0, .int (Int32.ofNat 0), .ref 328], w) := by
  have T := zt_800 (l := l) (D := D) (cy := cy) (z0 := z0) (sp := sp) (G := G) (d := d) zz_k0_KS hG hP
  have b := zz_B_rf (l := l) (Ts := zTs) (D := D) (cl := zcl) (fk := zFK) (cy := cy) (z0 := z0) (sp := sp) (tys := zTys cy) (G := G) (own := "ToolMillLaw") (mn := "put") (nL := 4) (cc := method_3_code) (d := d) ((0, [(0, .ref 0), (1, .int p0), (2, .ref 328)], [], w) : zz_F)
  replace b := zz_fw b T (rfl : zz_ent zP_800 0 = (0, za_aload 2 1)) (ze_aload rfl)
  replace b := zz_fw b T (rfl : zz_ent zP_800 1 = (0, za_const (.int (Int32.ofNat 0)) 2)) (ze_const)
  replace b := zz_fw b T (rfl : zz_ent zP_800 2 = (0, za_aload 0 3)) (ze_aload rfl)
  replace b := zz_fw b T (rfl : zz_ent zP_800 3 = (0, za_iload 1 4)) (ze_iload rfl)
  exact b
theorem zHr_800 {l : Launch} {D : va_G} {cy : Nat → ClassId} {z0 : Nat} {sp : Nat → Nat} {G : State → Prop} {d : Nat} (hG : zz_GF z0 G) (hP : ∀ U, G U → zz_GD zS zS2 zLg z0 sp U) {p0 : Int32} {w w' : zz_W} {a : Int32} {N : Nat} (hs : zz_sh w') (hN : zz_has w' 328 (1, 3, 1, N)) (h0 : zz_ic w 0 1 = true) (hM : zz_M l zTs D zcl zFK cy z0 sp (zTys cy) G zYN zCN zMQ zRT d 1 [.ref 0, .int p0] w [.int a] w') : zz_MH l zTs D zcl zFK cy z0 sp (zTys cy) G zy_800 method_3_code 4 (some .int) [(0, 9, 12, 13), (0, 9, 15, 15)] (d + 1) [.ref 0, .int p0, .ref 328] w [.int (Int32.ofNat 0)] (zWo w' N a) := by
  have T := zt_800 (l := l) (D := D) (cy := cy) (z0 := z0) (sp := sp) (G := G) (d := d) zz_k0_KS hG hP
  have TK := fun (K : zz_K) (h : zz_KS l D zcl zFK cy z0 sp (zTys cy) G zYN (fun y => Cond.code (zYN y) (zCN y) (zMQ y) (zRT y) :: zTs) d K) => zt_800 h hG hP
  have b := zHc_800 (d := d) (l := l) (D := D) (cy := cy) (sp := sp) (w := w) (p0 := p0) hG hP
  replace b := zz_fVi b TK (rfl : zz_ent zP_800 4 = (0, za_callV 1 1 1 7)) hM rfl rfl h0 (zz_lb rfl)
  replace b := zz_fw b T (rfl : zz_ent zP_800 7 = (0, za_i2l 8)) (ze_i2l rfl)
  replace b := zz_fw b T (rfl : zz_ent zP_800 8 = (0, za_astL 3 9)) (ze_astL hs hN (by decide) (by decide))
  replace b := zz_fw b T (rfl : zz_ent zP_800 9 = (0, za_goto 18)) (ze_goto)
  replace b := zz_fw b T (rfl : zz_ent zP_800 18 = (0, za_const (.int (Int32.ofNat 0)) 19)) (ze_const)
  exact zz_MH_B rfl rfl (by decide +kernel) (zz_lb rfl) (zz_lb rfl) (zz_end_i zd_800_19) b
theorem zHx_800_0 {l : Launch} {D : va_G} {cy : Nat → ClassId} {z0 : Nat} {sp : Nat → Nat} {G : State → Prop} {d : Nat} (hG : zz_GF z0 G) (hP : ∀ U, G U → zz_GD zS zS2 zLg z0 sp U) (hE : ∀ U, G U → zGX z0 U) {p0 : Int32} {w w' : zz_W} (h0 : zz_ic w 0 1 = true) (hM : zz_MX l zTs D zcl zFK cy z0 sp (zTys cy) G zYN zCN zMQ zRT d 1 [.ref 0, .int p0] w "java/lang/IllegalArgumentException" w') : zz_MH l zTs D zcl zFK cy z0 sp (zTys cy) G zy_800 method_3_code 4 (some .int) [(0, 9, 12, 13), (0, 9, 15, 15)] (d + 1) [.ref 0, .int p0, .ref 328] w [.int (Int32.ofNat 1)] w' :=
  zhx_800_0 (as := [.ref 0, .int p0, .ref 328]) (bs := [.int p0]) (r := [.int (Int32.ofNat 0), .ref 328]) hG hE (zz_lb rfl) (zHc_800 (d := d) (l := l) (D := D) (cy := cy) (sp := sp) (w := w) (p0 := p0) hG hP) hM rfl h0 (zz_lb rfl)
theorem zHx_800_1 {l : Launch} {D : va_G} {cy : Nat → ClassId} {z0 : Nat} {sp : Nat → Nat} {G : State → Prop} {d : Nat} (hG : zz_GF z0 G) (hP : ∀ U, G U → zz_GD zS zS2 zLg z0 sp U) (hE : ∀ U, G U → zGX z0 U) {p0 : Int32} {w w' : zz_W} (h0 : zz_ic w 0 1 = true) (hM : zz_MX l zTs D zcl zFK cy z0 sp (zTys cy) G zYN zCN zMQ zRT d 1 [.ref 0, .int p0] w "java/lang/UnsupportedOperationException" w') : zz_MH l zTs D zcl zFK cy z0 sp (zTys cy) G zy_800 method_3_code 4 (some .int) [(0, 9, 12, 13), (0, 9, 15, 15)] (d + 1) [.ref 0, .int p0, .ref 328] w [.int (Int32.ofNat 2)] w' :=
  zhx_800_1 (as := [.ref 0, .int p0, .ref 328]) (bs := [.int p0]) (r := [.int (Int32.ofNat 0), .ref 328]) hG hE (zz_lb rfl) (zHc_800 (d := d) (l := l) (D := D) (cy := cy) (sp := sp) (w := w) (p0 := p0) hG hP) hM rfl h0 (zz_lb rfl)
theorem zHc_801 {l : Launch} {D : va_G} {cy : Nat → ClassId} {z0 : Nat} {sp : Nat → Nat} {G : State → Prop} {d : Nat} (hG : zz_GF z0 G) (hP : ∀ U, G U → zz_GD zS zS2 zLg z0 sp U) {w : zz_W} {p0 : Int32} : zz_B l zTs D zcl zFK cy z0 sp (zTys cy) G "ToolMillLaw" "end" 3 method_4_code d (0, [(0, .ref 0), (1, .int p0)], [], w) (2, [(0, .ref 0), (1, .int p0)], [.int p0, .ref 0], w) := by
  have T := zt_801 (l := l) (D := D) (cy := cy) (z0 := z0) (sp := sp) (G := G) (d := d) zz_k0_KS hG hP
  have b := zz_B_rf (l := l) (Ts := zTs) (D := D) (cl := zcl) (fk := zFK) (cy := cy) (z0 := z0) (sp := sp) (tys := zTys cy) (G := G) (own := "ToolMillLaw") (mn := "end") (nL := 3) (cc := method_4_code) (d := d) ((0, [(0, .ref 0), (1, .int p0)], [], w) : zz_F)
  replace b := zz_fw b T (rfl : zz_ent zP_801 0 = (0, za_aload 0 1)) (ze_aload rfl)
  replace b := zz_fw b T (rfl : zz_ent zP_801 1 = (0, za_iload 1 2)) (ze_iload rfl)
  exact b
theorem zHr_801 {l : Launch} {D : va_G} {cy : Nat → ClassId} {z0 : Nat} {sp : Nat → Nat} {G : State → Prop} {d : Nat} (hG : zz_GF z0 G) (hP : ∀ U, G U → zz_GD zS zS2 zLg z0 sp U) {p0 : Int32} {w w' : zz_W} (h0 : zz_ic w 0 1 = true) (hM : zz_M l zTs D zcl zFK cy z0 sp (zTys cy) G zYN zCN zMQ zRT d 2 [.ref 0, .int p0] w [] w') : zz_MH l zTs D zcl zFK cy z0 sp (zTys cy) G zy_801 method_4_code 3 (some .int) [(0, 5, 8, 13)] (d + 1) [.ref 0, .int p0] w [.int (Int32.ofNat 0)] w' := by
  have T := zt_801 (l := l) (D := D) (cy := cy) (z0 := z0) (sp := sp) (G := G) (d := d) zz_k0_KS hG hP
  have TK := fun (K : zz_K) (h : zz_KS l D zcl zFK cy z0 sp (zTys cy) G zYN (fun y => Cond.code (zYN y) (zCN y) (zMQ y) (zRT y) :: zTs) d K) => zt_801 h hG hP
  have b := zHc_801 (d := d) (l := l) (D := D) (cy := cy) (sp := sp) (w := w) (p0 := p0) hG hP
  replace b := zz_fVv b TK (rfl : zz_ent zP_801 2 = (0, za_callV 1 2 1 5)) hM rfl rfl h0 (zz_lb rfl)
  replace b := zz_fw b T (rfl : zz_ent zP_801 5 = (0, za_goto 11)) (ze_goto)
  replace b := zz_fw b T (rfl : zz_ent zP_801 11 = (0, za_const (.int (Int32.ofNat 0)) 12)) (ze_const)
  exact zz_MH_B rfl rfl (by decide +kernel) (zz_lb rfl) (zz_lb rfl) (zz_end_i zd_801_12) b
theorem zHx_801_0 {l : Launch} {D : va_G} {cy : Nat → ClassId} {z0 : Nat} {sp : Nat → Nat} {G : State → Prop} {d : Nat} (hG : zz_GF z0 G) (hP : ∀ U, G U → zz_GD zS zS2 zLg z0 sp U) (hE : ∀ U, G U → zGX z0 U) {p0 : Int32} {w w' : zz_W} (h0 : zz_ic w 0 1 = true) (hM : zz_MX l zTs D zcl zFK cy z0 sp (zTys cy) G zYN zCN zMQ zRT d 2 [.ref 0, .int p0] w "java/lang/IllegalArgumentException" w') : zz_MH l zTs D zcl zFK cy z0 sp (zTys cy) G zy_801 method_4_code 3 (some .int) [(0, 5, 8, 13)] (d + 1) [.ref 0, .int p0] w [.int (Int32.ofNat 1)] w' :=
  zhx_801_0 (as := [.ref 0, .int p0]) (bs := [.int p0]) (r := []) hG hE (zz_lb rfl) (zHc_801 (d := d) (l := l) (D := D) (cy := cy) (sp := sp) (w := w) (p0 := p0) hG hP) hM rfl h0 (zz_lb rfl)
theorem zHc_802 {l : Launch} {D : va_G} {cy : Nat → ClassId} {z0 : Nat} {sp : Nat → Nat} {G : State → Prop} {d : Nat} (hG : zz_GF z0 G) (hP : ∀ U, G U → zz_GD zS zS2 zLg z0 sp U) {w : zz_W}  : zz_B l zTs D zcl zFK cy z0 sp (zTys cy) G "ToolMillLaw" "source" 3 method_5_code d (0, [(0, .ref 0), (1, .ref 328)], [], w) (3, [(0, .ref 0), (1, .ref 328)], [.ref 0, .int (Int32.ofNat 0), .ref 328], w) := by
  have T := zt_802 (l := l) (D := D) (cy := cy) (z0 := z0) (sp := sp) (G := G) (d := d) zz_k0_KS hG hP
  have b := zz_B_rf (l := l) (Ts := zTs) (D := D) (cl := zcl) (fk := zFK) (cy := cy) (z0 := z0) (sp := sp) (tys := zTys cy) (G := G) (own := "ToolMillLaw") (mn := "source") (nL := 3) (cc := method_5_code) (d := d) ((0, [(0, .ref 0), (1, .ref 328)], [], w) : zz_F)
  replace b := zz_fw b T (rfl : zz_ent zP_802 0 = (0, za_aload 1 1)) (ze_aload rfl)
  replace b := zz_fw b T (rfl : zz_ent zP_802 1 = (0, za_const (.int (Int32.ofNat 0)) 2)) (ze_const)
  replace b := zz_fw b T (rfl : zz_ent zP_802 2 = (0, za_aload 0 3)) (ze_aload rfl)
  exact b
theorem zHr_802 {l : Launch} {D : va_G} {cy : Nat → ClassId} {z0 : Nat} {sp : Nat → Nat} {G : State → Prop} {d : Nat} (hG : zz_GF z0 G) (hP : ∀ U, G U → zz_GD zS zS2 zLg z0 sp U)  {w w' : zz_W} {a : Int32} {N : Nat} (hs : zz_sh w') (hN : zz_has w' 328 (1, 3, 1, N)) (h0 : zz_ic w 0 1 = true) (hM : zz_M l zTs D zcl zFK cy z0 sp (zTys cy) G zYN zCN zMQ zRT d 3 [.ref 0] w [.int a] w') : zz_MH l zTs D zcl zFK cy z0 sp (zTys cy) G zy_802 method_5_code 3 (some .int) [(0, 8, 11, 25)] (d + 1) [.ref 0, .ref 328] w [.int (Int32.ofNat 0)] (zWo w' N a) := by
  have T := zt_802 (l := l) (D := D) (cy := cy) (z0 := z0) (sp := sp) (G := G) (d := d) zz_k0_KS hG hP
  have TK := fun (K : zz_K) (h : zz_KS l D zcl zFK cy z0 sp (zTys cy) G zYN (fun y => Cond.code (zYN y) (zCN y) (zMQ y) (zRT y) :: zTs) d K) => zt_802 h hG hP
  have b := zHc_802 (d := d) (l := l) (D := D) (cy := cy) (sp := sp) (w := w) hG hP
  replace b := zz_fVi b TK (rfl : zz_ent zP_802 3 = (0, za_callV 1 3 0 6)) hM rfl rfl h0 (zz_lb rfl)
  replace b := zz_fw b T (rfl : zz_ent zP_802 6 = (0, za_i2l 7)) (ze_i2l rfl)
  replace b := zz_fw b T (rfl : zz_ent zP_802 7 = (0, za_astL 3 8)) (ze_astL hs hN (by decide) (by decide))
  replace b := zz_fw b T (rfl : zz_ent zP_802 8 = (0, za_goto 14)) (ze_goto)
  replace b := zz_fw b T (rfl : zz_ent zP_802 14 = (0, za_const (.int (Int32.ofNat 0)) 15)) (ze_const)
  exact zz_MH_B rfl rfl (by decide +kernel) (zz_lb rfl) (zz_lb rfl) (zz_end_i zd_802_15) b
theorem zHx_802_0 {l : Launch} {D : va_G} {cy : Nat → ClassId} {z0 : Nat} {sp : Nat → Nat} {G : State → Prop} {d : Nat} (hG : zz_GF z0 G) (hP : ∀ U, G U → zz_GD zS zS2 zLg z0 sp U) (hE : ∀ U, G U → zGX z0 U)  {w w' : zz_W} (h0 : zz_ic w 0 1 = true) (hM : zz_MX l zTs D zcl zFK cy z0 sp (zTys cy) G zYN zCN zMQ zRT d 3 [.ref 0] w "java/lang/IllegalStateException" w') : zz_MH l zTs D zcl zFK cy z0 sp (zTys cy) G zy_802 method_5_code 3 (some .int) [(0, 8, 11, 25)] (d + 1) [.ref 0, .ref 328] w [.int (Int32.ofNat 1)] w' :=
  zhx_802_0 (as := [.ref 0, .ref 328]) (bs := []) (r := [.int (Int32.ofNat 0), .ref 328]) hG hE (zz_lb rfl) (zHc_802 (d := d) (l := l) (D := D) (cy := cy) (sp := sp) (w := w) hG hP) hM rfl h0 (zz_lb rfl)
theorem zHc_803 {l : Launch} {D : va_G} {cy : Nat → ClassId} {z0 : Nat} {sp : Nat → Nat} {G : State → Prop} {d : Nat} (hG : zz_GF z0 G) (hP : ∀ U, G U → zz_GD zS zS2 zLg z0 sp U) {w : zz_W}  : zz_B l zTs D zcl zFK cy z0 sp (zTys cy) G "ToolMillLaw" "assemble" 3 method_6_code d (0, [(0, .ref 0), (1, .ref 328)], [], w) (3, [(0, .ref 0), (1, .ref 328)], [.ref 0, .int (Int32.ofNat 0), .ref 328], w) := by
  have T := zt_803 (l := l) (D := D) (cy := cy) (z0 := z0) (sp := sp) (G := G) (d := d) zz_k0_KS hG hP
  have b := zz_B_rf (l := l) (Ts := zTs) (D := D) (cl := zcl) (fk := zFK) (cy := cy) (z0 := z0) (sp := sp) (tys := zTys cy) (G := G) (own := "ToolMillLaw") (mn := "assemble") (nL := 3) (cc := method_6_code) (d := d) ((0, [(0, .ref 0), (1, .ref 328)], [], w) : zz_F)
  replace b := zz_fw b T (rfl : zz_ent zP_803 0 = (0, za_aload 1 1)) (ze_aload rfl)
  replace b := zz_fw b T (rfl : zz_ent zP_803 1 = (0, za_const (.int (Int32.ofNat 0)) 2)) (ze_const)
  replace b := zz_fw b T (rfl : zz_ent zP_803 2 = (0, za_aload 0 3)) (ze_aload rfl)
  exact b
theorem zHr_803 {l : Launch} {D : va_G} {cy : Nat → ClassId} {z0 : Nat} {sp : Nat → Nat} {G : State → Prop} {d : Nat} (hG : zz_GF z0 G) (hP : ∀ U, G U → zz_GD zS zS2 zLg z0 sp U)  {w w' : zz_W} {a : Int32} {N : Nat} (hs : zz_sh w') (hN : zz_has w' 328 (1, 3, 1, N)) (h0 : zz_ic w 0 1 = true) (hM : zz_M l zTs D zcl zFK cy z0 sp (zTys cy) G zYN zCN zMQ zRT d 4 [.ref 0] w [.int a] w') : zz_MH l zTs D zcl zFK cy z0 sp (zTys cy) G zy_803 method_6_code 3 (some .int) [(0, 8, 11, 25)] (d + 1) [.ref 0, .ref 328] w [.int (Int32.ofNat 0)] (zWo w' N a) := by
  have T := zt_803 (l := l) (D := D) (cy := cy) (z0 := z0) (sp := sp) (G := G) (d := d) zz_k0_KS hG hP
  have TK := fun (K : zz_K) (h : zz_KS l D zcl zFK cy z0 sp (zTys cy) G zYN (fun y => Cond.code (zYN y) (zCN y) (zMQ y) (zRT y) :: zTs) d K) => zt_803 h hG hP
  have b := zHc_803 (d := d) (l := l) (D := D) (cy := cy) (sp := sp) (w := w) hG hP
  replace b := zz_fVi b TK (rfl : zz_ent zP_803 3 = (0, za_callV 1 4 0 6)) hM rfl rfl h0 (zz_lb rfl)
  replace b := zz_fw b T (rfl : zz_ent zP_803 6 = (0, za_i2l 7)) (ze_i2l rfl)
  replace b := zz_fw b T (rfl : zz_ent zP_803 7 = (0, za_astL 3 8)) (ze_astL hs hN (by decide) (by decide))
  replace b := zz_fw b T (rfl : zz_ent zP_803 8 = (0, za_goto 14)) (ze_goto)
  replace b := zz_fw b T (rfl : zz_ent zP_803 14 = (0, za_const (.int (Int32.ofNat 0)) 15)) (ze_const)
  exact zz_MH_B rfl rfl (by decide +kernel) (zz_lb rfl) (zz_lb rfl) (zz_end_i zd_803_15) b
theorem zHx_803_0 {l : Launch} {D : va_G} {cy : Nat → ClassId} {z0 : Nat} {sp : Nat → Nat} {G : State → Prop} {d : Nat} (hG : zz_GF z0 G) (hP : ∀ U, G U → zz_GD zS zS2 zLg z0 sp U) (hE : ∀ U, G U → zGX z0 U)  {w w' : zz_W} (h0 : zz_ic w 0 1 = true) (hM : zz_MX l zTs D zcl zFK cy z0 sp (zTys cy) G zYN zCN zMQ zRT d 4 [.ref 0] w "java/lang/IllegalStateException" w') : zz_MH l zTs D zcl zFK cy z0 sp (zTys cy) G zy_803 method_6_code 3 (some .int) [(0, 8, 11, 25)] (d + 1) [.ref 0, .ref 328] w [.int (Int32.ofNat 1)] w' :=
  zhx_803_0 (as := [.ref 0, .ref 328]) (bs := []) (r := [.int (Int32.ofNat 0), .ref 328]) hG hE (zz_lb rfl) (zHc_803 (d := d) (l := l) (D := D) (cy := cy) (sp := sp) (w := w) hG hP) hM rfl h0 (zz_lb rfl)
theorem zHc_804 {l : Launch} {D : va_G} {cy : Nat → ClassId} {z0 : Nat} {sp : Nat → Nat} {G : State → Prop} {d : Nat} (hG : zz_GF z0 G) (hP : ∀ U, G U → zz_GD zS zS2 zLg z0 sp U) {w : zz_W} {p0 : Int32} : zz_B l zTs D zcl zFK cy z0 sp (zTys cy) G "ToolMillLaw" "fault" 4 method_7_code d (0, [(0, .ref 0), (1, .int p0), (2, .ref 328)], [], w) (4, [(0, .ref 0), (1, .int p0), (2, .ref 328)], [.int p0, .ref 0, .int (Int32.ofNat 0), .ref 328], w) := by
  have T := zt_804 (l := l) (D := D) (cy := cy) (z0 := z0) (sp := sp) (G := G) (d := d) zz_k0_KS hG hP
  have b := zz_B_rf (l := l) (Ts := zTs) (D := D) (cl := zcl) (fk := zFK) (cy := cy) (z0 := z0) (sp := sp) (tys := zTys cy) (G := G) (own := "ToolMillLaw") (mn := "fault") (nL := 4) (cc := method_7_code) (d := d) ((0, [(0, .ref 0), (1, .int p0), (2, .ref 328)], [], w) : zz_F)
  replace b := zz_fw b T (rfl : zz_ent zP_804 0 = (0, za_aload 2 1)) (ze_aload rfl)
  replace b := zz_fw b T (rfl : zz_ent zP_804 1 = (0, za_const (.int (Int32.ofNat 0)) 2)) (ze_const)
  replace b := zz_fw b T (rfl : zz_ent zP_804 2 = (0, za_aload 0 3)) (ze_aload rfl)
  replace b := zz_fw b T (rfl : zz_ent zP_804 3 = (0, za_iload 1 4)) (ze_iload rfl)
  exact b
theorem zHr_804 {l : Launch} {D : va_G} {cy : Nat → ClassId} {z0 : Nat} {sp : Nat → Nat} {G : State → Prop} {d : Nat} (hG : zz_GF z0 G) (hP : ∀ U, G U → zz_GD zS zS2 zLg z0 sp U) {p0 : Int32} {w w' : zz_W} {a : Int32} {N : Nat} (hs : zz_sh w') (hN : zz_has w' 328 (1, 3, 1, N)) (h0 : zz_ic w 0 1 = true) (hM : zz_M l zTs D zcl zFK cy z0 sp (zTys cy) G zYN zCN zMQ zRT d 6 [.ref 0, .int p0] w [.int a] w') : zz_MH l zTs D zcl zFK cy z0 sp (zTys cy) G zy_804 method_7_code 4 (some .int) [(0, 9, 12, 13)] (d + 1) [.ref 0, .int p0, .ref 328] w [.int (Int32.ofNat 0)] (zWo w' N a) := by
  have T := zt_804 (l := l) (D := D) (cy := cy) (z0 := z0) (sp := sp) (G := G) (d := d) zz_k0_KS hG hP
  have TK := fun (K : zz_K) (h : zz_KS l D zcl zFK cy z0 sp (zTys cy) G zYN (fun y => Cond.code (zYN y) (zCN y) (zMQ y) (zRT y) :: zTs) d K) => zt_804 h hG hP
  have b := zHc_804 (d := d) (l := l) (D := D) (cy := cy) (sp := sp) (w := w) (p0 := p0) hG hP
  replace b := zz_fVi b TK (rfl : zz_ent zP_804 4 = (0, za_callV 1 6 1 7)) hM rfl rfl h0 (zz_lb rfl)
  replace b := zz_fw b T (rfl : zz_ent zP_804 7 = (0, za_i2l 8)) (ze_i2l rfl)
  replace b := zz_fw b T (rfl : zz_ent zP_804 8 = (0, za_astL 3 9)) (ze_astL hs hN (by decide) (by decide))
  replace b := zz_fw b T (rfl : zz_ent zP_804 9 = (0, za_goto 15)) (ze_goto)
  replace b := zz_fw b T (rfl : zz_ent zP_804 15 = (0, za_const (.int (Int32.ofNat 0)) 16)) (ze_const)
  exact zz_MH_B rfl rfl (by decide +kernel) (zz_lb rfl) (zz_lb rfl) (zz_end_i zd_804_16) b
theorem zHx_804_0 {l : Launch} {D : va_G} {cy : Nat → ClassId} {z0 : Nat} {sp : Nat → Nat} {G : State → Prop} {d : Nat} (hG : zz_GF z0 G) (hP : ∀ U, G U → zz_GD zS zS2 zLg z0 sp U) (hE : ∀ U, G U → zGX z0 U) {p0 : Int32} {w w' : zz_W} (h0 : zz_ic w 0 1 = true) (hM : zz_MX l zTs D zcl zFK cy z0 sp (zTys cy) G zYN zCN zMQ zRT d 6 [.ref 0, .int p0] w "java/lang/IllegalArgumentException" w') : zz_MH l zTs D zcl zFK cy z0 sp (zTys cy) G zy_804 method_7_code 4 (some .int) [(0, 9, 12, 13)] (d + 1) [.ref 0, .int p0, .ref 328] w [.int (Int32.ofNat 1)] w' :=
  zhx_804_0 (as := [.ref 0, .int p0, .ref 328]) (bs := [.int p0]) (r := [.int (Int32.ofNat 0), .ref 328]) hG hE (zz_lb rfl) (zHc_804 (d := d) (l := l) (D := D) (cy := cy) (sp := sp) (w := w) (p0 := p0) hG hP) hM rfl h0 (zz_lb rfl)
theorem zHc_805 {l : Launch} {D : va_G} {cy : Nat → ClassId} {z0 : Nat} {sp : Nat → Nat} {G : State → Prop} {d : Nat} (hG : zz_GF z0 G) (hP : ∀ U, G U → zz_GD zS zS2 zLg z0 sp U) {w : zz_W} {p0 : Int32} {p1 : Int32} : zz_B l zTs D zcl zFK cy z0 sp (zTys cy) G "ToolMillLaw" "typed" 5 method_8_code d (0, [(0, .ref 0), (1, .int p0), (2, .int p1), (3, .ref 328)], [], w) (5, [(0, .ref 0), (1, .int p0), (2, .int p1), (3, .ref 328)], [.int p1, .int p0, .ref 0, .int (Int32.ofNat 0), .ref 328], w) := by
  have T := zt_805 (l := l) (D := D) (cy := cy) (z0 := z0) (sp := sp) (G := G) (d := d) zz_k0_KS hG hP
  have b := zz_B_rf (l := l) (Ts := zTs) (D := D) (cl := zcl) (fk := zFK) (cy := cy) (z0 := z0) (sp := sp) (tys := zTys cy) (G := G) (own := "ToolMillLaw") (mn := "typed") (nL := 5) (cc := method_8_code) (d := d) ((0, [(0, .ref 0), (1, .int p0), (2, .int p1), (3, .ref 328)], [], w) : zz_F)
  replace b := zz_fw b T (rfl : zz_ent zP_805 0 = (0, za_aload 3 1)) (ze_aload rfl)
  replace b := zz_fw b T (rfl : zz_ent zP_805 1 = (0, za_const (.int (Int32.ofNat 0)) 2)) (ze_const)
  replace b := zz_fw b T (rfl : zz_ent zP_805 2 = (0, za_aload 0 3)) (ze_aload rfl)
  replace b := zz_fw b T (rfl : zz_ent zP_805 3 = (0, za_iload 1 4)) (ze_iload rfl)
  replace b := zz_fw b T (rfl : zz_ent zP_805 4 = (0, za_iload 2 5)) (ze_iload rfl)
  exact b
theorem zHr_805 {l : Launch} {D : va_G} {cy : Nat → ClassId} {z0 : Nat} {sp : Nat → Nat} {G : State → Prop} {d : Nat} (hG : zz_GF z0 G) (hP : ∀ U, G U → zz_GD zS zS2 zLg z0 sp U) {p0 : Int32} {p1 : Int32} {w w' : zz_W} {a : Int32} {N : Nat} (hs : zz_sh w') (hN : zz_has w' 328 (1, 3, 1, N)) (h0 : zz_ic w 0 1 = true) (hM : zz_M l zTs D zcl zFK cy z0 sp (zTys cy) G zYN zCN zMQ zRT d 7 [.ref 0, .int p0, .int p1] w [.int a] w') : zz_MH l zTs D zcl zFK cy z0 sp (zTys cy) G zy_805 method_8_code 5 (some .int) [(0, 10, 13, 37)] (d + 1) [.ref 0, .int p0, .int p1, .ref 328] w [.int (Int32.ofNat 0)] (zWo w' N a) := by
  have T := zt_805 (l := l) (D := D) (cy := cy) (z0 := z0) (sp := sp) (G := G) (d := d) zz_k0_KS hG hP
  have TK := fun (K : zz_K) (h : zz_KS l D zcl zFK cy z0 sp (zTys cy) G zYN (fun y => Cond.code (zYN y) (zCN y) (zMQ y) (zRT y) :: zTs) d K) => zt_805 h hG hP
  have b := zHc_805 (d := d) (l := l) (D := D) (cy := cy) (sp := sp) (w := w) (p0 := p0) (p1 := p1) hG hP
  replace b := zz_fVi b TK (rfl : zz_ent zP_805 5 = (0, za_callV 1 7 2 8)) hM rfl rfl h0 (zz_lb rfl)
  replace b := zz_fw b T (rfl : zz_ent zP_805 8 = (0, za_i2l 9)) (ze_i2l rfl)
  replace b := zz_fw b T (rfl : zz_ent zP_805 9 = (0, za_astL 3 10)) (ze_astL hs hN (by decide) (by decide))
  replace b := zz_fw b T (rfl : zz_ent zP_805 10 = (0, za_goto 17)) (ze_goto)
  replace b := zz_fw b T (rfl : zz_ent zP_805 17 = (0, za_const (.int (Int32.ofNat 0)) 18)) (ze_const)
  exact zz_MH_B rfl rfl (by decide +kernel) (zz_lb rfl) (zz_lb rfl) (zz_end_i zd_805_18) b
theorem zHx_805_0 {l : Launch} {D : va_G} {cy : Nat → ClassId} {z0 : Nat} {sp : Nat → Nat} {G : State → Prop} {d : Nat} (hG : zz_GF z0 G) (hP : ∀ U, G U → zz_GD zS zS2 zLg z0 sp U) (hE : ∀ U, G U → zGX z0 U) {p0 : Int32} {p1 : Int32} {w w' : zz_W} (h0 : zz_ic w 0 1 = true) (hM : zz_MX l zTs D zcl zFK cy z0 sp (zTys cy) G zYN zCN zMQ zRT d 7 [.ref 0, .int p0, .int p1] w "java/util/NoSuchElementException" w') : zz_MH l zTs D zcl zFK cy z0 sp (zTys cy) G zy_805 method_8_code 5 (some .int) [(0, 10, 13, 37)] (d + 1) [.ref 0, .int p0, .int p1, .ref 328] w [.int (Int32.ofNat 1)] w' :=
  zhx_805_0 (as := [.ref 0, .int p0, .int p1, .ref 328]) (bs := [.int p0, .int p1]) (r := [.int (Int32.ofNat 0), .ref 328]) hG hE (zz_lb rfl) (zHc_805 (d := d) (l := l) (D := D) (cy := cy) (sp := sp) (w := w) (p0 := p0) (p1 := p1) hG hP) hM rfl h0 (zz_lb rfl)
theorem zHc_806 {l : Launch} {D : va_G} {cy : Nat → ClassId} {z0 : Nat} {sp : Nat → Nat} {G : State → Prop} {d : Nat} (hG : zz_GF z0 G) (hP : ∀ U, G U → zz_GD zS zS2 zLg z0 sp U) {w : zz_W} {p0 : Int32} {p1 : Int32} : zz_B l zTs D zcl zFK cy z0 sp (zTys cy) G "ToolMillLaw" "unit" 5 method_9_code d (0, [(0, .ref 0), (1, .int p0), (2, .int p1), (3, .ref 328)], [], w) (5, [(0, .ref 0), (1, .int p0), (2, .int p1), (3, .ref 328)], [.int p1, .int p0, .ref 0, .int (Int32.ofNat 0), .ref 328], w) := by
  have T := zt_806 (l := l) (D := D) (cy := cy) (z0 := z0) (sp := sp) (G := G) (d := d) zz_k0_KS hG hP
  have b := zz_B_rf (l := l) (Ts := zTs) (D := D) (cl := zcl) (fk := zFK) (cy := cy) (z0 := z0) (sp := sp) (tys := zTys cy) (G := G) (own := "ToolMillLaw") (mn := "unit") (nL := 5) (cc := method_9_code) (d := d) ((0, [(0, .ref 0), (1, .int p0), (2, .int p1), (3, .ref 328)], [], w) : zz_F)
  replace b := zz_fw b T (rfl : zz_ent zP_806 0 = (0, za_aload 3 1)) (ze_aload rfl)
  replace b := zz_fw b T (rfl : zz_ent zP_806 1 = (0, za_const (.int (Int32.ofNat 0)) 2)) (ze_const)
  replace b := zz_fw b T (rfl : zz_ent zP_806 2 = (0, za_aload 0 3)) (ze_aload rfl)
  replace b := zz_fw b T (rfl : zz_ent zP_806 3 = (0, za_iload 1 4)) (ze_iload rfl)
  replace b := zz_fw b T (rfl : zz_ent zP_806 4 = (0, za_iload 2 5)) (ze_iload rfl)
  exact b
theorem zHr_806 {l : Launch} {D : va_G} {cy : Nat → ClassId} {z0 : Nat} {sp : Nat → Nat} {G : State → Prop} {d : Nat} (hG : zz_GF z0 G) (hP : ∀ U, G U → zz_GD zS zS2 zLg z0 sp U) {p0 : Int32} {p1 : Int32} {w w' : zz_W} {a : Int32} {N : Nat} (hs : zz_sh w') (hN : zz_has w' 328 (1, 3, 1, N)) (h0 : zz_ic w 0 1 = true) (hM : zz_M l zTs D zcl zFK cy z0 sp (zTys cy) G zYN zCN zMQ zRT d 8 [.ref 0, .int p0, .int p1] w [.int a] w') : zz_MH l zTs D zcl zFK cy z0 sp (zTys cy) G zy_806 method_9_code 5 (some .int) [(0, 10, 13, 37), (0, 10, 17, 13)] (d + 1) [.ref 0, .int p0, .int p1, .ref 328] w [.int (Int32.ofNat 0)] (zWo w' N a) := by
  have T := zt_806 (l := l) (D := D) (cy := cy) (z0 := z0) (sp := sp) (G := G) (d := d) zz_k0_KS hG hP
  have TK := fun (K : zz_K) (h : zz_KS l D zcl zFK cy z0 sp (zTys cy) G zYN (fun y => Cond.code (zYN y) (zCN y) (zMQ y) (zRT y) :: zTs) d K) => zt_806 h hG hP
  have b := zHc_806 (d := d) (l := l) (D := D) (cy := cy) (sp := sp) (w := w) (p0 := p0) (p1 := p1) hG hP
  replace b := zz_fVi b TK (rfl : zz_ent zP_806 5 = (0, za_callV 1 8 2 8)) hM rfl rfl h0 (zz_lb rfl)
  replace b := zz_fw b T (rfl : zz_ent zP_806 8 = (0, za_i2l 9)) (ze_i2l rfl)
  replace b := zz_fw b T (rfl : zz_ent zP_806 9 = (0, za_astL 3 10)) (ze_astL hs hN (by decide) (by decide))
  replace b := zz_fw b T (rfl : zz_ent zP_806 10 = (0, za_goto 21)) (ze_goto)
  replace b := zz_fw b T (rfl : zz_ent zP_806 21 = (0, za_const (.int (Int32.ofNat 0)) 22)) (ze_const)
  exact zz_MH_B rfl rfl (by decide +kernel) (zz_lb rfl) (zz_lb rfl) (zz_end_i zd_806_22) b
theorem zHx_806_0 {l : Launch} {D : va_G} {cy : Nat → ClassId} {z0 : Nat} {sp : Nat → Nat} {G : State → Prop} {d : Nat} (hG : zz_GF z0 G) (hP : ∀ U, G U → zz_GD zS zS2 zLg z0 sp U) (hE : ∀ U, G U → zGX z0 U) {p0 : Int32} {p1 : Int32} {w w' : zz_W} (h0 : zz_ic w 0 1 = true) (hM : zz_MX l zTs D zcl zFK cy z0 sp (zTys cy) G zYN zCN zMQ zRT d 8 [.ref 0, .int p0, .int p1] w "java/util/NoSuchElementException" w') : zz_MH l zTs D zcl zFK cy z0 sp (zTys cy) G zy_806 method_9_code 5 (some .int) [(0, 10, 13, 37), (0, 10, 17, 13)] (d + 1) [.ref 0, .int p0, .int p1, .ref 328] w [.int (Int32.ofNat 1)] w' :=
  zhx_806_0 (as := [.ref 0, .int p0, .int p1, .ref 328]) (bs := [.int p0, .int p1]) (r := [.int (Int32.ofNat 0), .ref 328]) hG hE (zz_lb rfl) (zHc_806 (d := d) (l := l) (D := D) (cy := cy) (sp := sp) (w := w) (p0 := p0) (p1 := p1) hG hP) hM rfl h0 (zz_lb rfl)
theorem zHx_806_1 {l : Launch} {D : va_G} {cy : Nat → ClassId} {z0 : Nat} {sp : Nat → Nat} {G : State → Prop} {d : Nat} (hG : zz_GF z0 G) (hP : ∀ U, G U → zz_GD zS zS2 zLg z0 sp U) (hE : ∀ U, G U → zGX z0 U) {p0 : Int32} {p1 : Int32} {w w' : zz_W} (h0 : zz_ic w 0 1 = true) (hM : zz_MX l zTs D zcl zFK cy z0 sp (zTys cy) G zYN zCN zMQ zRT d 8 [.ref 0, .int p0, .int p1] w "java/lang/IllegalArgumentException" w') : zz_MH l zTs D zcl zFK cy z0 sp (zTys cy) G zy_806 method_9_code 5 (some .int) [(0, 10, 13, 37), (0, 10, 17, 13)] (d + 1) [.ref 0, .int p0, .int p1, .ref 328] w [.int (Int32.ofNat 2)] w' :=
  zhx_806_1 (as := [.ref 0, .int p0, .int p1, .ref 328]) (bs := [.int p0, .int p1]) (r := [.int (Int32.ofNat 0), .ref 328]) hG hE (zz_lb rfl) (zHc_806 (d := d) (l := l) (D := D) (cy := cy) (sp := sp) (w := w) (p0 := p0) (p1 := p1) hG hP) hM rfl h0 (zz_lb rfl)
theorem zHc_807 {l : Launch} {D : va_G} {cy : Nat → ClassId} {z0 : Nat} {sp : Nat → Nat} {G : State → Prop} {d : Nat} (hG : zz_GF z0 G) (hP : ∀ U, G U → zz_GD zS zS2 zLg z0 sp U) {w : zz_W} {p0 : Int32} {p1 : Int32} {p2 : Int32} : zz_B l zTs D zcl zFK cy z0 sp (zTys cy) G "ToolMillLaw" "section" 6 method_10_code d (0, [(0, .ref 0), (1, .int p0), (2, .int p1), (3, .int p2), (4, .ref 328)], [], w) (7, [(0, .ref 0), (1, .int p0), (2, .int p1), (3, .int p2), (4, .ref 328)], [.int p2, .int p1, .int p0, .ref 0, .int (Int32.ofNat 0), .ref 328], w) := by
  have T := zt_807 (l := l) (D := D) (cy := cy) (z0 := z0) (sp := sp) (G := G) (d := d) zz_k0_KS hG hP
  have b := zz_B_rf (l := l) (Ts := zTs) (D := D) (cl := zcl) (fk := zFK) (cy := cy) (z0 := z0) (sp := sp) (tys := zTys cy) (G := G) (own := "ToolMillLaw") (mn := "section") (nL := 6) (cc := method_10_code) (d := d) ((0, [(0, .ref 0), (1, .int p0), (2, .int p1), (3, .int p2), (4, .ref 328)], [], w) : zz_F)
  replace b := zz_fw b T (rfl : zz_ent zP_807 0 = (0, za_aload 4 2)) (ze_aload rfl)
  replace b := zz_fw b T (rfl : zz_ent zP_807 2 = (0, za_const (.int (Int32.ofNat 0)) 3)) (ze_const)
  replace b := zz_fw b T (rfl : zz_ent zP_807 3 = (0, za_aload 0 4)) (ze_aload rfl)
  replace b := zz_fw b T (rfl : zz_ent zP_807 4 = (0, za_iload 1 5)) (ze_iload rfl)
  replace b := zz_fw b T (rfl : zz_ent zP_807 5 = (0, za_iload 2 6)) (ze_iload rfl)
  replace b := zz_fw b T (rfl : zz_ent zP_807 6 = (0, za_iload 3 7)) (ze_iload rfl)
  exact b
theorem zHr_807 {l : Launch} {D : va_G} {cy : Nat → ClassId} {z0 : Nat} {sp : Nat → Nat} {G : State → Prop} {d : Nat} (hG : zz_GF z0 G) (hP : ∀ U, G U → zz_GD zS zS2 zLg z0 sp U) {p0 : Int32} {p1 : Int32} {p2 : Int32} {w w' : zz_W} {a : Int32} {N : Nat} (hs : zz_sh w') (hN : zz_has w' 328 (1, 3, 1, N)) (h0 : zz_ic w 0 1 = true) (hM : zz_M l zTs D zcl zFK cy z0 sp (zTys cy) G zYN zCN zMQ zRT d 9 [.ref 0, .int p0, .int p1, .int p2] w [.int a] w') : zz_MH l zTs D zcl zFK cy z0 sp (zTys cy) G zy_807 method_10_code 6 (some .int) [(0, 12, 15, 37), (0, 12, 19, 13)] (d + 1) [.ref 0, .int p0, .int p1, .int p2, .ref 328] w [.int (Int32.ofNat 0)] (zWo w' N a) := by
  have T := zt_807 (l := l) (D := D) (cy := cy) (z0 := z0) (sp := sp) (G := G) (d := d) zz_k0_KS hG hP
  have TK := fun (K : zz_K) (h : zz_KS l D zcl zFK cy z0 sp (zTys cy) G zYN (fun y => Cond.code (zYN y) (zCN y) (zMQ y) (zRT y) :: zTs) d K) => zt_807 h hG hP
  have b := zHc_807 (d := d) (l := l) (D := D) (cy := cy) (sp := sp) (w := w) (p0 := p0) (p1 := p1) (p2 := p2) hG hP
  replace b := zz_fVi b TK (rfl : zz_ent zP_807 7 = (0, za_callV 1 9 3 10)) hM rfl rfl h0 (zz_lb rfl)
  replace b := zz_fw b T (rfl : zz_ent zP_807 10 = (0, za_i2l 11)) (ze_i2l rfl)
  replace b := zz_fw b T (rfl : zz_ent zP_807 11 = (0, za_astL 3 12)) (ze_astL hs hN (by decide) (by decide))
  replace b := zz_fw b T (rfl : zz_ent zP_807 12 = (0, za_goto 23)) (ze_goto)
  replace b := zz_fw b T (rfl : zz_ent zP_807 23 = (0, za_const (.int (Int32.ofNat 0)) 24)) (ze_const)
  exact zz_MH_B rfl rfl (by decide +kernel) (zz_lb rfl) (zz_lb rfl) (zz_end_i zd_807_24) b
theorem zHx_807_0 {l : Launch} {D : va_G} {cy : Nat → ClassId} {z0 : Nat} {sp : Nat → Nat} {G : State → Prop} {d : Nat} (hG : zz_GF z0 G) (hP : ∀ U, G U → zz_GD zS zS2 zLg z0 sp U) (hE : ∀ U, G U → zGX z0 U) {p0 : Int32} {p1 : Int32} {p2 : Int32} {w w' : zz_W} (h0 : zz_ic w 0 1 = true) (hM : zz_MX l zTs D zcl zFK cy z0 sp (zTys cy) G zYN zCN zMQ zRT d 9 [.ref 0, .int p0, .int p1, .int p2] w "java/util/NoSuchElementException" w') : zz_MH l zTs D zcl zFK cy z0 sp (zTys cy) G zy_807 method_10_code 6 (some .int) [(0, 12, 15, 37), (0, 12, 19, 13)] (d + 1) [.ref 0, .int p0, .int p1, .int p2, .ref 328] w [.int (Int32.ofNat 1)] w' :=
  zhx_807_0 (as := [.ref 0, .int p0, .int p1, .int p2, .ref 328]) (bs := [.int p0, .int p1, .int p2]) (r := [.int (Int32.ofNat 0), .ref 328]) hG hE (zz_lb rfl) (zHc_807 (d := d) (l := l) (D := D) (cy := cy) (sp := sp) (w := w) (p0 := p0) (p1 := p1) (p2 := p2) hG hP) hM rfl h0 (zz_lb rfl)
theorem zHx_807_1 {l : Launch} {D : va_G} {cy : Nat → ClassId} {z0 : Nat} {sp : Nat → Nat} {G : State → Prop} {d : Nat} (hG : zz_GF z0 G) (hP : ∀ U, G U → zz_GD zS zS2 zLg z0 sp U) (hE : ∀ U, G U → zGX z0 U) {p0 : Int32} {p1 : Int32} {p2 : Int32} {w w' : zz_W} (h0 : zz_ic w 0 1 = true) (hM : zz_MX l zTs D zcl zFK cy z0 sp (zTys cy) G zYN zCN zMQ zRT d 9 [.ref 0, .int p0, .int p1, .int p2] w "java/lang/IllegalArgumentException" w') : zz_MH l zTs D zcl zFK cy z0 sp (zTys cy) G zy_807 method_10_code 6 (some .int) [(0, 12, 15, 37), (0, 12, 19, 13)] (d + 1) [.ref 0, .int p0, .int p1, .int p2, .ref 328] w [.int (Int32.ofNat 2)] w' :=
  zhx_807_1 (as := [.ref 0, .int p0, .int p1, .int p2, .ref 328]) (bs := [.int p0, .int p1, .int p2]) (r := [.int (Int32.ofNat 0), .ref 328]) hG hE (zz_lb rfl) (zHc_807 (d := d) (l := l) (D := D) (cy := cy) (sp := sp) (w := w) (p0 := p0) (p1 := p1) (p2 := p2) hG hP) hM rfl h0 (zz_lb rfl)
theorem zHc_808 {l : Launch} {D : va_G} {cy : Nat → ClassId} {z0 : Nat} {sp : Nat → Nat} {G : State → Prop} {d : Nat} (hG : zz_GF z0 G) (hP : ∀ U, G U → zz_GD zS zS2 zLg z0 sp U) {w : zz_W} {p0 : Int32} {p1 : Int32} {p2 : Int32} : zz_B l zTs D zcl zFK cy z0 sp (zTys cy) G "ToolMillLaw" "byteOf" 6 method_11_code d (0, [(0, .ref 0), (1, .int p0), (2, .int p1), (3, .int p2), (4, .ref 328)], [], w) (7, [(0, .ref 0), (1, .int p0), (2, .int p1), (3, .int p2), (4, .ref 328)], [.int p2, .int p1, .int p0, .ref 0, .int (Int32.ofNat 0), .ref 328], w) := by
  have T := zt_808 (l := l) (D := D) (cy := cy) (z0 := z0) (sp := sp) (G := G) (d := d) zz_k0_KS hG hP
  have b := zz_B_rf (l := l) (Ts := zTs) (D := D) (cl := zcl) (fk := zFK) (cy := cy) (z0 := z0) (sp := sp) (tys := zTys cy) (G := G) (own := "ToolMillLaw") (mn := "byteOf") (nL := 6) (cc := method_11_code) (d := d) ((0, [(0, .ref 0), (1, .int p0), (2, .int p1), (3, .int p2), (4, .ref 328)], [], w) : zz_F)
  replace b := zz_fw b T (rfl : zz_ent zP_808 0 = (0, za_aload 4 2)) (ze_aload rfl)
  replace b := zz_fw b T (rfl : zz_ent zP_808 2 = (0, za_const (.int (Int32.ofNat 0)) 3)) (ze_const)
  replace b := zz_fw b T (rfl : zz_ent zP_808 3 = (0, za_aload 0 4)) (ze_aload rfl)
  replace b := zz_fw b T (rfl : zz_ent zP_808 4 = (0, za_iload 1 5)) (ze_iload rfl)
  replace b := zz_fw b T (rfl : zz_ent zP_808 5 = (0, za_iload 2 6)) (ze_iload rfl)
  replace b := zz_fw b T (rfl : zz_ent zP_808 6 = (0, za_iload 3 7)) (ze_iload rfl)
  exact b
theorem zHr_808 {l : Launch} {D : va_G} {cy : Nat → ClassId} {z0 : Nat} {sp : Nat → Nat} {G : State → Prop} {d : Nat} (hG : zz_GF z0 G) (hP : ∀ U, G U → zz_GD zS zS2 zLg z0 sp U) {p0 : Int32} {p1 : Int32} {p2 : Int32} {w w' : zz_W} {a : Int32} {N : Nat} (hs : zz_sh w') (hN : zz_has w' 328 (1, 3, 1, N)) (h0 : zz_ic w 0 1 = true) (hM : zz_M l zTs D zcl zFK cy z0 sp (zTys cy) G zYN zCN zMQ zRT d 10 [.ref 0, .int p0, .int p1, .int p2] w [.int a] w') : zz_MH l zTs D zcl zFK cy z0 sp (zTys cy) G zy_808 method_11_code 6 (some .int) [(0, 12, 15, 37)] (d + 1) [.ref 0, .int p0, .int p1, .int p2, .ref 328] w [.int (Int32.ofNat 0)] (zWo w' N a) := by
  have T := zt_808 (l := l) (D := D) (cy := cy) (z0 := z0) (sp := sp) (G := G) (d := d) zz_k0_KS hG hP
  have TK := fun (K : zz_K) (h : zz_KS l D zcl zFK cy z0 sp (zTys cy) G zYN (fun y => Cond.code (zYN y) (zCN y) (zMQ y) (zRT y) :: zTs) d K) => zt_808 h hG hP
  have b := zHc_808 (d := d) (l := l) (D := D) (cy := cy) (sp := sp) (w := w) (p0 := p0) (p1 := p1) (p2 := p2) hG hP
  replace b := zz_fVi b TK (rfl : zz_ent zP_808 7 = (0, za_callV 1 10 3 10)) hM rfl rfl h0 (zz_lb rfl)
  replace b := zz_fw b T (rfl : zz_ent zP_808 10 = (0, za_i2l 11)) (ze_i2l rfl)
  replace b := zz_fw b T (rfl : zz_ent zP_808 11 = (0, za_astL 3 12)) (ze_astL hs hN (by decide) (by decide))
  replace b := zz_fw b T (rfl : zz_ent zP_808 12 = (0, za_goto 19)) (ze_goto)
  replace b := zz_fw b T (rfl : zz_ent zP_808 19 = (0, za_const (.int (Int32.ofNat 0)) 20)) (ze_const)
  exact zz_MH_B rfl rfl (by decide +kernel) (zz_lb rfl) (zz_lb rfl) (zz_end_i zd_808_20) b
theorem zHx_808_0 {l : Launch} {D : va_G} {cy : Nat → ClassId} {z0 : Nat} {sp : Nat → Nat} {G : State → Prop} {d : Nat} (hG : zz_GF z0 G) (hP : ∀ U, G U → zz_GD zS zS2 zLg z0 sp U) (hE : ∀ U, G U → zGX z0 U) {p0 : Int32} {p1 : Int32} {p2 : Int32} {w w' : zz_W} (h0 : zz_ic w 0 1 = true) (hM : zz_MX l zTs D zcl zFK cy z0 sp (zTys cy) G zYN zCN zMQ zRT d 10 [.ref 0, .int p0, .int p1, .int p2] w "java/util/NoSuchElementException" w') : zz_MH l zTs D zcl zFK cy z0 sp (zTys cy) G zy_808 method_11_code 6 (some .int) [(0, 12, 15, 37)] (d + 1) [.ref 0, .int p0, .int p1, .int p2, .ref 328] w [.int (Int32.ofNat 1)] w' :=
  zhx_808_0 (as := [.ref 0, .int p0, .int p1, .int p2, .ref 328]) (bs := [.int p0, .int p1, .int p2]) (r := [.int (Int32.ofNat 0), .ref 328]) hG hE (zz_lb rfl) (zHc_808 (d := d) (l := l) (D := D) (cy := cy) (sp := sp) (w := w) (p0 := p0) (p1 := p1) (p2 := p2) hG hP) hM rfl h0 (zz_lb rfl)
theorem zHc_809 {l : Launch} {D : va_G} {cy : Nat → ClassId} {z0 : Nat} {sp : Nat → Nat} {G : State → Prop} {d : Nat} (hG : zz_GF z0 G) (hP : ∀ U, G U → zz_GD zS zS2 zLg z0 sp U) {w : zz_W} {p0 : Int32} {p1 : Int32} {p2 : Int32} : zz_B l zTs D zcl zFK cy z0 sp (zTys cy) G "ToolMillLaw" "label" 6 method_12_code d (0, [(0, .ref 0), (1, .int p0), (2, .int p1), (3, .int p2), (4, .ref 328)], [], w) (7, [(0, .ref 0), (1, .int p0), (2, .int p1), (3, .int p2), (4, .ref 328)], [.int p2, .int p1, .int p0, .ref 0, .int (Int32.ofNat 0), .ref 328], w) := by
  have T := zt_809 (l := l) (D := D) (cy := cy) (z0 := z0) (sp := sp) (G := G) (d := d) zz_k0_KS hG hP
  have b := zz_B_rf (l := l) (Ts := zTs) (D := D) (cl := zcl) (fk := zFK) (cy := cy) (z0 := z0) (sp := sp) (tys := zTys cy) (G := G) (own := "ToolMillLaw") (mn := "label") (nL := 6) (cc := method_12_code) (d := d) ((0, [(0, .ref 0), (1, .int p0), (2, .int p1), (3, .int p2), (4, .ref 328)], [], w) : zz_F)
  replace b := zz_fw b T (rfl : zz_ent zP_809 0 = (0, za_aload 4 2)) (ze_aload rfl)
  replace b := zz_fw b T (rfl : zz_ent zP_809 2 = (0, za_const (.int (Int32.ofNat 0)) 3)) (ze_const)
  replace b := zz_fw b T (rfl : zz_ent zP_809 3 = (0, za_aload 0 4)) (ze_aload rfl)
  replace b := zz_fw b T (rfl : zz_ent zP_809 4 = (0, za_iload 1 5)) (ze_iload rfl)
  replace b := zz_fw b T (rfl : zz_ent zP_809 5 = (0, za_iload 2 6)) (ze_iload rfl)
  replace b := zz_fw b T (rfl : zz_ent zP_809 6 = (0, za_iload 3 7)) (ze_iload rfl)
  exact b
theorem zHr_809 {l : Launch} {D : va_G} {cy : Nat → ClassId} {z0 : Nat} {sp : Nat → Nat} {G : State → Prop} {d : Nat} (hG : zz_GF z0 G) (hP : ∀ U, G U → zz_GD zS zS2 zLg z0 sp U) {p0 : Int32} {p1 : Int32} {p2 : Int32} {w w' : zz_W} {a : Int32} {N : Nat} (hs : zz_sh w') (hN : zz_has w' 328 (1, 3, 1, N)) (h0 : zz_ic w 0 1 = true) (hM : zz_M l zTs D zcl zFK cy z0 sp (zTys cy) G zYN zCN zMQ zRT d 11 [.ref 0, .int p0, .int p1, .int p2] w [.int a] w') : zz_MH l zTs D zcl zFK cy z0 sp (zTys cy) G zy_809 method_12_code 6 (some .int) [(0, 12, 15, 37), (0, 12, 19, 13)] (d + 1) [.ref 0, .int p0, .int p1, .int p2, .ref 328] w [.int (Int32.ofNat 0)] (zWo w' N a) := by
  have T := zt_809 (l := l) (D := D) (cy := cy) (z0 := z0) (sp := sp) (G := G) (d := d) zz_k0_KS hG hP
  have TK := fun (K : zz_K) (h : zz_KS l D zcl zFK cy z0 sp (zTys cy) G zYN (fun y => Cond.code (zYN y) (zCN y) (zMQ y) (zRT y) :: zTs) d K) => zt_809 h hG hP
  have b := zHc_809 (d := d) (l := l) (D := D) (cy := cy) (sp := sp) (w := w) (p0 := p0) (p1 := p1) (p2 := p2) hG hP
  replace b := zz_fVi b TK (rfl : zz_ent zP_809 7 = (0, za_callV 1 11 3 10)) hM rfl rfl h0 (zz_lb rfl)
  replace b := zz_fw b T (rfl : zz_ent zP_809 10 = (0, za_i2l 11)) (ze_i2l rfl)
  replace b := zz_fw b T (rfl : zz_ent zP_809 11 = (0, za_astL 3 12)) (ze_astL hs hN (by decide) (by decide))
  replace b := zz_fw b T (rfl : zz_ent zP_809 12 = (0, za_goto 23)) (ze_goto)
  replace b := zz_fw b T (rfl : zz_ent zP_809 23 = (0, za_const (.int (Int32.ofNat 0)) 24)) (ze_const)
  exact zz_MH_B rfl rfl (by decide +kernel) (zz_lb rfl) (zz_lb rfl) (zz_end_i zd_809_24) b
theorem zHx_809_0 {l : Launch} {D : va_G} {cy : Nat → ClassId} {z0 : Nat} {sp : Nat → Nat} {G : State → Prop} {d : Nat} (hG : zz_GF z0 G) (hP : ∀ U, G U → zz_GD zS zS2 zLg z0 sp U) (hE : ∀ U, G U → zGX z0 U) {p0 : Int32} {p1 : Int32} {p2 : Int32} {w w' : zz_W} (h0 : zz_ic w 0 1 = true) (hM : zz_MX l zTs D zcl zFK cy z0 sp (zTys cy) G zYN zCN zMQ zRT d 11 [.ref 0, .int p0, .int p1, .int p2] w "java/util/NoSuchElementException" w') : zz_MH l zTs D zcl zFK cy z0 sp (zTys cy) G zy_809 method_12_code 6 (some .int) [(0, 12, 15, 37), (0, 12, 19, 13)] (d + 1) [.ref 0, .int p0, .int p1, .int p2, .ref 328] w [.int (Int32.ofNat 1)] w' :=
  zhx_809_0 (as := [.ref 0, .int p0, .int p1, .int p2, .ref 328]) (bs := [.int p0, .int p1, .int p2]) (r := [.int (Int32.ofNat 0), .ref 328]) hG hE (zz_lb rfl) (zHc_809 (d := d) (l := l) (D := D) (cy := cy) (sp := sp) (w := w) (p0 := p0) (p1 := p1) (p2 := p2) hG hP) hM rfl h0 (zz_lb rfl)
theorem zHx_809_1 {l : Launch} {D : va_G} {cy : Nat → ClassId} {z0 : Nat} {sp : Nat → Nat} {G : State → Prop} {d : Nat} (hG : zz_GF z0 G) (hP : ∀ U, G U → zz_GD zS zS2 zLg z0 sp U) (hE : ∀ U, G U → zGX z0 U) {p0 : Int32} {p1 : Int32} {p2 : Int32} {w w' : zz_W} (h0 : zz_ic w 0 1 = true) (hM : zz_MX l zTs D zcl zFK cy z0 sp (zTys cy) G zYN zCN zMQ zRT d 11 [.ref 0, .int p0, .int p1, .int p2] w "java/lang/IllegalArgumentException" w') : zz_MH l zTs D zcl zFK cy z0 sp (zTys cy) G zy_809 method_12_code 6 (some .int) [(0, 12, 15, 37), (0, 12, 19, 13)] (d + 1) [.ref 0, .int p0, .int p1, .int p2, .ref 328] w [.int (Int32.ofNat 2)] w' :=
  zhx_809_1 (as := [.ref 0, .int p0, .int p1, .int p2, .ref 328]) (bs := [.int p0, .int p1, .int p2]) (r := [.int (Int32.ofNat 0), .ref 328]) hG hE (zz_lb rfl) (zHc_809 (d := d) (l := l) (D := D) (cy := cy) (sp := sp) (w := w) (p0 := p0) (p1 := p1) (p2 := p2) hG hP) hM rfl h0 (zz_lb rfl)
theorem zHc_810 {l : Launch} {D : va_G} {cy : Nat → ClassId} {z0 : Nat} {sp : Nat → Nat} {G : State → Prop} {d : Nat} (hG : zz_GF z0 G) (hP : ∀ U, G U → zz_GD zS zS2 zLg z0 sp U) {w : zz_W} {p0 : Int32} {p1 : Int32} {p2 : Int32} : zz_B l zTs D zcl zFK cy z0 sp (zTys cy) G "ToolMillLaw" "relocation" 6 method_13_code d (0, [(0, .ref 0), (1, .int p0), (2, .int p1), (3, .int p2), (4, .ref 328)], [], w) (7, [(0, .ref 0), (1, .int p0), (2, .int p1), (3, .int p2), (4, .ref 328)], [.int p2, .int p1, .int p0, .ref 0, .int (Int32.ofNat 0), .ref 328], w) := by
  have T := zt_810 (l := l) (D := D) (cy := cy) (z0 := z0) (sp := sp) (G := G) (d := d) zz_k0_KS hG hP
  have b := zz_B_rf (l := l) (Ts := zTs) (D := D) (cl := zcl) (fk := zFK) (cy := cy) (z0 := z0) (sp := sp) (tys := zTys cy) (G := G) (own := "ToolMillLaw") (mn := "relocation") (nL := 6) (cc := method_13_code) (d := d) ((0, [(0, .ref 0), (1, .int p0), (2, .int p1), (3, .int p2), (4, .ref 328)], [], w) : zz_F)
  replace b := zz_fw b T (rfl : zz_ent zP_810 0 = (0, za_aload 4 2)) (ze_aload rfl)
  replace b := zz_fw b T (rfl : zz_ent zP_810 2 = (0, za_const (.int (Int32.ofNat 0)) 3)) (ze_const)
  replace b := zz_fw b T (rfl : zz_ent zP_810 3 = (0, za_aload 0 4)) (ze_aload rfl)
  replace b := zz_fw b T (rfl : zz_ent zP_810 4 = (0, za_iload 1 5)) (ze_iload rfl)
  replace b := zz_fw b T (rfl : zz_ent zP_810 5 = (0, za_iload 2 6)) (ze_iload rfl)
  replace b := zz_fw b T (rfl : zz_ent zP_810 6 = (0, za_iload 3 7)) (ze_iload rfl)
  exact b
theorem zHr_810 {l : Launch} {D : va_G} {cy : Nat → ClassId} {z0 : Nat} {sp : Nat → Nat} {G : State → Prop} {d : Nat} (hG : zz_GF z0 G) (hP : ∀ U, G U → zz_GD zS zS2 zLg z0 sp U) {p0 : Int32} {p1 : Int32} {p2 : Int32} {w w' : zz_W} {a : Int32} {N : Nat} (hs : zz_sh w') (hN : zz_has w' 328 (1, 3, 1, N)) (h0 : zz_ic w 0 1 = true) (hM : zz_M l zTs D zcl zFK cy z0 sp (zTys cy) G zYN zCN zMQ zRT d 12 [.ref 0, .int p0, .int p1, .int p2] w [.int a] w') : zz_MH l zTs D zcl zFK cy z0 sp (zTys cy) G zy_810 method_13_code 6 (some .int) [(0, 12, 15, 37), (0, 12, 19, 13)] (d + 1) [.ref 0, .int p0, .int p1, .int p2, .ref 328] w [.int (Int32.ofNat 0)] (zWo w' N a) := by
  have T := zt_810 (l := l) (D := D) (cy := cy) (z0 := z0) (sp := sp) (G := G) (d := d) zz_k0_KS hG hP
  have TK := fun (K : zz_K) (h : zz_KS l D zcl zFK cy z0 sp (zTys cy) G zYN (fun y => Cond.code (zYN y) (zCN y) (zMQ y) (zRT y) :: zTs) d K) => zt_810 h hG hP
  have b := zHc_810 (d := d) (l := l) (D := D) (cy := cy) (sp := sp) (w := w) (p0 := p0) (p1 := p1) (p2 := p2) hG hP
  replace b := zz_fVi b TK (rfl : zz_ent zP_810 7 = (0, za_callV 1 12 3 10)) hM rfl rfl h0 (zz_lb rfl)
  replace b := zz_fw b T (rfl : zz_ent zP_810 10 = (0, za_i2l 11)) (ze_i2l rfl)
  replace b := zz_fw b T (rfl : zz_ent zP_810 11 = (0, za_astL 3 12)) (ze_astL hs hN (by decide) (by decide))
  replace b := zz_fw b T (rfl : zz_ent zP_810 12 = (0, za_goto 23)) (ze_goto)
  replace b := zz_fw b T (rfl : zz_ent zP_810 23 = (0, za_const (.int (Int32.ofNat 0)) 24)) (ze_const)
  exact zz_MH_B rfl rfl (by decide +kernel) (zz_lb rfl) (zz_lb rfl) (zz_end_i zd_810_24) b
theorem zHx_810_0 {l : Launch} {D : va_G} {cy : Nat → ClassId} {z0 : Nat} {sp : Nat → Nat} {G : State → Prop} {d : Nat} (hG : zz_GF z0 G) (hP : ∀ U, G U → zz_GD zS zS2 zLg z0 sp U) (hE : ∀ U, G U → zGX z0 U) {p0 : Int32} {p1 : Int32} {p2 : Int32} {w w' : zz_W} (h0 : zz_ic w 0 1 = true) (hM : zz_MX l zTs D zcl zFK cy z0 sp (zTys cy) G zYN zCN zMQ zRT d 12 [.ref 0, .int p0, .int p1, .int p2] w "java/util/NoSuchElementException" w') : zz_MH l zTs D zcl zFK cy z0 sp (zTys cy) G zy_810 method_13_code 6 (some .int) [(0, 12, 15, 37), (0, 12, 19, 13)] (d + 1) [.ref 0, .int p0, .int p1, .int p2, .ref 328] w [.int (Int32.ofNat 1)] w' :=
  zhx_810_0 (as := [.ref 0, .int p0, .int p1, .int p2, .ref 328]) (bs := [.int p0, .int p1, .int p2]) (r := [.int (Int32.ofNat 0), .ref 328]) hG hE (zz_lb rfl) (zHc_810 (d := d) (l := l) (D := D) (cy := cy) (sp := sp) (w := w) (p0 := p0) (p1 := p1) (p2 := p2) hG hP) hM rfl h0 (zz_lb rfl)
theorem zHx_810_1 {l : Launch} {D : va_G} {cy : Nat → ClassId} {z0 : Nat} {sp : Nat → Nat} {G : State → Prop} {d : Nat} (hG : zz_GF z0 G) (hP : ∀ U, G U → zz_GD zS zS2 zLg z0 sp U) (hE : ∀ U, G U → zGX z0 U) {p0 : Int32} {p1 : Int32} {p2 : Int32} {w w' : zz_W} (h0 : zz_ic w 0 1 = true) (hM : zz_MX l zTs D zcl zFK cy z0 sp (zTys cy) G zYN zCN zMQ zRT d 12 [.ref 0, .int p0, .int p1, .int p2] w "java/lang/IllegalArgumentException" w') : zz_MH l zTs D zcl zFK cy z0 sp (zTys cy) G zy_810 method_13_code 6 (some .int) [(0, 12, 15, 37), (0, 12, 19, 13)] (d + 1) [.ref 0, .int p0, .int p1, .int p2, .ref 328] w [.int (Int32.ofNat 2)] w' :=
  zhx_810_1 (as := [.ref 0, .int p0, .int p1, .int p2, .ref 328]) (bs := [.int p0, .int p1, .int p2]) (r := [.int (Int32.ofNat 0), .ref 328]) hG hE (zz_lb rfl) (zHc_810 (d := d) (l := l) (D := D) (cy := cy) (sp := sp) (w := w) (p0 := p0) (p1 := p1) (p2 := p2) hG hP) hM rfl h0 (zz_lb rfl)
theorem zHc_811 {l : Launch} {D : va_G} {cy : Nat → ClassId} {z0 : Nat} {sp : Nat → Nat} {G : State → Prop} {d : Nat} (hG : zz_GF z0 G) (hP : ∀ U, G U → zz_GD zS zS2 zLg z0 sp U) {w : zz_W} {p0 : Int32} : zz_B l zTs D zcl zFK cy z0 sp (zTys cy) G "ToolMillLaw" "input" 4 method_14_code d (0, [(0, .ref 0), (1, .int p0), (2, .ref 328)], [], w) (4, [(0, .ref 0), (1, .int p0), (2, .ref 328)], [.int p0, .ref 0, .int (Int32.ofNat 0), .ref 328], w) := by
  have T := zt_811 (l := l) (D := D) (cy := cy) (z0 := z0) (sp := sp) (G := G) (d := d) zz_k0_KS hG hP
  have b := zz_B_rf (l := l) (Ts := zTs) (D := D) (cl := zcl) (fk := zFK) (cy := cy) (z0 := z0) (sp := sp) (tys := zTys cy) (G := G) (own := "ToolMillLaw") (mn := "input") (nL := 4) (cc := method_14_code) (d := d) ((0, [(0, .ref 0), (1, .int p0), (2, .ref 328)], [], w) : zz_F)
  replace b := zz_fw b T (rfl : zz_ent zP_811 0 = (0, za_aload 2 1)) (ze_aload rfl)
  replace b := zz_fw b T (rfl : zz_ent zP_811 1 = (0, za_const (.int (Int32.ofNat 0)) 2)) (ze_const)
  replace b := zz_fw b T (rfl : zz_ent zP_811 2 = (0, za_aload 0 3)) (ze_aload rfl)
  replace b := zz_fw b T (rfl : zz_ent zP_811 3 = (0, za_iload 1 4)) (ze_iload rfl)
  exact b
theorem zHr_811 {l : Launch} {D : va_G} {cy : Nat → ClassId} {z0 : Nat} {sp : Nat → Nat} {G : State → Prop} {d : Nat} (hG : zz_GF z0 G) (hP : ∀ U, G U → zz_GD zS zS2 zLg z0 sp U) {p0 : Int32} {w w' : zz_W} {a : Int32} {N : Nat} (hs : zz_sh w') (hN : zz_has w' 328 (1, 3, 1, N)) (h0 : zz_ic w 0 1 = true) (hM : zz_M l zTs D zcl zFK cy z0 sp (zTys cy) G zYN zCN zMQ zRT d 13 [.ref 0, .int p0] w [.int a] w') : zz_MH l zTs D zcl zFK cy z0 sp (zTys cy) G zy_811 method_14_code 4 (some .int) [(0, 9, 12, 15)] (d + 1) [.ref 0, .int p0, .ref 328] w [.int (Int32.ofNat 0)] (zWo w' N a) := by
  have T := zt_811 (l := l) (D := D) (cy := cy) (z0 := z0) (sp := sp) (G := G) (d := d) zz_k0_KS hG hP
  have TK := fun (K : zz_K) (h : zz_KS l D zcl zFK cy z0 sp (zTys cy) G zYN (fun y => Cond.code (zYN y) (zCN y) (zMQ y) (zRT y) :: zTs) d K) => zt_811 h hG hP
  have b := zHc_811 (d := d) (l := l) (D := D) (cy := cy) (sp := sp) (w := w) (p0 := p0) hG hP
  replace b := zz_fVi b TK (rfl : zz_ent zP_811 4 = (0, za_callV 1 13 1 7)) hM rfl rfl h0 (zz_lb rfl)
  replace b := zz_fw b T (rfl : zz_ent zP_811 7 = (0, za_i2l 8)) (ze_i2l rfl)
  replace b := zz_fw b T (rfl : zz_ent zP_811 8 = (0, za_astL 3 9)) (ze_astL hs hN (by decide) (by decide))
  replace b := zz_fw b T (rfl : zz_ent zP_811 9 = (0, za_goto 15)) (ze_goto)
  replace b := zz_fw b T (rfl : zz_ent zP_811 15 = (0, za_const (.int (Int32.ofNat 0)) 16)) (ze_const)
  exact zz_MH_B rfl rfl (by decide +kernel) (zz_lb rfl) (zz_lb rfl) (zz_end_i zd_811_16) b
theorem zHx_811_0 {l : Launch} {D : va_G} {cy : Nat → ClassId} {z0 : Nat} {sp : Nat → Nat} {G : State → Prop} {d : Nat} (hG : zz_GF z0 G) (hP : ∀ U, G U → zz_GD zS zS2 zLg z0 sp U) (hE : ∀ U, G U → zGX z0 U) {p0 : Int32} {w w' : zz_W} (h0 : zz_ic w 0 1 = true) (hM : zz_MX l zTs D zcl zFK cy z0 sp (zTys cy) G zYN zCN zMQ zRT d 13 [.ref 0, .int p0] w "java/lang/UnsupportedOperationException" w') : zz_MH l zTs D zcl zFK cy z0 sp (zTys cy) G zy_811 method_14_code 4 (some .int) [(0, 9, 12, 15)] (d + 1) [.ref 0, .int p0, .ref 328] w [.int (Int32.ofNat 1)] w' :=
  zhx_811_0 (as := [.ref 0, .int p0, .ref 328]) (bs := [.int p0]) (r := [.int (Int32.ofNat 0), .ref 328]) hG hE (zz_lb rfl) (zHc_811 (d := d) (l := l) (D := D) (cy := cy) (sp := sp) (w := w) (p0 := p0) hG hP) hM rfl h0 (zz_lb rfl)
theorem zHc_812 {l : Launch} {D : va_G} {cy : Nat → ClassId} {z0 : Nat} {sp : Nat → Nat} {G : State → Prop} {d : Nat} (hG : zz_GF z0 G) (hP : ∀ U, G U → zz_GD zS zS2 zLg z0 sp U) {w : zz_W} {p0 : Int32} {p1 : Int32} : zz_B l zTs D zcl zFK cy z0 sp (zTys cy) G "ToolMillLaw" "link" 5 method_15_code d (0, [(0, .ref 0), (1, .int p0), (2, .int p1), (3, .ref 328)], [], w) (5, [(0, .ref 0), (1, .int p0), (2, .int p1), (3, .ref 328)], [.int p1, .int p0, .ref 0, .int (Int32.ofNat 0), .ref 328], w) := by
  have T := zt_812 (l := l) (D := D) (cy := cy) (z0 := z0) (sp := sp) (G := G) (d := d) zz_k0_KS hG hP
  have b := zz_B_rf (l := l) (Ts := zTs) (D := D) (cl := zcl) (fk := zFK) (cy := cy) (z0 := z0) (sp := sp) (tys := zTys cy) (G := G) (own := "ToolMillLaw") (mn := "link") (nL := 5) (cc := method_15_code) (d := d) ((0, [(0, .ref 0), (1, .int p0), (2, .int p1), (3, .ref 328)], [], w) : zz_F)
  replace b := zz_fw b T (rfl : zz_ent zP_812 0 = (0, za_aload 3 1)) (ze_aload rfl)
  replace b := zz_fw b T (rfl : zz_ent zP_812 1 = (0, za_const (.int (Int32.ofNat 0)) 2)) (ze_const)
  replace b := zz_fw b T (rfl : zz_ent zP_812 2 = (0, za_aload 0 3)) (ze_aload rfl)
  replace b := zz_fw b T (rfl : zz_ent zP_812 3 = (0, za_iload 1 4)) (ze_iload rfl)
  replace b := zz_fw b T (rfl : zz_ent zP_812 4 = (0, za_iload 2 5)) (ze_iload rfl)
  exact b
theorem zHr_812 {l : Launch} {D : va_G} {cy : Nat → ClassId} {z0 : Nat} {sp : Nat → Nat} {G : State → Prop} {d : Nat} (hG : zz_GF z0 G) (hP : ∀ U, G U → zz_GD zS zS2 zLg z0 sp U) {p0 : Int32} {p1 : Int32} {w w' : zz_W} {a : Int32} {N : Nat} (hs : zz_sh w') (hN : zz_has w' 328 (1, 3, 1, N)) (h0 : zz_ic w 0 1 = true) (hM : zz_M l zTs D zcl zFK cy z0 sp (zTys cy) G zYN zCN zMQ zRT d 14 [.ref 0, .int p0, .int p1] w [.int a] w') : zz_MH l zTs D zcl zFK cy z0 sp (zTys cy) G zy_812 method_15_code 5 (some .int) [(0, 10, 13, 25), (0, 10, 17, 13)] (d + 1) [.ref 0, .int p0, .int p1, .ref 328] w [.int (Int32.ofNat 0)] (zWo w' N a) := by
  have T := zt_812 (l := l) (D := D) (cy := cy) (z0 := z0) (sp := sp) (G := G) (d := d) zz_k0_KS hG hP
  have TK := fun (K : zz_K) (h : zz_KS l D zcl zFK cy z0 sp (zTys cy) G zYN (fun y => Cond.code (zYN y) (zCN y) (zMQ y) (zRT y) :: zTs) d K) => zt_812 h hG hP
  have b := zHc_812 (d := d) (l := l) (D := D) (cy := cy) (sp := sp) (w := w) (p0 := p0) (p1 := p1) hG hP
  replace b := zz_fVi b TK (rfl : zz_ent zP_812 5 = (0, za_callV 1 14 2 8)) hM rfl rfl h0 (zz_lb rfl)
  replace b := zz_fw b T (rfl : zz_ent zP_812 8 = (0, za_i2l 9)) (ze_i2l rfl)
  replace b := zz_fw b T (rfl : zz_ent zP_812 9 = (0, za_astL 3 10)) (ze_astL hs hN (by decide) (by decide))
  replace b := zz_fw b T (rfl : zz_ent zP_812 10 = (0, za_goto 21)) (ze_goto)
  replace b := zz_fw b T (rfl : zz_ent zP_812 21 = (0, za_const (.int (Int32.ofNat 0)) 22)) (ze_const)
  exact zz_MH_B rfl rfl (by decide +kernel) (zz_lb rfl) (zz_lb rfl) (zz_end_i zd_812_22) b
theorem zHx_812_0 {l : Launch} {D : va_G} {cy : Nat → ClassId} {z0 : Nat} {sp : Nat → Nat} {G : State → Prop} {d : Nat} (hG : zz_GF z0 G) (hP : ∀ U, G U → zz_GD zS zS2 zLg z0 sp U) (hE : ∀ U, G U → zGX z0 U) {p0 : Int32} {p1 : Int32} {w w' : zz_W} (h0 : zz_ic w 0 1 = true) (hM : zz_MX l zTs D zcl zFK cy z0 sp (zTys cy) G zYN zCN zMQ zRT d 14 [.ref 0, .int p0, .int p1] w "java/lang/IllegalStateException" w') : zz_MH l zTs D zcl zFK cy z0 sp (zTys cy) G zy_812 method_15_code 5 (some .int) [(0, 10, 13, 25), (0, 10, 17, 13)] (d + 1) [.ref 0, .int p0, .int p1, .ref 328] w [.int (Int32.ofNat 1)] w' :=
  zhx_812_0 (as := [.ref 0, .int p0, .int p1, .ref 328]) (bs := [.int p0, .int p1]) (r := [.int (Int32.ofNat 0), .ref 328]) hG hE (zz_lb rfl) (zHc_812 (d := d) (l := l) (D := D) (cy := cy) (sp := sp) (w := w) (p0 := p0) (p1 := p1) hG hP) hM rfl h0 (zz_lb rfl)
theorem zHx_812_1 {l : Launch} {D : va_G} {cy : Nat → ClassId} {z0 : Nat} {sp : Nat → Nat} {G : State → Prop} {d : Nat} (hG : zz_GF z0 G) (hP : ∀ U, G U → zz_GD zS zS2 zLg z0 sp U) (hE : ∀ U, G U → zGX z0 U) {p0 : Int32} {p1 : Int32} {w w' : zz_W} (h0 : zz_ic w 0 1 = true) (hM : zz_MX l zTs D zcl zFK cy z0 sp (zTys cy) G zYN zCN zMQ zRT d 14 [.ref 0, .int p0, .int p1] w "java/lang/IllegalArgumentException" w') : zz_MH l zTs D zcl zFK cy z0 sp (zTys cy) G zy_812 method_15_code 5 (some .int) [(0, 10, 13, 25), (0, 10, 17, 13)] (d + 1) [.ref 0, .int p0, .int p1, .ref 328] w [.int (Int32.ofNat 2)] w' :=
  zhx_812_1 (as := [.ref 0, .int p0, .int p1, .ref 328]) (bs := [.int p0, .int p1]) (r := [.int (Int32.ofNat 0), .ref 328]) hG hE (zz_lb rfl) (zHc_812 (d := d) (l := l) (D := D) (cy := cy) (sp := sp) (w := w) (p0 := p0) (p1 := p1) hG hP) hM rfl h0 (zz_lb rfl)
theorem zHc_813 {l : Launch} {D : va_G} {cy : Nat → ClassId} {z0 : Nat} {sp : Nat → Nat} {G : State → Prop} {d : Nat} (hG : zz_GF z0 G) (hP : ∀ U, G U → zz_GD zS zS2 zLg z0 sp U) {w : zz_W} {p0 : Int32} : zz_B l zTs D zcl zFK cy z0 sp (zTys cy) G "ToolMillLaw" "run" 4 method_16_code d (0, [(0, .ref 0), (1, .int p0), (2, .ref 328)], [], w) (4, [(0, .ref 0), (1, .int p0), (2, .ref 328)], [.int p0, .ref 0, .int (Int32.ofNat 0), .ref 328], w) := by
  have T := zt_813 (l := l) (D := D) (cy := cy) (z0 := z0) (sp := sp) (G := G) (d := d) zz_k0_KS hG hP
  have b := zz_B_rf (l := l) (Ts := zTs) (D := D) (cl := zcl) (fk := zFK) (cy := cy) (z0 := z0) (sp := sp) (tys := zTys cy) (G := G) (own := "ToolMillLaw") (mn := "run") (nL := 4) (cc := method_16_code) (d := d) ((0, [(0, .ref 0), (1, .int p0), (2, .ref 328)], [], w) : zz_F)
  replace b := zz_fw b T (rfl : zz_ent zP_813 0 = (0, za_aload 2 1)) (ze_aload rfl)
  replace b := zz_fw b T (rfl : zz_ent zP_813 1 = (0, za_const (.int (Int32.ofNat 0)) 2)) (ze_const)
  replace b := zz_fw b T (rfl : zz_ent zP_813 2 = (0, za_aload 0 3)) (ze_aload rfl)
  replace b := zz_fw b T (rfl : zz_ent zP_813 3 = (0, za_iload 1 4)) (ze_iload rfl)
  exact b
theorem zHr_813 {l : Launch} {D : va_G} {cy : Nat → ClassId} {z0 : Nat} {sp : Nat → Nat} {G : State → Prop} {d : Nat} (hG : zz_GF z0 G) (hP : ∀ U, G U → zz_GD zS zS2 zLg z0 sp U) {p0 : Int32} {w w' : zz_W} {a : Int32} {N : Nat} (hs : zz_sh w') (hN : zz_has w' 328 (1, 3, 1, N)) (h0 : zz_ic w 0 1 = true) (hM : zz_M l zTs D zcl zFK cy z0 sp (zTys cy) G zYN zCN zMQ zRT d 15 [.ref 0, .int p0] w [.int a] w') : zz_MH l zTs D zcl zFK cy z0 sp (zTys cy) G zy_813 method_16_code 4 (some .int) [(0, 9, 12, 25), (0, 9, 15, 13)] (d + 1) [.ref 0, .int p0, .ref 328] w [.int (Int32.ofNat 0)] (zWo w' N a) := by
  have T := zt_813 (l := l) (D := D) (cy := cy) (z0 := z0) (sp := sp) (G := G) (d := d) zz_k0_KS hG hP
  have TK := fun (K : zz_K) (h : zz_KS l D zcl zFK cy z0 sp (zTys cy) G zYN (fun y => Cond.code (zYN y) (zCN y) (zMQ y) (zRT y) :: zTs) d K) => zt_813 h hG hP
  have b := zHc_813 (d := d) (l := l) (D := D) (cy := cy) (sp := sp) (w := w) (p0 := p0) hG hP
  replace b := zz_fVi b TK (rfl : zz_ent zP_813 4 = (0, za_callV 1 15 1 7)) hM rfl rfl h0 (zz_lb rfl)
  replace b := zz_fw b T (rfl : zz_ent zP_813 7 = (0, za_i2l 8)) (ze_i2l rfl)
  replace b := zz_fw b T (rfl : zz_ent zP_813 8 = (0, za_astL 3 9)) (ze_astL hs hN (by decide) (by decide))
  replace b := zz_fw b T (rfl : zz_ent zP_813 9 = (0, za_goto 18)) (ze_goto)
  replace b := zz_fw b T (rfl : zz_ent zP_813 18 = (0, za_const (.int (Int32.ofNat 0)) 19)) (ze_const)
  exact zz_MH_B rfl rfl (by decide +kernel) (zz_lb rfl) (zz_lb rfl) (zz_end_i zd_813_19) b
theorem zHx_813_0 {l : Launch} {D : va_G} {cy : Nat → ClassId} {z0 : Nat} {sp : Nat → Nat} {G : State → Prop} {d : Nat} (hG : zz_GF z0 G) (hP : ∀ U, G U → zz_GD zS zS2 zLg z0 sp U) (hE : ∀ U, G U → zGX z0 U) {p0 : Int32} {w w' : zz_W} (h0 : zz_ic w 0 1 = true) (hM : zz_MX l zTs D zcl zFK cy z0 sp (zTys cy) G zYN zCN zMQ zRT d 15 [.ref 0, .int p0] w "java/lang/IllegalStateException" w') : zz_MH l zTs D zcl zFK cy z0 sp (zTys cy) G zy_813 method_16_code 4 (some .int) [(0, 9, 12, 25), (0, 9, 15, 13)] (d + 1) [.ref 0, .int p0, .ref 328] w [.int (Int32.ofNat 1)] w' :=
  zhx_813_0 (as := [.ref 0, .int p0, .ref 328]) (bs := [.int p0]) (r := [.int (Int32.ofNat 0), .ref 328]) hG hE (zz_lb rfl) (zHc_813 (d := d) (l := l) (D := D) (cy := cy) (sp := sp) (w := w) (p0 := p0) hG hP) hM rfl h0 (zz_lb rfl)
theorem zHx_813_1 {l : Launch} {D : va_G} {cy : Nat → ClassId} {z0 : Nat} {sp : Nat → Nat} {G : State → Prop} {d : Nat} (hG : zz_GF z0 G) (hP : ∀ U, G U → zz_GD zS zS2 zLg z0 sp U) (hE : ∀ U, G U → zGX z0 U) {p0 : Int32} {w w' : zz_W} (h0 : zz_ic w 0 1 = true) (hM : zz_MX l zTs D zcl zFK cy z0 sp (zTys cy) G zYN zCN zMQ zRT d 15 [.ref 0, .int p0] w "java/lang/IllegalArgumentException" w') : zz_MH l zTs D zcl zFK cy z0 sp (zTys cy) G zy_813 method_16_code 4 (some .int) [(0, 9, 12, 25), (0, 9, 15, 13)] (d + 1) [.ref 0, .int p0, .ref 328] w [.int (Int32.ofNat 2)] w' :=
  zhx_813_1 (as := [.ref 0, .int p0, .ref 328]) (bs := [.int p0]) (r := [.int (Int32.ofNat 0), .ref 328]) hG hE (zz_lb rfl) (zHc_813 (d := d) (l := l) (D := D) (cy := cy) (sp := sp) (w := w) (p0 := p0) hG hP) hM rfl h0 (zz_lb rfl)
theorem zHc_814 {l : Launch} {D : va_G} {cy : Nat → ClassId} {z0 : Nat} {sp : Nat → Nat} {G : State → Prop} {d : Nat} (hG : zz_GF z0 G) (hP : ∀ U, G U → zz_GD zS zS2 zLg z0 sp U) {w : zz_W} {p0 : Int32} : zz_B l zTs D zcl zFK cy z0 sp (zTys cy) G "ToolMillLaw" "state" 4 method_17_code d (0, [(0, .ref 0), (1, .int p0), (2, .ref 328)], [], w) (4, [(0, .ref 0), (1, .int p0), (2, .ref 328)], [.int p0, .ref 0, .int (Int32.ofNat 0), .ref 328], w) := by
  have T := zt_814 (l := l) (D := D) (cy := cy) (z0 := z0) (sp := sp) (G := G) (d := d) zz_k0_KS hG hP
  have b := zz_B_rf (l := l) (Ts := zTs) (D := D) (cl := zcl) (fk := zFK) (cy := cy) (z0 := z0) (sp := sp) (tys := zTys cy) (G := G) (own := "ToolMillLaw") (mn := "state") (nL := 4) (cc := method_17_code) (d := d) ((0, [(0, .ref 0), (1, .int p0), (2, .ref 328)], [], w) : zz_F)
  replace b := zz_fw b T (rfl : zz_ent zP_814 0 = (0, za_aload 2 1)) (ze_aload rfl)
  replace b := zz_fw b T (rfl : zz_ent zP_814 1 = (0, za_const (.int (Int32.ofNat 0)) 2)) (ze_const)
  replace b := zz_fw b T (rfl : zz_ent zP_814 2 = (0, za_aload 0 3)) (ze_aload rfl)
  replace b := zz_fw b T (rfl : zz_ent zP_814 3 = (0, za_iload 1 4)) (ze_iload rfl)
  exact b
theorem zHr_814 {l : Launch} {D : va_G} {cy : Nat → ClassId} {z0 : Nat} {sp : Nat → Nat} {G : State → Prop} {d : Nat} (hG : zz_GF z0 G) (hP : ∀ U, G U → zz_GD zS zS2 zLg z0 sp U) {p0 : Int32} {w w' : zz_W} {a : Int32} {N : Nat} (hs : zz_sh w') (hN : zz_has w' 328 (1, 3, 1, N)) (h0 : zz_ic w 0 1 = true) (hM : zz_M l zTs D zcl zFK cy z0 sp (zTys cy) G zYN zCN zMQ zRT d 16 [.ref 0, .int p0] w [.int a] w') : zz_MH l zTs D zcl zFK cy z0 sp (zTys cy) G zy_814 method_17_code 4 (some .int) [(0, 9, 12, 25), (0, 9, 15, 13)] (d + 1) [.ref 0, .int p0, .ref 328] w [.int (Int32.ofNat 0)] (zWo w' N a) := by
  have T := zt_814 (l := l) (D := D) (cy := cy) (z0 := z0) (sp := sp) (G := G) (d := d) zz_k0_KS hG hP
  have TK := fun (K : zz_K) (h : zz_KS l D zcl zFK cy z0 sp (zTys cy) G zYN (fun y => Cond.code (zYN y) (zCN y) (zMQ y) (zRT y) :: zTs) d K) => zt_814 h hG hP
  have b := zHc_814 (d := d) (l := l) (D := D) (cy := cy) (sp := sp) (w := w) (p0 := p0) hG hP
  replace b := zz_fVi b TK (rfl : zz_ent zP_814 4 = (0, za_callV 1 16 1 7)) hM rfl rfl h0 (zz_lb rfl)
  replace b := zz_fw b T (rfl : zz_ent zP_814 7 = (0, za_i2l 8)) (ze_i2l rfl)
  replace b := zz_fw b T (rfl : zz_ent zP_814 8 = (0, za_astL 3 9)) (ze_astL hs hN (by decide) (by decide))
  replace b := zz_fw b T (rfl : zz_ent zP_814 9 = (0, za_goto 18)) (ze_goto)
  replace b := zz_fw b T (rfl : zz_ent zP_814 18 = (0, za_const (.int (Int32.ofNat 0)) 19)) (ze_const)
  exact zz_MH_B rfl rfl (by decide +kernel) (zz_lb rfl) (zz_lb rfl) (zz_end_i zd_814_19) b
theorem zHx_814_0 {l : Launch} {D : va_G} {cy : Nat → ClassId} {z0 : Nat} {sp : Nat → Nat} {G : State → Prop} {d : Nat} (hG : zz_GF z0 G) (hP : ∀ U, G U → zz_GD zS zS2 zLg z0 sp U) (hE : ∀ U, G U → zGX z0 U) {p0 : Int32} {w w' : zz_W} (h0 : zz_ic w 0 1 = true) (hM : zz_MX l zTs D zcl zFK cy z0 sp (zTys cy) G zYN zCN zMQ zRT d 16 [.ref 0, .int p0] w "java/lang/IllegalStateException" w') : zz_MH l zTs D zcl zFK cy z0 sp (zTys cy) G zy_814 method_17_code 4 (some .int) [(0, 9, 12, 25), (0, 9, 15, 13)] (d + 1) [.ref 0, .int p0, .ref 328] w [.int (Int32.ofNat 1)] w' :=
  zhx_814_0 (as := [.ref 0, .int p0, .ref 328]) (bs := [.int p0]) (r := [.int (Int32.ofNat 0), .ref 328]) hG hE (zz_lb rfl) (zHc_814 (d := d) (l := l) (D := D) (cy := cy) (sp := sp) (w := w) (p0 := p0) hG hP) hM rfl h0 (zz_lb rfl)
theorem zHx_814_1 {l : Launch} {D : va_G} {cy : Nat → ClassId} {z0 : Nat} {sp : Nat → Nat} {G : State → Prop} {d : Nat} (hG : zz_GF z0 G) (hP : ∀ U, G U → zz_GD zS zS2 zLg z0 sp U) (hE : ∀ U, G U → zGX z0 U) {p0 : Int32} {w w' : zz_W} (h0 : zz_ic w 0 1 = true) (hM : zz_MX l zTs D zcl zFK cy z0 sp (zTys cy) G zYN zCN zMQ zRT d 16 [.ref 0, .int p0] w "java/lang/IllegalArgumentException" w') : zz_MH l zTs D zcl zFK cy z0 sp (zTys cy) G zy_814 method_17_code 4 (some .int) [(0, 9, 12, 25), (0, 9, 15, 13)] (d + 1) [.ref 0, .int p0, .ref 328] w [.int (Int32.ofNat 2)] w' :=
  zhx_814_1 (as := [.ref 0, .int p0, .ref 328]) (bs := [.int p0]) (r := [.int (Int32.ofNat 0), .ref 328]) hG hE (zz_lb rfl) (zHc_814 (d := d) (l := l) (D := D) (cy := cy) (sp := sp) (w := w) (p0 := p0) hG hP) hM rfl h0 (zz_lb rfl)
theorem zHc_815 {l : Launch} {D : va_G} {cy : Nat → ClassId} {z0 : Nat} {sp : Nat → Nat} {G : State → Prop} {d : Nat} (hG : zz_GF z0 G) (hP : ∀ U, G U → zz_GD zS zS2 zLg z0 sp U) {w : zz_W} {p0 : Int32} : zz_B l zTs D zcl zFK cy z0 sp (zTys cy) G "ToolMillLaw" "register" 4 method_18_code d (0, [(0, .ref 0), (1, .int p0), (2, .ref 328)], [], w) (4, [(0, .ref 0), (1, .int p0), (2, .ref 328)], [.int p0, .ref 0, .int (Int32.ofNat 0), .ref 328], w) := by
  have T := zt_815 (l := l) (D := D) (cy := cy) (z0 := z0) (sp := sp) (G := G) (d := d) zz_k0_KS hG hP
  have b := zz_B_rf (l := l) (Ts := zTs) (D := D) (cl := zcl) (fk := zFK) (cy := cy) (z0 := z0) (sp := sp) (tys := zTys cy) (G := G) (own := "ToolMillLaw") (mn := "register") (nL := 4) (cc := method_18_code) (d := d) ((0, [(0, .ref 0), (1, .int p0), (2, .ref 328)], [], w) : zz_F)
  replace b := zz_fw b T (rfl : zz_ent zP_815 0 = (0, za_aload 2 1)) (ze_aload rfl)
  replace b := zz_fw b T (rfl : zz_ent zP_815 1 = (0, za_const (.int (Int32.ofNat 0)) 2)) (ze_const)
  replace b := zz_fw b T (rfl : zz_ent zP_815 2 = (0, za_aload 0 3)) (ze_aload rfl)
  replace b := zz_fw b T (rfl : zz_ent zP_815 3 = (0, za_iload 1 4)) (ze_iload rfl)
  exact b
theorem zHr_815 {l : Launch} {D : va_G} {cy : Nat → ClassId} {z0 : Nat} {sp : Nat → Nat} {G : State → Prop} {d : Nat} (hG : zz_GF z0 G) (hP : ∀ U, G U → zz_GD zS zS2 zLg z0 sp U) {p0 : Int32} {w w' : zz_W} {a : Int32} {N : Nat} (hs : zz_sh w') (hN : zz_has w' 328 (1, 3, 1, N)) (h0 : zz_ic w 0 1 = true) (hM : zz_M l zTs D zcl zFK cy z0 sp (zTys cy) G zYN zCN zMQ zRT d 17 [.ref 0, .int p0] w [.int a] w') : zz_MH l zTs D zcl zFK cy z0 sp (zTys cy) G zy_815 method_18_code 4 (some .int) [(0, 9, 12, 25), (0, 9, 15, 13)] (d + 1) [.ref 0, .int p0, .ref 328] w [.int (Int32.ofNat 0)] (zWo w' N a) := by
  have T := zt_815 (l := l) (D := D) (cy := cy) (z0 := z0) (sp := sp) (G := G) (d := d) zz_k0_KS hG hP
  have TK := fun (K : zz_K) (h : zz_KS l D zcl zFK cy z0 sp (zTys cy) G zYN (fun y => Cond.code (zYN y) (zCN y) (zMQ y) (zRT y) :: zTs) d K) => zt_815 h hG hP
  have b := zHc_815 (d := d) (l := l) (D := D) (cy := cy) (sp := sp) (w := w) (p0 := p0) hG hP
  replace b := zz_fVi b TK (rfl : zz_ent zP_815 4 = (0, za_callV 1 17 1 7)) hM rfl rfl h0 (zz_lb rfl)
  replace b := zz_fw b T (rfl : zz_ent zP_815 7 = (0, za_i2l 8)) (ze_i2l rfl)
  replace b := zz_fw b T (rfl : zz_ent zP_815 8 = (0, za_astL 3 9)) (ze_astL hs hN (by decide) (by decide))
  replace b := zz_fw b T (rfl : zz_ent zP_815 9 = (0, za_goto 18)) (ze_goto)
  replace b := zz_fw b T (rfl : zz_ent zP_815 18 = (0, za_const (.int (Int32.ofNat 0)) 19)) (ze_const)
  exact zz_MH_B rfl rfl (by decide +kernel) (zz_lb rfl) (zz_lb rfl) (zz_end_i zd_815_19) b
theorem zHx_815_0 {l : Launch} {D : va_G} {cy : Nat → ClassId} {z0 : Nat} {sp : Nat → Nat} {G : State → Prop} {d : Nat} (hG : zz_GF z0 G) (hP : ∀ U, G U → zz_GD zS zS2 zLg z0 sp U) (hE : ∀ U, G U → zGX z0 U) {p0 : Int32} {w w' : zz_W} (h0 : zz_ic w 0 1 = true) (hM : zz_MX l zTs D zcl zFK cy z0 sp (zTys cy) G zYN zCN zMQ zRT d 17 [.ref 0, .int p0] w "java/lang/IllegalStateException" w') : zz_MH l zTs D zcl zFK cy z0 sp (zTys cy) G zy_815 method_18_code 4 (some .int) [(0, 9, 12, 25), (0, 9, 15, 13)] (d + 1) [.ref 0, .int p0, .ref 328] w [.int (Int32.ofNat 1)] w' :=
  zhx_815_0 (as := [.ref 0, .int p0, .ref 328]) (bs := [.int p0]) (r := [.int (Int32.ofNat 0), .ref 328]) hG hE (zz_lb rfl) (zHc_815 (d := d) (l := l) (D := D) (cy := cy) (sp := sp) (w := w) (p0 := p0) hG hP) hM rfl h0 (zz_lb rfl)
theorem zHx_815_1 {l : Launch} {D : va_G} {cy : Nat → ClassId} {z0 : Nat} {sp : Nat → Nat} {G : State → Prop} {d : Nat} (hG : zz_GF z0 G) (hP : ∀ U, G U → zz_GD zS zS2 zLg z0 sp U) (hE : ∀ U, G U → zGX z0 U) {p0 : Int32} {w w' : zz_W} (h0 : zz_ic w 0 1 = true) (hM : zz_MX l zTs D zcl zFK cy z0 sp (zTys cy) G zYN zCN zMQ zRT d 17 [.ref 0, .int p0] w "java/lang/IllegalArgumentException" w') : zz_MH l zTs D zcl zFK cy z0 sp (zTys cy) G zy_815 method_18_code 4 (some .int) [(0, 9, 12, 25), (0, 9, 15, 13)] (d + 1) [.ref 0, .int p0, .ref 328] w [.int (Int32.ofNat 2)] w' :=
  zhx_815_1 (as := [.ref 0, .int p0, .ref 328]) (bs := [.int p0]) (r := [.int (Int32.ofNat 0), .ref 328]) hG hE (zz_lb rfl) (zHc_815 (d := d) (l := l) (D := D) (cy := cy) (sp := sp) (w := w) (p0 := p0) hG hP) hM rfl h0 (zz_lb rfl)
theorem zHc_816 {l : Launch} {D : va_G} {cy : Nat → ClassId} {z0 : Nat} {sp : Nat → Nat} {G : State → Prop} {d : Nat} (hG : zz_GF z0 G) (hP : ∀ U, G U → zz_GD zS zS2 zLg z0 sp U) {w : zz_W} {p0 : Int32} : zz_B l zTs D zcl zFK cy z0 sp (zTys cy) G "ToolMillLaw" "word" 4 method_19_code d (0, [(0, .ref 0), (1, .int p0), (2, .ref 328)], [], w) (4, [(0, .ref 0), (1, .int p0), (2, .ref 328)], [.int p0, .ref 0, .int (Int32.ofNat 0), .ref 328], w) := by
  have T := zt_816 (l := l) (D := D) (cy := cy) (z0 := z0) (sp := sp) (G := G) (d := d) zz_k0_KS hG hP
  have b := zz_B_rf (l := l) (Ts := zTs) (D := D) (cl := zcl) (fk := zFK) (cy := cy) (z0 := z0) (sp := sp) (tys := zTys cy) (G := G) (own := "ToolMillLaw") (mn := "word") (nL := 4) (cc := method_19_code) (d := d) ((0, [(0, .ref 0), (1, .int p0), (2, .ref 328)], [], w) : zz_F)
  replace b := zz_fw b T (rfl : zz_ent zP_816 0 = (0, za_aload 2 1)) (ze_aload rfl)
  replace b := zz_fw b T (rfl : zz_ent zP_816 1 = (0, za_const (.int (Int32.ofNat 0)) 2)) (ze_const)
  replace b := zz_fw b T (rfl : zz_ent zP_816 2 = (0, za_aload 0 3)) (ze_aload rfl)
  replace b := zz_fw b T (rfl : zz_ent zP_816 3 = (0, za_iload 1 4)) (ze_iload rfl)
  exact b
theorem zHr_816 {l : Launch} {D : va_G} {cy : Nat → ClassId} {z0 : Nat} {sp : Nat → Nat} {G : State → Prop} {d : Nat} (hG : zz_GF z0 G) (hP : ∀ U, G U → zz_GD zS zS2 zLg z0 sp U) {p0 : Int32} {w w' : zz_W} {a : Int32} {N : Nat} (hs : zz_sh w') (hN : zz_has w' 328 (1, 3, 1, N)) (h0 : zz_ic w 0 1 = true) (hM : zz_M l zTs D zcl zFK cy z0 sp (zTys cy) G zYN zCN zMQ zRT d 18 [.ref 0, .int p0] w [.int a] w') : zz_MH l zTs D zcl zFK cy z0 sp (zTys cy) G zy_816 method_19_code 4 (some .int) [(0, 9, 12, 25), (0, 9, 15, 73)] (d + 1) [.ref 0, .int p0, .ref 328] w [.int (Int32.ofNat 0)] (zWo w' N a) := by
  have T := zt_816 (l := l) (D := D) (cy := cy) (z0 := z0) (sp := sp) (G := G) (d := d) zz_k0_KS hG hP
  have TK := fun (K : zz_K) (h : zz_KS l D zcl zFK cy z0 sp (zTys cy) G zYN (fun y => Cond.code (zYN y) (zCN y) (zMQ y) (zRT y) :: zTs) d K) => zt_816 h hG hP
  have b := zHc_816 (d := d) (l := l) (D := D) (cy := cy) (sp := sp) (w := w) (p0 := p0) hG hP
  replace b := zz_fVi b TK (rfl : zz_ent zP_816 4 = (0, za_callV 1 18 1 7)) hM rfl rfl h0 (zz_lb rfl)
  replace b := zz_fw b T (rfl : zz_ent zP_816 7 = (0, za_i2l 8)) (ze_i2l rfl)
  replace b := zz_fw b T (rfl : zz_ent zP_816 8 = (0, za_astL 3 9)) (ze_astL hs hN (by decide) (by decide))
  replace b := zz_fw b T (rfl : zz_ent zP_816 9 = (0, za_goto 18)) (ze_goto)
  replace b := zz_fw b T (rfl : zz_ent zP_816 18 = (0, za_const (.int (Int32.ofNat 0)) 19)) (ze_const)
  exact zz_MH_B rfl rfl (by decide +kernel) (zz_lb rfl) (zz_lb rfl) (zz_end_i zd_816_19) b
theorem zHx_816_0 {l : Launch} {D : va_G} {cy : Nat → ClassId} {z0 : Nat} {sp : Nat → Nat} {G : State → Prop} {d : Nat} (hG : zz_GF z0 G) (hP : ∀ U, G U → zz_GD zS zS2 zLg z0 sp U) (hE : ∀ U, G U → zGX z0 U) {p0 : Int32} {w w' : zz_W} (h0 : zz_ic w 0 1 = true) (hM : zz_MX l zTs D zcl zFK cy z0 sp (zTys cy) G zYN zCN zMQ zRT d 18 [.ref 0, .int p0] w "java/lang/IllegalStateException" w') : zz_MH l zTs D zcl zFK cy z0 sp (zTys cy) G zy_816 method_19_code 4 (some .int) [(0, 9, 12, 25), (0, 9, 15, 73)] (d + 1) [.ref 0, .int p0, .ref 328] w [.int (Int32.ofNat 1)] w' :=
  zhx_816_0 (as := [.ref 0, .int p0, .ref 328]) (bs := [.int p0]) (r := [.int (Int32.ofNat 0), .ref 328]) hG hE (zz_lb rfl) (zHc_816 (d := d) (l := l) (D := D) (cy := cy) (sp := sp) (w := w) (p0 := p0) hG hP) hM rfl h0 (zz_lb rfl)
theorem zHx_816_1 {l : Launch} {D : va_G} {cy : Nat → ClassId} {z0 : Nat} {sp : Nat → Nat} {G : State → Prop} {d : Nat} (hG : zz_GF z0 G) (hP : ∀ U, G U → zz_GD zS zS2 zLg z0 sp U) (hE : ∀ U, G U → zGX z0 U) {p0 : Int32} {w w' : zz_W} (h0 : zz_ic w 0 1 = true) (hM : zz_MX l zTs D zcl zFK cy z0 sp (zTys cy) G zYN zCN zMQ zRT d 18 [.ref 0, .int p0] w "java/lang/IndexOutOfBoundsException" w') : zz_MH l zTs D zcl zFK cy z0 sp (zTys cy) G zy_816 method_19_code 4 (some .int) [(0, 9, 12, 25), (0, 9, 15, 73)] (d + 1) [.ref 0, .int p0, .ref 328] w [.int (Int32.ofNat 2)] w' :=
  zhx_816_1 (as := [.ref 0, .int p0, .ref 328]) (bs := [.int p0]) (r := [.int (Int32.ofNat 0), .ref 328]) hG hE (zz_lb rfl) (zHc_816 (d := d) (l := l) (D := D) (cy := cy) (sp := sp) (w := w) (p0 := p0) hG hP) hM rfl h0 (zz_lb rfl)
theorem zHc_817 {l : Launch} {D : va_G} {cy : Nat → ClassId} {z0 : Nat} {sp : Nat → Nat} {G : State → Prop} {d : Nat} (hG : zz_GF z0 G) (hP : ∀ U, G U → zz_GD zS zS2 zLg z0 sp U) {w : zz_W} {p0 : Int32} : zz_B l zTs D zcl zFK cy z0 sp (zTys cy) G "ToolMillLaw" "output" 4 method_20_code d (0, [(0, .ref 0), (1, .int p0), (2, .ref 328)], [], w) (4, [(0, .ref 0), (1, .int p0), (2, .ref 328)], [.int p0, .ref 0, .int (Int32.ofNat 0), .ref 328], w) := by
  have T := zt_817 (l := l) (D := D) (cy := cy) (z0 := z0) (sp := sp) (G := G) (d := d) zz_k0_KS hG hP
  have b := zz_B_rf (l := l) (Ts := zTs) (D := D) (cl := zcl) (fk := zFK) (cy := cy) (z0 := z0) (sp := sp) (tys := zTys cy) (G := G) (own := "ToolMillLaw") (mn := "output") (nL := 4) (cc := method_20_code) (d := d) ((0, [(0, .ref 0), (1, .int p0), (2, .ref 328)], [], w) : zz_F)
  replace b := zz_fw b T (rfl : zz_ent zP_817 0 = (0, za_aload 2 1)) (ze_aload rfl)
  replace b := zz_fw b T (rfl : zz_ent zP_817 1 = (0, za_const (.int (Int32.ofNat 0)) 2)) (ze_const)
  replace b := zz_fw b T (rfl : zz_ent zP_817 2 = (0, za_aload 0 3)) (ze_aload rfl)
  replace b := zz_fw b T (rfl : zz_ent zP_817 3 = (0, za_iload 1 4)) (ze_iload rfl)
  exact b
theorem zHr_817 {l : Launch} {D : va_G} {cy : Nat → ClassId} {z0 : Nat} {sp : Nat → Nat} {G : State → Prop} {d : Nat} (hG : zz_GF z0 G) (hP : ∀ U, G U → zz_GD zS zS2 zLg z0 sp U) {p0 : Int32} {w w' : zz_W} {a : Int32} {N : Nat} (hs : zz_sh w') (hN : zz_has w' 328 (1, 3, 1, N)) (h0 : zz_ic w 0 1 = true) (hM : zz_M l zTs D zcl zFK cy z0 sp (zTys cy) G zYN zCN zMQ zRT d 19 [.ref 0, .int p0] w [.int a] w') : zz_MH l zTs D zcl zFK cy z0 sp (zTys cy) G zy_817 method_20_code 4 (some .int) [(0, 9, 12, 25), (0, 9, 15, 73)] (d + 1) [.ref 0, .int p0, .ref 328] w [.int (Int32.ofNat 0)] (zWo w' N a) := by
  have T := zt_817 (l := l) (D := D) (cy := cy) (z0 := z0) (sp := sp) (G := G) (d := d) zz_k0_KS hG hP
  have TK := fun (K : zz_K) (h : zz_KS l D zcl zFK cy z0 sp (zTys cy) G zYN (fun y => Cond.code (zYN y) (zCN y) (zMQ y) (zRT y) :: zTs) d K) => zt_817 h hG hP
  have b := zHc_817 (d := d) (l := l) (D := D) (cy := cy) (sp := sp) (w := w) (p0 := p0) hG hP
  replace b := zz_fVi b TK (rfl : zz_ent zP_817 4 = (0, za_callV 1 19 1 7)) hM rfl rfl h0 (zz_lb rfl)
  replace b := zz_fw b T (rfl : zz_ent zP_817 7 = (0, za_i2l 8)) (ze_i2l rfl)
  replace b := zz_fw b T (rfl : zz_ent zP_817 8 = (0, za_astL 3 9)) (ze_astL hs hN (by decide) (by decide))
  replace b := zz_fw b T (rfl : zz_ent zP_817 9 = (0, za_goto 18)) (ze_goto)
  replace b := zz_fw b T (rfl : zz_ent zP_817 18 = (0, za_const (.int (Int32.ofNat 0)) 19)) (ze_const)
  exact zz_MH_B rfl rfl (by decide +kernel) (zz_lb rfl) (zz_lb rfl) (zz_end_i zd_817_19) b
theorem zHx_817_0 {l : Launch} {D : va_G} {cy : Nat → ClassId} {z0 : Nat} {sp : Nat → Nat} {G : State → Prop} {d : Nat} (hG : zz_GF z0 G) (hP : ∀ U, G U → zz_GD zS zS2 zLg z0 sp U) (hE : ∀ U, G U → zGX z0 U) {p0 : Int32} {w w' : zz_W} (h0 : zz_ic w 0 1 = true) (hM : zz_MX l zTs D zcl zFK cy z0 sp (zTys cy) G zYN zCN zMQ zRT d 19 [.ref 0, .int p0] w "java/lang/IllegalStateException" w') : zz_MH l zTs D zcl zFK cy z0 sp (zTys cy) G zy_817 method_20_code 4 (some .int) [(0, 9, 12, 25), (0, 9, 15, 73)] (d + 1) [.ref 0, .int p0, .ref 328] w [.int (Int32.ofNat 1)] w' :=
  zhx_817_0 (as := [.ref 0, .int p0, .ref 328]) (bs := [.int p0]) (r := [.int (Int32.ofNat 0), .ref 328]) hG hE (zz_lb rfl) (zHc_817 (d := d) (l := l) (D := D) (cy := cy) (sp := sp) (w := w) (p0 := p0) hG hP) hM rfl h0 (zz_lb rfl)
theorem zHx_817_1 {l : Launch} {D : va_G} {cy : Nat → ClassId} {z0 : Nat} {sp : Nat → Nat} {G : State → Prop} {d : Nat} (hG : zz_GF z0 G) (hP : ∀ U, G U → zz_GD zS zS2 zLg z0 sp U) (hE : ∀ U, G U → zGX z0 U) {p0 : Int32} {w w' : zz_W} (h0 : zz_ic w 0 1 = true) (hM : zz_MX l zTs D zcl zFK cy z0 sp (zTys cy) G zYN zCN zMQ zRT d 19 [.ref 0, .int p0] w "java/lang/IndexOutOfBoundsException" w') : zz_MH l zTs D zcl zFK cy z0 sp (zTys cy) G zy_817 method_20_code 4 (some .int) [(0, 9, 12, 25), (0, 9, 15, 73)] (d + 1) [.ref 0, .int p0, .ref 328] w [.int (Int32.ofNat 2)] w' :=
  zhx_817_1 (as := [.ref 0, .int p0, .ref 328]) (bs := [.int p0]) (r := [.int (Int32.ofNat 0), .ref 328]) hG hE (zz_lb rfl) (zHc_817 (d := d) (l := l) (D := D) (cy := cy) (sp := sp) (w := w) (p0 := p0) hG hP) hM rfl h0 (zz_lb rfl)
theorem zHc_818 {l : Launch} {D : va_G} {cy : Nat → ClassId} {z0 : Nat} {sp : Nat → Nat} {G : State → Prop} {d : Nat} (hG : zz_GF z0 G) (hP : ∀ U, G U → zz_GD zS zS2 zLg z0 sp U) {w : zz_W} {p0 : Int32} {p1 : Int32} : zz_B l zTs D zcl zFK cy z0 sp (zTys cy) G "ToolMillLaw" "listing" 5 method_21_code d (0, [(0, .ref 0), (1, .int p0), (2, .int p1), (3, .ref 328)], [], w) (5, [(0, .ref 0), (1, .int p0), (2, .int p1), (3, .ref 328)], [.int p1, .int p0, .ref 0, .int (Int32.ofNat 0), .ref 328], w) := by
  have T := zt_818 (l := l) (D := D) (cy := cy) (z0 := z0) (sp := sp) (G := G) (d := d) zz_k0_KS hG hP
  have b := zz_B_rf (l := l) (Ts := zTs) (D := D) (cl := zcl) (fk := zFK) (cy := cy) (z0 := z0) (sp := sp) (tys := zTys cy) (G := G) (own := "ToolMillLaw") (mn := "listing") (nL := 5) (cc := method_21_code) (d := d) ((0, [(0, .ref 0), (1, .int p0), (2, .int p1), (3, .ref 328)], [], w) : zz_F)
  replace b := zz_fw b T (rfl : zz_ent zP_818 0 = (0, za_aload 3 1)) (ze_aload rfl)
  replace b := zz_fw b T (rfl : zz_ent zP_818 1 = (0, za_const (.int (Int32.ofNat 0)) 2)) (ze_const)
  replace b := zz_fw b T (rfl : zz_ent zP_818 2 = (0, za_aload 0 3)) (ze_aload rfl)
  replace b := zz_fw b T (rfl : zz_ent zP_818 3 = (0, za_iload 1 4)) (ze_iload rfl)
  replace b := zz_fw b T (rfl : zz_ent zP_818 4 = (0, za_iload 2 5)) (ze_iload rfl)
  exact b
theorem zHr_818 {l : Launch} {D : va_G} {cy : Nat → ClassId} {z0 : Nat} {sp : Nat → Nat} {G : State → Prop} {d : Nat} (hG : zz_GF z0 G) (hP : ∀ U, G U → zz_GD zS zS2 zLg z0 sp U) {p0 : Int32} {p1 : Int32} {w w' : zz_W} {a : Int32} {N : Nat} (hs : zz_sh w') (hN : zz_has w' 328 (1, 3, 1, N)) (h0 : zz_ic w 0 1 = true) (hM : zz_M l zTs D zcl zFK cy z0 sp (zTys cy) G zYN zCN zMQ zRT d 20 [.ref 0, .int p0, .int p1] w [.int a] w') : zz_MH l zTs D zcl zFK cy z0 sp (zTys cy) G zy_818 method_21_code 5 (some .int) [(0, 10, 13, 73)] (d + 1) [.ref 0, .int p0, .int p1, .ref 328] w [.int (Int32.ofNat 0)] (zWo w' N a) := by
  have T := zt_818 (l := l) (D := D) (cy := cy) (z0 := z0) (sp := sp) (G := G) (d := d) zz_k0_KS hG hP
  have TK := fun (K : zz_K) (h : zz_KS l D zcl zFK cy z0 sp (zTys cy) G zYN (fun y => Cond.code (zYN y) (zCN y) (zMQ y) (zRT y) :: zTs) d K) => zt_818 h hG hP
  have b := zHc_818 (d := d) (l := l) (D := D) (cy := cy) (sp := sp) (w := w) (p0 := p0) (p1 := p1) hG hP
  replace b := zz_fVi b TK (rfl : zz_ent zP_818 5 = (0, za_callV 1 20 2 8)) hM rfl rfl h0 (zz_lb rfl)
  replace b := zz_fw b T (rfl : zz_ent zP_818 8 = (0, za_i2l 9)) (ze_i2l rfl)
  replace b := zz_fw b T (rfl : zz_ent zP_818 9 = (0, za_astL 3 10)) (ze_astL hs hN (by decide) (by decide))
  replace b := zz_fw b T (rfl : zz_ent zP_818 10 = (0, za_goto 17)) (ze_goto)
  replace b := zz_fw b T (rfl : zz_ent zP_818 17 = (0, za_const (.int (Int32.ofNat 0)) 18)) (ze_const)
  exact zz_MH_B rfl rfl (by decide +kernel) (zz_lb rfl) (zz_lb rfl) (zz_end_i zd_818_18) b
theorem zHx_818_0 {l : Launch} {D : va_G} {cy : Nat → ClassId} {z0 : Nat} {sp : Nat → Nat} {G : State → Prop} {d : Nat} (hG : zz_GF z0 G) (hP : ∀ U, G U → zz_GD zS zS2 zLg z0 sp U) (hE : ∀ U, G U → zGX z0 U) {p0 : Int32} {p1 : Int32} {w w' : zz_W} (h0 : zz_ic w 0 1 = true) (hM : zz_MX l zTs D zcl zFK cy z0 sp (zTys cy) G zYN zCN zMQ zRT d 20 [.ref 0, .int p0, .int p1] w "java/lang/IndexOutOfBoundsException" w') : zz_MH l zTs D zcl zFK cy z0 sp (zTys cy) G zy_818 method_21_code 5 (some .int) [(0, 10, 13, 73)] (d + 1) [.ref 0, .int p0, .int p1, .ref 328] w [.int (Int32.ofNat 1)] w' :=
  zhx_818_0 (as := [.ref 0, .int p0, .int p1, .ref 328]) (bs := [.int p0, .int p1]) (r := [.int (Int32.ofNat 0), .ref 328]) hG hE (zz_lb rfl) (zHc_818 (d := d) (l := l) (D := D) (cy := cy) (sp := sp) (w := w) (p0 := p0) (p1 := p1) hG hP) hM rfl h0 (zz_lb rfl)
theorem zHc_819 {l : Launch} {D : va_G} {cy : Nat → ClassId} {z0 : Nat} {sp : Nat → Nat} {G : State → Prop} {d : Nat} (hG : zz_GF z0 G) (hP : ∀ U, G U → zz_GD zS zS2 zLg z0 sp U) {w : zz_W} {p0 : Int32} : zz_B l zTs D zcl zFK cy z0 sp (zTys cy) G "ToolMillLaw" "mean" 4 method_22_code d (0, [(0, .ref 0), (1, .int p0), (2, .ref 328)], [], w) (4, [(0, .ref 0), (1, .int p0), (2, .ref 328)], [.int p0, .ref 0, .int (Int32.ofNat 0), .ref 328], w) := by
  have T := zt_819 (l := l) (D := D) (cy := cy) (z0 := z0) (sp := sp) (G := G) (d := d) zz_k0_KS hG hP
  have b := zz_B_rf (l := l) (Ts := zTs) (D := D) (cl := zcl) (fk := zFK) (cy := cy) (z0 := z0) (sp := sp) (tys := zTys cy) (G := G) (own := "ToolMillLaw") (mn := "mean") (nL := 4) (cc := method_22_code) (d := d) ((0, [(0, .ref 0), (1, .int p0), (2, .ref 328)], [], w) : zz_F)
  replace b := zz_fw b T (rfl : zz_ent zP_819 0 = (0, za_aload 2 1)) (ze_aload rfl)
  replace b := zz_fw b T (rfl : zz_ent zP_819 1 = (0, za_const (.int (Int32.ofNat 0)) 2)) (ze_const)
  replace b := zz_fw b T (rfl : zz_ent zP_819 2 = (0, za_aload 0 3)) (ze_aload rfl)
  replace b := zz_fw b T (rfl : zz_ent zP_819 3 = (0, za_iload 1 4)) (ze_iload rfl)
  exact b
theorem zHr_819 {l : Launch} {D : va_G} {cy : Nat → ClassId} {z0 : Nat} {sp : Nat → Nat} {G : State → Prop} {d : Nat} (hG : zz_GF z0 G) (hP : ∀ U, G U → zz_GD zS zS2 zLg z0 sp U) {p0 : Int32} {w w' : zz_W} {a : Int32} {N : Nat} (hs : zz_sh w') (hN : zz_has w' 328 (1, 3, 1, N)) (h0 : zz_ic w 0 1 = true) (hM : zz_M l zTs D zcl zFK cy z0 sp (zTys cy) G zYN zCN zMQ zRT d 21 [.ref 0, .int p0] w [.int a] w') : zz_MH l zTs D zcl zFK cy z0 sp (zTys cy) G zy_819 method_22_code 4 (some .int) [(0, 9, 12, 25), (0, 9, 15, 13)] (d + 1) [.ref 0, .int p0, .ref 328] w [.int (Int32.ofNat 0)] (zWo w' N a) := by
  have T := zt_819 (l := l) (D := D) (cy := cy) (z0 := z0) (sp := sp) (G := G) (d := d) zz_k0_KS hG hP
  have TK := fun (K : zz_K) (h : zz_KS l D zcl zFK cy z0 sp (zTys cy) G zYN (fun y => Cond.code (zYN y) (zCN y) (zMQ y) (zRT y) :: zTs) d K) => zt_819 h hG hP
  have b := zHc_819 (d := d) (l := l) (D := D) (cy := cy) (sp := sp) (w := w) (p0 := p0) hG hP
  replace b := zz_fVi b TK (rfl : zz_ent zP_819 4 = (0, za_callV 1 21 1 7)) hM rfl rfl h0 (zz_lb rfl)
  replace b := zz_fw b T (rfl : zz_ent zP_819 7 = (0, za_i2l 8)) (ze_i2l rfl)
  replace b := zz_fw b T (rfl : zz_ent zP_819 8 = (0, za_astL 3 9)) (ze_astL hs hN (by decide) (by decide))
  replace b := zz_fw b T (rfl : zz_ent zP_819 9 = (0, za_goto 18)) (ze_goto)
  replace b := zz_fw b T (rfl : zz_ent zP_819 18 = (0, za_const (.int (Int32.ofNat 0)) 19)) (ze_const)
  exact zz_MH_B rfl rfl (by decide +kernel) (zz_lb rfl) (zz_lb rfl) (zz_end_i zd_819_19) b
theorem zHx_819_0 {l : Launch} {D : va_G} {cy : Nat → ClassId} {z0 : Nat} {sp : Nat → Nat} {G : State → Prop} {d : Nat} (hG : zz_GF z0 G) (hP : ∀ U, G U → zz_GD zS zS2 zLg z0 sp U) (hE : ∀ U, G U → zGX z0 U) {p0 : Int32} {w w' : zz_W} (h0 : zz_ic w 0 1 = true) (hM : zz_MX l zTs D zcl zFK cy z0 sp (zTys cy) G zYN zCN zMQ zRT d 21 [.ref 0, .int p0] w "java/lang/IllegalStateException" w') : zz_MH l zTs D zcl zFK cy z0 sp (zTys cy) G zy_819 method_22_code 4 (some .int) [(0, 9, 12, 25), (0, 9, 15, 13)] (d + 1) [.ref 0, .int p0, .ref 328] w [.int (Int32.ofNat 1)] w' :=
  zhx_819_0 (as := [.ref 0, .int p0, .ref 328]) (bs := [.int p0]) (r := [.int (Int32.ofNat 0), .ref 328]) hG hE (zz_lb rfl) (zHc_819 (d := d) (l := l) (D := D) (cy := cy) (sp := sp) (w := w) (p0 := p0) hG hP) hM rfl h0 (zz_lb rfl)
theorem zHx_819_1 {l : Launch} {D : va_G} {cy : Nat → ClassId} {z0 : Nat} {sp : Nat → Nat} {G : State → Prop} {d : Nat} (hG : zz_GF z0 G) (hP : ∀ U, G U → zz_GD zS zS2 zLg z0 sp U) (hE : ∀ U, G U → zGX z0 U) {p0 : Int32} {w w' : zz_W} (h0 : zz_ic w 0 1 = true) (hM : zz_MX l zTs D zcl zFK cy z0 sp (zTys cy) G zYN zCN zMQ zRT d 21 [.ref 0, .int p0] w "java/lang/IllegalArgumentException" w') : zz_MH l zTs D zcl zFK cy z0 sp (zTys cy) G zy_819 method_22_code 4 (some .int) [(0, 9, 12, 25), (0, 9, 15, 13)] (d + 1) [.ref 0, .int p0, .ref 328] w [.int (Int32.ofNat 2)] w' :=
  zhx_819_1 (as := [.ref 0, .int p0, .ref 328]) (bs := [.int p0]) (r := [.int (Int32.ofNat 0), .ref 328]) hG hE (zz_lb rfl) (zHc_819 (d := d) (l := l) (D := D) (cy := cy) (sp := sp) (w := w) (p0 := p0) hG hP) hM rfl h0 (zz_lb rfl)
theorem zHc_820 {l : Launch} {D : va_G} {cy : Nat → ClassId} {z0 : Nat} {sp : Nat → Nat} {G : State → Prop} {d : Nat} (hG : zz_GF z0 G) (hP : ∀ U, G U → zz_GD zS zS2 zLg z0 sp U) {w : zz_W} {p0 : Int32} : zz_B l zTs D zcl zFK cy z0 sp (zTys cy) G "ToolMillLaw" "meant" 4 method_23_code d (0, [(0, .ref 0), (1, .int p0), (2, .ref 328)], [], w) (4, [(0, .ref 0), (1, .int p0), (2, .ref 328)], [.int p0, .ref 0, .int (Int32.ofNat 0), .ref 328], w) := by
  have T := zt_820 (l := l) (D := D) (cy := cy) (z0 := z0) (sp := sp) (G := G) (d := d) zz_k0_KS hG hP
  have b := zz_B_rf (l := l) (Ts := zTs) (D := D) (cl := zcl) (fk := zFK) (cy := cy) (z0 := z0) (sp := sp) (tys := zTys cy) (G := G) (own := "ToolMillLaw") (mn := "meant") (nL := 4) (cc := method_23_code) (d := d) ((0, [(0, .ref 0), (1, .int p0), (2, .ref 328)], [], w) : zz_F)
  replace b := zz_fw b T (rfl : zz_ent zP_820 0 = (0, za_aload 2 1)) (ze_aload rfl)
  replace b := zz_fw b T (rfl : zz_ent zP_820 1 = (0, za_const (.int (Int32.ofNat 0)) 2)) (ze_const)
  replace b := zz_fw b T (rfl : zz_ent zP_820 2 = (0, za_aload 0 3)) (ze_aload rfl)
  replace b := zz_fw b T (rfl : zz_ent zP_820 3 = (0, za_iload 1 4)) (ze_iload rfl)
  exact b
theorem zHr_820 {l : Launch} {D : va_G} {cy : Nat → ClassId} {z0 : Nat} {sp : Nat → Nat} {G : State → Prop} {d : Nat} (hG : zz_GF z0 G) (hP : ∀ U, G U → zz_GD zS zS2 zLg z0 sp U) {p0 : Int32} {w w' : zz_W} {a : Int32} {N : Nat} (hs : zz_sh w') (hN : zz_has w' 328 (1, 3, 1, N)) (h0 : zz_ic w 0 1 = true) (hM : zz_M l zTs D zcl zFK cy z0 sp (zTys cy) G zYN zCN zMQ zRT d 22 [.ref 0, .int p0] w [.int a] w') : zz_MH l zTs D zcl zFK cy z0 sp (zTys cy) G zy_820 method_23_code 4 (some .int) [(0, 9, 12, 25), (0, 9, 15, 13)] (d + 1) [.ref 0, .int p0, .ref 328] w [.int (Int32.ofNat 0)] (zWo w' N a) := by
  have T := zt_820 (l := l) (D := D) (cy := cy) (z0 := z0) (sp := sp) (G := G) (d := d) zz_k0_KS hG hP
  have TK := fun (K : zz_K) (h : zz_KS l D zcl zFK cy z0 sp (zTys cy) G zYN (fun y => Cond.code (zYN y) (zCN y) (zMQ y) (zRT y) :: zTs) d K) => zt_820 h hG hP
  have b := zHc_820 (d := d) (l := l) (D := D) (cy := cy) (sp := sp) (w := w) (p0 := p0) hG hP
  replace b := zz_fVi b TK (rfl : zz_ent zP_820 4 = (0, za_callV 1 22 1 7)) hM rfl rfl h0 (zz_lb rfl)
  replace b := zz_fw b T (rfl : zz_ent zP_820 7 = (0, za_i2l 8)) (ze_i2l rfl)
  replace b := zz_fw b T (rfl : zz_ent zP_820 8 = (0, za_astL 3 9)) (ze_astL hs hN (by decide) (by decide))
  replace b := zz_fw b T (rfl : zz_ent zP_820 9 = (0, za_goto 18)) (ze_goto)
  replace b := zz_fw b T (rfl : zz_ent zP_820 18 = (0, za_const (.int (Int32.ofNat 0)) 19)) (ze_const)
  exact zz_MH_B rfl rfl (by decide +kernel) (zz_lb rfl) (zz_lb rfl) (zz_end_i zd_820_19) b
theorem zHx_820_0 {l : Launch} {D : va_G} {cy : Nat → ClassId} {z0 : Nat} {sp : Nat → Nat} {G : State → Prop} {d : Nat} (hG : zz_GF z0 G) (hP : ∀ U, G U → zz_GD zS zS2 zLg z0 sp U) (hE : ∀ U, G U → zGX z0 U) {p0 : Int32} {w w' : zz_W} (h0 : zz_ic w 0 1 = true) (hM : zz_MX l zTs D zcl zFK cy z0 sp (zTys cy) G zYN zCN zMQ zRT d 22 [.ref 0, .int p0] w "java/lang/IllegalStateException" w') : zz_MH l zTs D zcl zFK cy z0 sp (zTys cy) G zy_820 method_23_code 4 (some .int) [(0, 9, 12, 25), (0, 9, 15, 13)] (d + 1) [.ref 0, .int p0, .ref 328] w [.int (Int32.ofNat 1)] w' :=
  zhx_820_0 (as := [.ref 0, .int p0, .ref 328]) (bs := [.int p0]) (r := [.int (Int32.ofNat 0), .ref 328]) hG hE (zz_lb rfl) (zHc_820 (d := d) (l := l) (D := D) (cy := cy) (sp := sp) (w := w) (p0 := p0) hG hP) hM rfl h0 (zz_lb rfl)
theorem zHx_820_1 {l : Launch} {D : va_G} {cy : Nat → ClassId} {z0 : Nat} {sp : Nat → Nat} {G : State → Prop} {d : Nat} (hG : zz_GF z0 G) (hP : ∀ U, G U → zz_GD zS zS2 zLg z0 sp U) (hE : ∀ U, G U → zGX z0 U) {p0 : Int32} {w w' : zz_W} (h0 : zz_ic w 0 1 = true) (hM : zz_MX l zTs D zcl zFK cy z0 sp (zTys cy) G zYN zCN zMQ zRT d 22 [.ref 0, .int p0] w "java/lang/IllegalArgumentException" w') : zz_MH l zTs D zcl zFK cy z0 sp (zTys cy) G zy_820 method_23_code 4 (some .int) [(0, 9, 12, 25), (0, 9, 15, 13)] (d + 1) [.ref 0, .int p0, .ref 328] w [.int (Int32.ofNat 2)] w' :=
  zhx_820_1 (as := [.ref 0, .int p0, .ref 328]) (bs := [.int p0]) (r := [.int (Int32.ofNat 0), .ref 328]) hG hE (zz_lb rfl) (zHc_820 (d := d) (l := l) (D := D) (cy := cy) (sp := sp) (w := w) (p0 := p0) hG hP) hM rfl h0 (zz_lb rfl)
theorem zHc_821 {l : Launch} {D : va_G} {cy : Nat → ClassId} {z0 : Nat} {sp : Nat → Nat} {G : State → Prop} {d : Nat} (hG : zz_GF z0 G) (hP : ∀ U, G U → zz_GD zS zS2 zLg z0 sp U) {w : zz_W} {p0 : Int32} : zz_B l zTs D zcl zFK cy z0 sp (zTys cy) G "ToolMillLaw" "said" 4 method_24_code d (0, [(0, .ref 0), (1, .int p0), (2, .ref 328)], [], w) (4, [(0, .ref 0), (1, .int p0), (2, .ref 328)], [.int p0, .ref 0, .int (Int32.ofNat 0), .ref 328], w) := by
  have T := zt_821 (l := l) (D := D) (cy := cy) (z0 := z0) (sp := sp) (G := G) (d := d) zz_k0_KS hG hP
  have b := zz_B_rf (l := l) (Ts := zTs) (D := D) (cl := zcl) (fk := zFK) (cy := cy) (z0 := z0) (sp := sp) (tys := zTys cy) (G := G) (own := "ToolMillLaw") (mn := "said") (nL := 4) (cc := method_24_code) (d := d) ((0, [(0, .ref 0), (1, .int p0), (2, .ref 328)], [], w) : zz_F)
  replace b := zz_fw b T (rfl : zz_ent zP_821 0 = (0, za_aload 2 1)) (ze_aload rfl)
  replace b := zz_fw b T (rfl : zz_ent zP_821 1 = (0, za_const (.int (Int32.ofNat 0)) 2)) (ze_const)
  replace b := zz_fw b T (rfl : zz_ent zP_821 2 = (0, za_aload 0 3)) (ze_aload rfl)
  replace b := zz_fw b T (rfl : zz_ent zP_821 3 = (0, za_iload 1 4)) (ze_iload rfl)
  exact b
theorem zHr_821 {l : Launch} {D : va_G} {cy : Nat → ClassId} {z0 : Nat} {sp : Nat → Nat} {G : State → Prop} {d : Nat} (hG : zz_GF z0 G) (hP : ∀ U, G U → zz_GD zS zS2 zLg z0 sp U) {p0 : Int32} {w w' : zz_W} {a : Int32} {N : Nat} (hs : zz_sh w') (hN : zz_has w' 328 (1, 3, 1, N)) (h0 : zz_ic w 0 1 = true) (hM : zz_M l zTs D zcl zFK cy z0 sp (zTys cy) G zYN zCN zMQ zRT d 23 [.ref 0, .int p0] w [.int a] w') : zz_MH l zTs D zcl zFK cy z0 sp (zTys cy) G zy_821 method_24_code 4 (some .int) [(0, 9, 12, 25), (0, 9, 15, 73)] (d + 1) [.ref 0, .int p0, .ref 328] w [.int (Int32.ofNat 0)] (zWo w' N a) := by
  have T := zt_821 (l := l) (D := D) (cy := cy) (z0 := z0) (sp := sp) (G := G) (d := d) zz_k0_KS hG hP
  have TK := fun (K : zz_K) (h : zz_KS l D zcl zFK cy z0 sp (zTys cy) G zYN (fun y => Cond.code (zYN y) (zCN y) (zMQ y) (zRT y) :: zTs) d K) => zt_821 h hG hP
  have b := zHc_821 (d := d) (l := l) (D := D) (cy := cy) (sp := sp) (w := w) (p0 := p0) hG hP
  replace b := zz_fVi b TK (rfl : zz_ent zP_821 4 = (0, za_callV 1 23 1 7)) hM rfl rfl h0 (zz_lb rfl)
  replace b := zz_fw b T (rfl : zz_ent zP_821 7 = (0, za_i2l 8)) (ze_i2l rfl)
  replace b := zz_fw b T (rfl : zz_ent zP_821 8 = (0, za_astL 3 9)) (ze_astL hs hN (by decide) (by decide))
  replace b := zz_fw b T (rfl : zz_ent zP_821 9 = (0, za_goto 18)) (ze_goto)
  replace b := zz_fw b T (rfl : zz_ent zP_821 18 = (0, za_const (.int (Int32.ofNat 0)) 19)) (ze_const)
  exact zz_MH_B rfl rfl (by decide +kernel) (zz_lb rfl) (zz_lb rfl) (zz_end_i zd_821_19) b
theorem zHx_821_0 {l : Launch} {D : va_G} {cy : Nat → ClassId} {z0 : Nat} {sp : Nat → Nat} {G : State → Prop} {d : Nat} (hG : zz_GF z0 G) (hP : ∀ U, G U → zz_GD zS zS2 zLg z0 sp U) (hE : ∀ U, G U → zGX z0 U) {p0 : Int32} {w w' : zz_W} (h0 : zz_ic w 0 1 = true) (hM : zz_MX l zTs D zcl zFK cy z0 sp (zTys cy) G zYN zCN zMQ zRT d 23 [.ref 0, .int p0] w "java/lang/IllegalStateException" w') : zz_MH l zTs D zcl zFK cy z0 sp (zTys cy) G zy_821 method_24_code 4 (some .int) [(0, 9, 12, 25), (0, 9, 15, 73)] (d + 1) [.ref 0, .int p0, .ref 328] w [.int (Int32.ofNat 1)] w' :=
  zhx_821_0 (as := [.ref 0, .int p0, .ref 328]) (bs := [.int p0]) (r := [.int (Int32.ofNat 0), .ref 328]) hG hE (zz_lb rfl) (zHc_821 (d := d) (l := l) (D := D) (cy := cy) (sp := sp) (w := w) (p0 := p0) hG hP) hM rfl h0 (zz_lb rfl)
theorem zHx_821_1 {l : Launch} {D : va_G} {cy : Nat → ClassId} {z0 : Nat} {sp : Nat → Nat} {G : State → Prop} {d : Nat} (hG : zz_GF z0 G) (hP : ∀ U, G U → zz_GD zS zS2 zLg z0 sp U) (hE : ∀ U, G U → zGX z0 U) {p0 : Int32} {w w' : zz_W} (h0 : zz_ic w 0 1 = true) (hM : zz_MX l zTs D zcl zFK cy z0 sp (zTys cy) G zYN zCN zMQ zRT d 23 [.ref 0, .int p0] w "java/lang/IndexOutOfBoundsException" w') : zz_MH l zTs D zcl zFK cy z0 sp (zTys cy) G zy_821 method_24_code 4 (some .int) [(0, 9, 12, 25), (0, 9, 15, 73)] (d + 1) [.ref 0, .int p0, .ref 328] w [.int (Int32.ofNat 2)] w' :=
  zhx_821_1 (as := [.ref 0, .int p0, .ref 328]) (bs := [.int p0]) (r := [.int (Int32.ofNat 0), .ref 328]) hG hE (zz_lb rfl) (zHc_821 (d := d) (l := l) (D := D) (cy := cy) (sp := sp) (w := w) (p0 := p0) hG hP) hM rfl h0 (zz_lb rfl)
theorem zMx_3_61 {l : Launch} {D : va_G} {cy : Nat → ClassId} {z0 : Nat} {sp : Nat → Nat} {G : State → Prop} (hG : zz_GF z0 G) (hP : ∀ U, G U → zz_GD zS zS2 zLg z0 sp U) {w : zz_W} (h0 : zz_ic w 0 1 = true)  (E : String) (w' : zz_W) (hM : zz_MX l zTs D zcl zFK cy z0 sp (zTys cy) G zYN zCN zMQ zRT 468 61 ([.ref 0].take 1) w E w') : zz_MX l zTs D zcl zFK cy z0 sp (zTys cy) G zYN zCN zMQ zRT 469 3 [.ref 0] w E w' := by
  have T : zz_TO l zTs D zcl zFK cy z0 sp (zTys cy) G "ToolMill" "source" 5 prog_1_method_4_code 468 zz_k0 zP_3 := zP_s zz_k0_KS hG hP 3 (by decide) (Or.inl (by decide))
  have b := zz_B_rf (l := l) (Ts := zTs) (D := D) (cl := zcl) (fk := zFK) (cy := cy) (z0 := z0) (sp := sp) (tys := zTys cy) (G := G) (own := "ToolMill") (mn := "source") (nL := 5) (cc := prog_1_method_4_code) (d := 468) ((0, lv_args 0 [.ref 0], [], w) : zz_F)
  replace b := zz_fw b T (rfl : zz_ent zP_3 0 = (0, za_aload 0 1)) (ze_aload rfl)
  exact zz_MX_B rfl rfl rfl rfl (by decide +kernel) (zz_lb rfl) (zz_TX_B b (zxc_3_1 (as := []) (r := []) hG hM rfl h0 (zz_lb rfl)))
theorem zCm_3 {l : Launch} {D : va_G} {cy : Nat → ClassId} {z0 : Nat} {sp : Nat → Nat} {G : State → Prop} (H : zHy l D cy z0 sp G) {n : Nat} (hn : n ≤ 511) {w : zz_W} (h : zIv zQI n 0 w)  : ∃ rv w', zRl l D cy z0 sp G 469 3 [("java/lang/IllegalStateException", 15)] [.ref 0] w rv w' ∧ zIv zQM n 0 w' := by
  obtain ⟨hG, hP, hW, hsp0, hWk, hTX, hl, hE⟩ := H
  have hw : w.1 < 16 * 64 := by have := h.2.2.1; omega
  have h0 := zI_ic0 (zIv_I h)
  exact zCl_gen hn h [] (Nat.le_of_ble_eq_true rfl) zXk_c3 zXm_c3 rfl rfl (Rl := zRl l D cy z0 sp G 469 3 [("java/lang/IllegalStateException", 15)] [.ref 0] w) (List.forall_mem_cons.mpr ⟨zPP_co (zCon_3 hG hP hW hsp0 hWk) rfl (by decide +kernel) rfl, List.forall_mem_cons.mpr ⟨zPP_co (zCon_3_1 hG hP hW hsp0 hWk) rfl (by decide +kernel) rfl, List.forall_mem_cons.mpr ⟨zPP_co (zCon_3_2 hG hP hW hsp0 hWk) rfl (by decide +kernel) rfl, List.forall_mem_cons.mpr ⟨zPP_co (zCon_3_3 hG hP hW hsp0 hWk) rfl (by decide +kernel) rfl, List.forall_mem_cons.mpr ⟨zPP_co (zCon_3_4 hG hP hW hsp0 hWk) rfl (by decide +kernel) rfl, List.forall_mem_cons.mpr ⟨zPP_co (zCon_3_5 hG hP hW hsp0 hWk) rfl (by decide +kernel) rfl, List.forall_mem_cons.mpr ⟨zPP_th (zPX_61_x0 hG hP hW hsp0 hWk hTX) rfl (by decide) (by decide +kernel) hw (zMx_3_61 hG hP h0), (fun _ h => absurd h List.not_mem_nil)⟩⟩⟩⟩⟩⟩⟩)
theorem zHk_3 {l : Launch} {D : va_G} {cy : Nat → ClassId} {z0 : Nat} {sp : Nat → Nat} {G : State → Prop} (H : zHy l D cy z0 sp G) {n : Nat} (hn : n ≤ 511) {w : zz_W} (h : zIv zQI n 0 w)  : ∃ r w', zz_MH l zTs D zcl zFK cy z0 sp (zTys cy) G zy_802 method_5_code 3 (some .int) [(0, 8, 11, 25)] 470 [.ref 0, .ref 328] w [.int r] w' ∧ zIv zQM n 1 w' := by
  have h0 := zI_ic0 (zIv_I h)
  obtain ⟨rv, w', hR, hI⟩ := zCm_3 H hn h 
  obtain ⟨hG, hP, -, -, -, -, -, hE⟩ := H
  rcases hR with ⟨a, rfl, hM⟩ | ⟨rfl, x, hx, hM⟩
  · obtain ⟨N, hN⟩ := zI_328 (zIv_I hI)
    exact ⟨_, _, zHr_802 hG hP (zIv_I hI).1 hN h0 hM, zIv_1 (zIv_up zQM_w9 hI (by omega))⟩
  · rcases List.mem_cons.mp hx with e | hx
    · subst e
      exact ⟨_, _, zHx_802_0 hG hP hE h0 hM, zIv_pu zQM_ok hI (by omega)⟩
    · skip
      exact absurd hx List.not_mem_nil
theorem zMx_4_61 {l : Launch} {D : va_G} {cy : Nat → ClassId} {z0 : Nat} {sp : Nat → Nat} {G : State → Prop} (hG : zz_GF z0 G) (hP : ∀ U, G U → zz_GD zS zS2 zLg z0 sp U) {w : zz_W} (h0 : zz_ic w 0 1 = true)  (E : String) (w' : zz_W) (hM : zz_MX l zTs D zcl zFK cy z0 sp (zTys cy) G zYN zCN zMQ zRT 468 61 ([.ref 0].take 1) w E w') : zz_MX l zTs D zcl zFK cy z0 sp (zTys cy) G zYN zCN zMQ zRT 469 4 [.ref 0] w E w' := by
  have T : zz_TO l zTs D zcl zFK cy z0 sp (zTys cy) G "ToolMill" "assemble" 2 prog_1_method_5_code 468 zz_k0 zP_4 := zP_s zz_k0_KS hG hP 4 (by decide) (Or.inl (by decide))
  have b := zz_B_rf (l := l) (Ts := zTs) (D := D) (cl := zcl) (fk := zFK) (cy := cy) (z0 := z0) (sp := sp) (tys := zTys cy) (G := G) (own := "ToolMill") (mn := "assemble") (nL := 2) (cc := prog_1_method_5_code) (d := 468) ((0, lv_args 0 [.ref 0], [], w) : zz_F)
  replace b := zz_fw b T (rfl : zz_ent zP_4 0 = (0, za_aload 0 1)) (ze_aload rfl)
  exact zz_MX_B rfl rfl rfl rfl (by decide +kernel) (zz_lb rfl) (zz_TX_B b (zxc_4_1 (as := []) (r := []) hG hM rfl h0 (zz_lb rfl)))
theorem zCm_4 {l : Launch} {D : va_G} {cy : Nat → ClassId} {z0 : Nat} {sp : Nat → Nat} {G : State → Prop} (H : zHy l D cy z0 sp G) {n : Nat} (hn : n ≤ 511) {w : zz_W} (h : zIv zQI n 0 w)  : ∃ rv w', zRl l D cy z0 sp G 469 4 [("java/lang/IllegalStateException", 15)] [.ref 0] w rv w' ∧ zIv zQM n 0 w' := by
  obtain ⟨hG, hP, hW, hsp0, hWk, hTX, hl, hE⟩ := H
  have hw : w.1 < 16 * 64 := by have := h.2.2.1; omega
  have h0 := zI_ic0 (zIv_I h)
  exact zCl_gen hn h [] (Nat.le_of_ble_eq_true rfl) zXk_c4 zXm_c4 rfl rfl (Rl := zRl l D cy z0 sp G 469 4 [("java/lang/IllegalStateException", 15)] [.ref 0] w) (List.forall_mem_cons.mpr ⟨zPP_co (zCon_4 hG hP hW hsp0 hWk) rfl (by decide +kernel) rfl, List.forall_mem_cons.mpr ⟨zPP_co (zCon_4_1 hG hP hW hsp0 hWk) rfl (by decide +kernel) rfl, List.forall_mem_cons.mpr ⟨zPP_co (zCon_4_2 hG hP hW hsp0 hWk) rfl (by decide +kernel) rfl, List.forall_mem_cons.mpr ⟨zPP_co (zCon_4_3 hG hP hW hsp0 hWk) rfl (by decide +kernel) rfl, List.forall_mem_cons.mpr ⟨zPP_co (zCon_4_4 hG hP hW hsp0 hWk) rfl (by decide +kernel) rfl, List.forall_mem_cons.mpr ⟨zPP_co (zCon_4_5 hG hP hW hsp0 hWk) rfl (by decide +kernel) rfl, List.forall_mem_cons.mpr ⟨zPP_th (zPX_61_x0 hG hP hW hsp0 hWk hTX) rfl (by decide) (by decide +kernel) hw (zMx_4_61 hG hP h0), (fun _ h => absurd h List.not_mem_nil)⟩⟩⟩⟩⟩⟩⟩)
theorem zHk_4 {l : Launch} {D : va_G} {cy : Nat → ClassId} {z0 : Nat} {sp : Nat → Nat} {G : State → Prop} (H : zHy l D cy z0 sp G) {n : Nat} (hn : n ≤ 511) {w : zz_W} (h : zIv zQI n 0 w)  : ∃ r w', zz_MH l zTs D zcl zFK cy z0 sp (zTys cy) G zy_803 method_6_code 3 (some .int) [(0, 8, 11, 25)] 470 [.ref 0, .ref 328] w [.int r] w' ∧ zIv zQM n 1 w' := by
  have h0 := zI_ic0 (zIv_I h)
  obtain ⟨rv, w', hR, hI⟩ := zCm_4 H hn h 
  obtain ⟨hG, hP, -, -, -, -, -, hE⟩ := H
  rcases hR with ⟨a, rfl, hM⟩ | ⟨rfl, x, hx, hM⟩
  · obtain ⟨N, hN⟩ := zI_328 (zIv_I hI)
    exact ⟨_, _, zHr_803 hG hP (zIv_I hI).1 hN h0 hM, zIv_1 (zIv_up zQM_w9 hI (by omega))⟩
  · rcases List.mem_cons.mp hx with e | hx
    · subst e
      exact ⟨_, _, zHx_803_0 hG hP hE h0 hM, zIv_pu zQM_ok hI (by omega)⟩
    · skip
      exact absurd hx List.not_mem_nil
theorem zCm_6 {l : Launch} {D : va_G} {cy : Nat → ClassId} {z0 : Nat} {sp : Nat → Nat} {G : State → Prop} (H : zHy l D cy z0 sp G) {n : Nat} (hn : n ≤ 511) {w : zz_W} (h : zIv zQI n 0 w) (p0 : Int32) : ∃ rv w', zRl l D cy z0 sp G 469 6 [("java/lang/IllegalArgumentException", 14)] [.ref 0, .int p0] w rv w' ∧ zIv zQM n 0 w' := by
  obtain ⟨hG, hP, hW, hsp0, hWk, hTX, hl, hE⟩ := H
  have hw : w.1 < 16 * 64 := by have := h.2.2.1; omega
  have h0 := zI_ic0 (zIv_I h)
  exact zCl_gen hn h [p0] (Nat.le_of_ble_eq_true rfl) zXk_c6 zXm_c6 rfl rfl (Rl := zRl l D cy z0 sp G 469 6 [("java/lang/IllegalArgumentException", 14)] [.ref 0, .int p0] w) (List.forall_mem_cons.mpr ⟨zPP_px (zk_liftP zHX_ok (by decide +kernel) (zPX_6_x0 hG hP hW hTX)) rfl (by decide) (by decide +kernel) rfl rfl hw, (fun _ h => absurd h List.not_mem_nil)⟩)
theorem zHk_6 {l : Launch} {D : va_G} {cy : Nat → ClassId} {z0 : Nat} {sp : Nat → Nat} {G : State → Prop} (H : zHy l D cy z0 sp G) {n : Nat} (hn : n ≤ 511) {w : zz_W} (h : zIv zQI n 0 w) (p0 : Int32) : ∃ r w', zz_MH l zTs D zcl zFK cy z0 sp (zTys cy) G zy_804 method_7_code 4 (some .int) [(0, 9, 12, 13)] 470 [.ref 0, .int p0, .ref 328] w [.int r] w' ∧ zIv zQM n 1 w' := by
  have h0 := zI_ic0 (zIv_I h)
  obtain ⟨rv, w', hR, hI⟩ := zCm_6 H hn h p0
  obtain ⟨hG, hP, -, -, -, -, -, hE⟩ := H
  rcases hR with ⟨a, rfl, hM⟩ | ⟨rfl, x, hx, hM⟩
  · obtain ⟨N, hN⟩ := zI_328 (zIv_I hI)
    exact ⟨_, _, zHr_804 hG hP (zIv_I hI).1 hN h0 hM, zIv_1 (zIv_up zQM_w9 hI (by omega))⟩
  · rcases List.mem_cons.mp hx with e | hx
    · subst e
      exact ⟨_, _, zHx_804_0 hG hP hE h0 hM, zIv_pu zQM_ok hI (by omega)⟩
    · skip
      exact absurd hx List.not_mem_nil
theorem zMx_7_65 {l : Launch} {D : va_G} {cy : Nat → ClassId} {z0 : Nat} {sp : Nat → Nat} {G : State → Prop} (hG : zz_GF z0 G) (hP : ∀ U, G U → zz_GD zS zS2 zLg z0 sp U) {w : zz_W} (h0 : zz_ic w 0 1 = true) {p0 : Int32} {p1 : Int32} (E : String) (w' : zz_W) (hM : zz_MX l zTs D zcl zFK cy z0 sp (zTys cy) G zYN zCN zMQ zRT 468 65 ([.ref 0, .int p0, .int p1].take 2) w E w') : zz_MX l zTs D zcl zFK cy z0 sp (zTys cy) G zYN zCN zMQ zRT 469 7 [.ref 0, .int p0, .int p1] w E w' := by
  have T : zz_TO l zTs D zcl zFK cy z0 sp (zTys cy) G "ToolMill" "typed" 4 prog_1_method_8_code 468 zz_k0 zP_7 := zP_s zz_k0_KS hG hP 7 (by decide) (Or.inl (by decide))
  have b := zz_B_rf (l := l) (Ts := zTs) (D := D) (cl := zcl) (fk := zFK) (cy := cy) (z0 := z0) (sp := sp) (tys := zTys cy) (G := G) (own := "ToolMill") (mn := "typed") (nL := 4) (cc := prog_1_method_8_code) (d := 468) ((0, lv_args 0 [.ref 0, .int p0, .int p1], [], w) : zz_F)
  replace b := zz_fw b T (rfl : zz_ent zP_7 0 = (0, za_aload 0 1)) (ze_aload rfl)
  replace b := zz_fw b T (rfl : zz_ent zP_7 1 = (0, za_iload 1 2)) (ze_iload rfl)
  exact zz_MX_B rfl rfl rfl rfl (by decide +kernel) (zz_lb rfl) (zz_TX_B b (zxc_7_2 (as := [.int p0]) (r := []) hG hM rfl h0 (zz_lb rfl)))
theorem zCm_7 {l : Launch} {D : va_G} {cy : Nat → ClassId} {z0 : Nat} {sp : Nat → Nat} {G : State → Prop} (H : zHy l D cy z0 sp G) {n : Nat} (hn : n ≤ 511) {w : zz_W} (h : zIv zQI n 0 w) (p0 : Int32) (p1 : Int32) : ∃ rv w', zRl l D cy z0 sp G 469 7 [("java/util/NoSuchElementException", 16)] [.ref 0, .int p0, .int p1] w rv w' ∧ zIv zQM n 0 w' := by
  obtain ⟨hG, hP, hW, hsp0, hWk, hTX, hl, hE⟩ := H
  have hw : w.1 < 16 * 64 := by have := h.2.2.1; omega
  have h0 := zI_ic0 (zIv_I h)
  exact zCl_gen hn h [p0, p1] (Nat.le_of_ble_eq_true rfl) zXk_c7 zXm_c7 rfl rfl (Rl := zRl l D cy z0 sp G 469 7 [("java/util/NoSuchElementException", 16)] [.ref 0, .int p0, .int p1] w) (List.forall_mem_cons.mpr ⟨zPP_px (zPX_7_x0 hG hP hW hsp0 hWk hTX) rfl (by decide) (by decide +kernel) rfl rfl hw, List.forall_mem_cons.mpr ⟨zPP_px (zPX_7_x1 hG hP hW hsp0 hWk hTX) rfl (by decide) (by decide +kernel) rfl rfl hw, List.forall_mem_cons.mpr ⟨zPP_th (zPX_65_x0 hG hP hW hsp0 hWk hTX) rfl (by decide) (by decide +kernel) hw (zMx_7_65 hG hP h0), List.forall_mem_cons.mpr ⟨zPP_th (zPX_65_x1 hG hP hW hsp0 hWk hTX) rfl (by decide) (by decide +kernel) hw (zMx_7_65 hG hP h0), List.forall_mem_cons.mpr ⟨zPP_th (zPX_65_x2 hG hP hW hsp0 hWk hTX) rfl (by decide) (by decide +kernel) hw (zMx_7_65 hG hP h0), (fun _ h => absurd h List.not_mem_nil)⟩⟩⟩⟩⟩)
theorem zHk_7 {l : Launch} {D : va_G} {cy : Nat → ClassId} {z0 : Nat} {sp : Nat → Nat} {G : State → Prop} (H : zHy l D cy z0 sp G) {n : Nat} (hn : n ≤ 511) {w : zz_W} (h : zIv zQI n 0 w) (p0 : Int32) (p1 : Int32) : ∃ r w', zz_MH l zTs D zcl zFK cy z0 sp (zTys cy) G zy_805 method_8_code 5 (some .int) [(0, 10, 13, 37)] 470 [.ref 0, .int p0, .int p1, .ref 328] w [.int r] w' ∧ zIv zQM n 1 w' := by
  have h0 := zI_ic0 (zIv_I h)
  obtain ⟨rv, w', hR, hI⟩ := zCm_7 H hn h p0 p1
  obtain ⟨hG, hP, -, -, -, -, -, hE⟩ := H
  rcases hR with ⟨a, rfl, hM⟩ | ⟨rfl, x, hx, hM⟩
  · obtain ⟨N, hN⟩ := zI_328 (zIv_I hI)
    exact ⟨_, _, zHr_805 hG hP (zIv_I hI).1 hN h0 hM, zIv_1 (zIv_up zQM_w9 hI (by omega))⟩
  · rcases List.mem_cons.mp hx with e | hx
    · subst e
      exact ⟨_, _, zHx_805_0 hG hP hE h0 hM, zIv_pu zQM_ok hI (by omega)⟩
    · skip
      exact absurd hx List.not_mem_nil
theorem zMx_8_65 {l : Launch} {D : va_G} {cy : Nat → ClassId} {z0 : Nat} {sp : Nat → Nat} {G : State → Prop} (hG : zz_GF z0 G) (hP : ∀ U, G U → zz_GD zS zS2 zLg z0 sp U) {w : zz_W} (h0 : zz_ic w 0 1 = true) {p0 : Int32} {p1 : Int32} (E : String) (w' : zz_W) (hM : zz_MX l zTs D zcl zFK cy z0 sp (zTys cy) G zYN zCN zMQ zRT 468 65 ([.ref 0, .int p0, .int p1].take 2) w E w') : zz_MX l zTs D zcl zFK cy z0 sp (zTys cy) G zYN zCN zMQ zRT 469 8 [.ref 0, .int p0, .int p1] w E w' := by
  have T : zz_TO l zTs D zcl zFK cy z0 sp (zTys cy) G "ToolMill" "unit" 4 prog_1_method_9_code 468 zz_k0 zP_8 := zP_s zz_k0_KS hG hP 8 (by decide) (Or.inl (by decide))
  have b := zz_B_rf (l := l) (Ts := zTs) (D := D) (cl := zcl) (fk := zFK) (cy := cy) (z0 := z0) (sp := sp) (tys := zTys cy) (G := G) (own := "ToolMill") (mn := "unit") (nL := 4) (cc := prog_1_method_9_code) (d := 468) ((0, lv_args 0 [.ref 0, .int p0, .int p1], [], w) : zz_F)
  replace b := zz_fw b T (rfl : zz_ent zP_8 0 = (0, za_aload 0 1)) (ze_aload rfl)
  replace b := zz_fw b T (rfl : zz_ent zP_8 1 = (0, za_iload 1 2)) (ze_iload rfl)
  exact zz_MX_B rfl rfl rfl rfl (by decide +kernel) (zz_lb rfl) (zz_TX_B b (zxc_8_2 (as := [.int p0]) (r := []) hG hM rfl h0 (zz_lb rfl)))
theorem zCm_8 {l : Launch} {D : va_G} {cy : Nat → ClassId} {z0 : Nat} {sp : Nat → Nat} {G : State → Prop} (H : zHy l D cy z0 sp G) {n : Nat} (hn : n ≤ 511) {w : zz_W} (h : zIv zQI n 0 w) (p0 : Int32) (p1 : Int32) : ∃ rv w', zRl l D cy z0 sp G 469 8 [("java/lang/IllegalArgumentException", 14), ("java/util/NoSuchElementException", 16)] [.ref 0, .int p0, .int p1] w rv w' ∧ zIv zQM n 0 w' := by
  obtain ⟨hG, hP, hW, hsp0, hWk, hTX, hl, hE⟩ := H
  have hw : w.1 < 16 * 64 := by have := h.2.2.1; omega
  have h0 := zI_ic0 (zIv_I h)
  exact zCl_gen hn h [p0, p1] (Nat.le_of_ble_eq_true rfl) zXk_c8 zXm_c8 rfl rfl (Rl := zRl l D cy z0 sp G 469 8 [("java/lang/IllegalArgumentException", 14), ("java/util/NoSuchElementException", 16)] [.ref 0, .int p0, .int p1] w) (List.forall_mem_cons.mpr ⟨zPP_px (zPX_8_x0 hG hP hW hsp0 hWk hTX) rfl (by decide) (by decide +kernel) rfl rfl hw, List.forall_mem_cons.mpr ⟨zPP_px (zPX_8_x1 hG hP hW hsp0 hWk hTX) rfl (by decide) (by decide +kernel) rfl rfl hw, List.forall_mem_cons.mpr ⟨zPP_th (zPX_65_x0 hG hP hW hsp0 hWk hTX) rfl (by decide) (by decide +kernel) hw (zMx_8_65 hG hP h0), List.forall_mem_cons.mpr ⟨zPP_th (zPX_65_x1 hG hP hW hsp0 hWk hTX) rfl (by decide) (by decide +kernel) hw (zMx_8_65 hG hP h0), List.forall_mem_cons.mpr ⟨zPP_th (zPX_65_x2 hG hP hW hsp0 hWk hTX) rfl (by decide) (by decide +kernel) hw (zMx_8_65 hG hP h0), (fun _ h => absurd h List.not_mem_nil)⟩⟩⟩⟩⟩)
theorem zHk_8 {l : Launch} {D : va_G} {cy : Nat → ClassId} {z0 : Nat} {sp : Nat → Nat} {G : State → Prop} (H : zHy l D cy z0 sp G) {n : Nat} (hn : n ≤ 511) {w : zz_W} (h : zIv zQI n 0 w) (p0 : Int32) (p1 : Int32) : ∃ r w', zz_MH l zTs D zcl zFK cy z0 sp (zTys cy) G zy_806 method_9_code 5 (some .int) [(0, 10, 13, 37), (0, 10, 17, 13)] 470 [.ref 0, .int p0, .int p1, .ref 328] w [.int r] w' ∧ zIv zQM n 1 w' := by
  have h0 := zI_ic0 (zIv_I h)
  obtain ⟨rv, w', hR, hI⟩ := zCm_8 H hn h p0 p1
  obtain ⟨hG, hP, -, -, -, -, -, hE⟩ := H
  rcases hR with ⟨a, rfl, hM⟩ | ⟨rfl, x, hx, hM⟩
  · obtain ⟨N, hN⟩ := zI_328 (zIv_I hI)
    exact ⟨_, _, zHr_806 hG hP (zIv_I hI).1 hN h0 hM, zIv_1 (zIv_up zQM_w9 hI (by omega))⟩
  · rcases List.mem_cons.mp hx with e | hx
    · subst e
      exact ⟨_, _, zHx_806_1 hG hP hE h0 hM, zIv_pu zQM_ok hI (by omega)⟩
    · skip
      rcases List.mem_cons.mp hx with e | hx
      · subst e
        exact ⟨_, _, zHx_806_0 hG hP hE h0 hM, zIv_pu zQM_ok hI (by omega)⟩
      · skip
        exact absurd hx List.not_mem_nil
theorem zMx_9_65 {l : Launch} {D : va_G} {cy : Nat → ClassId} {z0 : Nat} {sp : Nat → Nat} {G : State → Prop} (hG : zz_GF z0 G) (hP : ∀ U, G U → zz_GD zS zS2 zLg z0 sp U) {w : zz_W} (h0 : zz_ic w 0 1 = true) {p0 : Int32} {p1 : Int32} {p2 : Int32} (E : String) (w' : zz_W) (hM : zz_MX l zTs D zcl zFK cy z0 sp (zTys cy) G zYN zCN zMQ zRT 468 65 ([.ref 0, .int p0, .int p1, .int p2].take 2) w E w') : zz_MX l zTs D zcl zFK cy z0 sp (zTys cy) G zYN zCN zMQ zRT 469 9 [.ref 0, .int p0, .int p1, .int p2] w E w' := by
  have T : zz_TO l zTs D zcl zFK cy z0 sp (zTys cy) G "ToolMill" "section" 6 prog_1_method_10_code 468 zz_k0 zP_9 := zP_s zz_k0_KS hG hP 9 (by decide) (Or.inl (by decide))
  have b := zz_B_rf (l := l) (Ts := zTs) (D := D) (cl := zcl) (fk := zFK) (cy := cy) (z0 := z0) (sp := sp) (tys := zTys cy) (G := G) (own := "ToolMill") (mn := "section") (nL := 6) (cc := prog_1_method_10_code) (d := 468) ((0, lv_args 0 [.ref 0, .int p0, .int p1, .int p2], [], w) : zz_F)
  replace b := zz_fw b T (rfl : zz_ent zP_9 0 = (0, za_aload 0 1)) (ze_aload rfl)
  replace b := zz_fw b T (rfl : zz_ent zP_9 1 = (0, za_iload 1 2)) (ze_iload rfl)
  exact zz_MX_B rfl rfl rfl rfl (by decide +kernel) (zz_lb rfl) (zz_TX_B b (zxc_9_2 (as := [.int p0]) (r := []) hG hM rfl h0 (zz_lb rfl)))
theorem zCm_9 {l : Launch} {D : va_G} {cy : Nat → ClassId} {z0 : Nat} {sp : Nat → Nat} {G : State → Prop} (H : zHy l D cy z0 sp G) {n : Nat} (hn : n ≤ 511) {w : zz_W} (h : zIv zQI n 0 w) (p0 : Int32) (p1 : Int32) (p2 : Int32) : ∃ rv w', zRl l D cy z0 sp G 469 9 [("java/util/NoSuchElementException", 16), ("java/lang/IllegalArgumentException", 14)] [.ref 0, .int p0, .int p1, .int p2] w rv w' ∧ zIv zQM n 0 w' := by
  obtain ⟨hG, hP, hW, hsp0, hWk, hTX, hl, hE⟩ := H
  have hw : w.1 < 16 * 64 := by have := h.2.2.1; omega
  have h0 := zI_ic0 (zIv_I h)
  exact zCl_gen hn h [p0, p1, p2] (Nat.le_of_ble_eq_true rfl) zXk_c9 zXm_c9 rfl rfl (Rl := zRl l D cy z0 sp G 469 9 [("java/util/NoSuchElementException", 16), ("java/lang/IllegalArgumentException", 14)] [.ref 0, .int p0, .int p1, .int p2] w) (List.forall_mem_cons.mpr ⟨zPP_px (zPX_9_x0 hG hP hW hsp0 hWk hTX) rfl (by decide) (by decide +kernel) rfl rfl hw, List.forall_mem_cons.mpr ⟨zPP_px (zPX_9_x1 hG hP hW hsp0 hWk hTX) rfl (by decide) (by decide +kernel) rfl rfl hw, List.forall_mem_cons.mpr ⟨zPP_th (zPX_65_x0 hG hP hW hsp0 hWk hTX) rfl (by decide) (by decide +kernel) hw (zMx_9_65 hG hP h0), List.forall_mem_cons.mpr ⟨zPP_th (zPX_65_x1 hG hP hW hsp0 hWk hTX) rfl (by decide) (by decide +kernel) hw (zMx_9_65 hG hP h0), List.forall_mem_cons.mpr ⟨zPP_th (zPX_65_x2 hG hP hW hsp0 hWk hTX) rfl (by decide) (by decide +kernel) hw (zMx_9_65 hG hP h0), (fun _ h => absurd h List.not_mem_nil)⟩⟩⟩⟩⟩)
theorem zHk_9 {l : Launch} {D : va_G} {cy : Nat → ClassId} {z0 : Nat} {sp : Nat → Nat} {G : State → Prop} (H : zHy l D cy z0 sp G) {n : Nat} (hn : n ≤ 511) {w : zz_W} (h : zIv zQI n 0 w) (p0 : Int32) (p1 : Int32) (p2 : Int32) : ∃ r w', zz_MH l zTs D zcl zFK cy z0 sp (zTys cy) G zy_807 method_10_code 6 (some .int) [(0, 12, 15, 37), (0, 12, 19, 13)] 470 [.ref 0, .int p0, .int p1, .int p2, .ref 328] w [.int r] w' ∧ zIv zQM n 1 w' := by
  have h0 := zI_ic0 (zIv_I h)
  obtain ⟨rv, w', hR, hI⟩ := zCm_9 H hn h p0 p1 p2
  obtain ⟨hG, hP, -, -, -, -, -, hE⟩ := H
  rcases hR with ⟨a, rfl, hM⟩ | ⟨rfl, x, hx, hM⟩
  · obtain ⟨N, hN⟩ := zI_328 (zIv_I hI)
    exact ⟨_, _, zHr_807 hG hP (zIv_I hI).1 hN h0 hM, zIv_1 (zIv_up zQM_w9 hI (by omega))⟩
  · rcases List.mem_cons.mp hx with e | hx
    · subst e
      exact ⟨_, _, zHx_807_0 hG hP hE h0 hM, zIv_pu zQM_ok hI (by omega)⟩
    · skip
      rcases List.mem_cons.mp hx with e | hx
      · subst e
        exact ⟨_, _, zHx_807_1 hG hP hE h0 hM, zIv_pu zQM_ok hI (by omega)⟩
      · skip
        exact absurd hx List.not_mem_nil
theorem zMx_10_65 {l : Launch} {D : va_G} {cy : Nat → ClassId} {z0 : Nat} {sp : Nat → Nat} {G : State → Prop} (hG : zz_GF z0 G) (hP : ∀ U, G U → zz_GD zS zS2 zLg z0 sp U) {w : zz_W} (h0 : zz_ic w 0 1 = true) {p0 : Int32} {p1 : Int32} {p2 : Int32} (E : String) (w' : zz_W) (hM : zz_MX l zTs D zcl zFK cy z0 sp (zTys cy) G zYN zCN zMQ zRT 468 65 ([.ref 0, .int p0, .int p1, .int p2].take 2) w E w') : zz_MX l zTs D zcl zFK cy z0 sp (zTys cy) G zYN zCN zMQ zRT 469 10 [.ref 0, .int p0, .int p1, .int p2] w E w' := by
  have T : zz_TO l zTs D zcl zFK cy z0 sp (zTys cy) G "ToolMill" "byteOf" 7 prog_1_method_11_code 468 zz_k0 zP_10 := zP_s zz_k0_KS hG hP 10 (by decide) (Or.inl (by decide))
  have b := zz_B_rf (l := l) (Ts := zTs) (D := D) (cl := zcl) (fk := zFK) (cy := cy) (z0 := z0) (sp := sp) (tys := zTys cy) (G := G) (own := "ToolMill") (mn := "byteOf") (nL := 7) (cc := prog_1_method_11_code) (d := 468) ((0, lv_args 0 [.ref 0, .int p0, .int p1, .int p2], [], w) : zz_F)
  replace b := zz_fw b T (rfl : zz_ent zP_10 0 = (0, za_aload 0 1)) (ze_aload rfl)
  replace b := zz_fw b T (rfl : zz_ent zP_10 1 = (0, za_iload 1 2)) (ze_iload rfl)
  exact zz_MX_B rfl rfl rfl rfl (by decide +kernel) (zz_lb rfl) (zz_TX_B b (zxc_10_2 (as := [.int p0]) (r := []) hG hM rfl h0 (zz_lb rfl)))
theorem zCm_10 {l : Launch} {D : va_G} {cy : Nat → ClassId} {z0 : Nat} {sp : Nat → Nat} {G : State → Prop} (H : zHy l D cy z0 sp G) {n : Nat} (hn : n ≤ 511) {w : zz_W} (h : zIv zQI n 0 w) (p0 : Int32) (p1 : Int32) (p2 : Int32) : ∃ rv w', zRl l D cy z0 sp G 469 10 [("java/util/NoSuchElementException", 16)] [.ref 0, .int p0, .int p1, .int p2] w rv w' ∧ zIv zQM n 0 w' := by
  obtain ⟨hG, hP, hW, hsp0, hWk, hTX, hl, hE⟩ := H
  have hw : w.1 < 16 * 64 := by have := h.2.2.1; omega
  have h0 := zI_ic0 (zIv_I h)
  exact zCl_gen hn h [p0, p1, p2] (Nat.le_of_ble_eq_true rfl) zXk_c10 zXm_c10 rfl rfl (Rl := zRl l D cy z0 sp G 469 10 [("java/util/NoSuchElementException", 16)] [.ref 0, .int p0, .int p1, .int p2] w) (List.forall_mem_cons.mpr ⟨zPP_px (zPX_10_x0 hG hP hW hsp0 hWk hTX) rfl (by decide) (by decide +kernel) rfl rfl hw, List.forall_mem_cons.mpr ⟨zPP_px (zPX_10_x1 hG hP hW hsp0 hWk hTX) rfl (by decide) (by decide +kernel) rfl rfl hw, List.forall_mem_cons.mpr ⟨zPP_px (zPX_10_x2 hG hP hW hsp0 hWk hTX) rfl (by decide) (by decide +kernel) rfl rfl hw, List.forall_mem_cons.mpr ⟨zPP_px (zPX_10_x3 hG hP hW hsp0 hWk hTX) rfl (by decide) (by decide +kernel) rfl rfl hw, List.forall_mem_cons.mpr ⟨zPP_px (zPX_10_x4 hG hP hW hsp0 hWk hTX) rfl (by decide) (by decide +kernel) rfl rfl hw, List.forall_mem_cons.mpr ⟨zPP_px (zPX_10_x5 hG hP hW hsp0 hWk hTX) rfl (by decide) (by decide +kernel) rfl rfl hw, List.forall_mem_cons.mpr ⟨zPP_px (zPX_10_x6 hG hP hW hsp0 hWk hTX) rfl (by decide) (by decide +kernel) rfl rfl hw, List.forall_mem_cons.mpr ⟨zPP_th (zPX_65_x0 hG hP hW hsp0 hWk hTX) rfl (by decide) (by decide +kernel) hw (zMx_10_65 hG hP h0), List.forall_mem_cons.mpr ⟨zPP_th (zPX_65_x1 hG hP hW hsp0 hWk hTX) rfl (by decide) (by decide +kernel) hw (zMx_10_65 hG hP h0), List.forall_mem_cons.mpr ⟨zPP_th (zPX_65_x2 hG hP hW hsp0 hWk hTX) rfl (by decide) (by decide +kernel) hw (zMx_10_65 hG hP h0), (fun _ h => absurd h List.not_mem_nil)⟩⟩⟩⟩⟩⟩⟩⟩⟩⟩)
theorem zHk_10 {l : Launch} {D : va_G} {cy : Nat → ClassId} {z0 : Nat} {sp : Nat → Nat} {G : State → Prop} (H : zHy l D cy z0 sp G) {n : Nat} (hn : n ≤ 511) {w : zz_W} (h : zIv zQI n 0 w) (p0 : Int32) (p1 : Int32) (p2 : Int32) : ∃ r w', zz_MH l zTs D zcl zFK cy z0 sp (zTys cy) G zy_808 method_11_code 6 (some .int) [(0, 12, 15, 37)] 470 [.ref 0, .int p0, .int p1, .int p2, .ref 328] w [.int r] w' ∧ zIv zQM n 1 w' := by
  have h0 := zI_ic0 (zIv_I h)
  obtain ⟨rv, w', hR, hI⟩ := zCm_10 H hn h p0 p1 p2
  obtain ⟨hG, hP, -, -, -, -, -, hE⟩ := H
  rcases hR with ⟨a, rfl, hM⟩ | ⟨rfl, x, hx, hM⟩
  · obtain ⟨N, hN⟩ := zI_328 (zIv_I hI)
    exact ⟨_, _, zHr_808 hG hP (zIv_I hI).1 hN h0 hM, zIv_1 (zIv_up zQM_w9 hI (by omega))⟩
  · rcases List.mem_cons.mp hx with e | hx
    · subst e
      exact ⟨_, _, zHx_808_0 hG hP hE h0 hM, zIv_pu zQM_ok hI (by omega)⟩
    · skip
      exact absurd hx List.not_mem_nil
theorem zMx_11_65 {l : Launch} {D : va_G} {cy : Nat → ClassId} {z0 : Nat} {sp : Nat → Nat} {G : State → Prop} (hG : zz_GF z0 G) (hP : ∀ U, G U → zz_GD zS zS2 zLg z0 sp U) {w : zz_W} (h0 : zz_ic w 0 1 = true) {p0 : Int32} {p1 : Int32} {p2 : Int32} (E : String) (w' : zz_W) (hM : zz_MX l zTs D zcl zFK cy z0 sp (zTys cy) G zYN zCN zMQ zRT 468 65 ([.ref 0, .int p0, .int p1, .int p2].take 2) w E w') : zz_MX l zTs D zcl zFK cy z0 sp (zTys cy) G zYN zCN zMQ zRT 469 11 [.ref 0, .int p0, .int p1, .int p2] w E w' := by
  have T : zz_TO l zTs D zcl zFK cy z0 sp (zTys cy) G "ToolMill" "label" 6 prog_1_method_12_code 468 zz_k0 zP_11 := zP_s zz_k0_KS hG hP 11 (by decide) (Or.inl (by decide))
  have b := zz_B_rf (l := l) (Ts := zTs) (D := D) (cl := zcl) (fk := zFK) (cy := cy) (z0 := z0) (sp := sp) (tys := zTys cy) (G := G) (own := "ToolMill") (mn := "label") (nL := 6) (cc := prog_1_method_12_code) (d := 468) ((0, lv_args 0 [.ref 0, .int p0, .int p1, .int p2], [], w) : zz_F)
  replace b := zz_fw b T (rfl : zz_ent zP_11 0 = (0, za_aload 0 1)) (ze_aload rfl)
  replace b := zz_fw b T (rfl : zz_ent zP_11 1 = (0, za_iload 1 2)) (ze_iload rfl)
  exact zz_MX_B rfl rfl rfl rfl (by decide +kernel) (zz_lb rfl) (zz_TX_B b (zxc_11_2 (as := [.int p0]) (r := []) hG hM rfl h0 (zz_lb rfl)))
theorem zCm_11 {l : Launch} {D : va_G} {cy : Nat → ClassId} {z0 : Nat} {sp : Nat → Nat} {G : State → Prop} (H : zHy l D cy z0 sp G) {n : Nat} (hn : n ≤ 511) {w : zz_W} (h : zIv zQI n 0 w) (p0 : Int32) (p1 : Int32) (p2 : Int32) : ∃ rv w', zRl l D cy z0 sp G 469 11 [("java/util/NoSuchElementException", 16), ("java/lang/IllegalArgumentException", 14)] [.ref 0, .int p0, .int p1, .int p2] w rv w' ∧ zIv zQM n 0 w' := by
  obtain ⟨hG, hP, hW, hsp0, hWk, hTX, hl, hE⟩ := H
  have hw : w.1 < 16 * 64 := by have := h.2.2.1; omega
  have h0 := zI_ic0 (zIv_I h)
  exact zCl_gen hn h [p0, p1, p2] (Nat.le_of_ble_eq_true rfl) zXk_c11 zXm_c11 rfl rfl (Rl := zRl l D cy z0 sp G 469 11 [("java/util/NoSuchElementException", 16), ("java/lang/IllegalArgumentException", 14)] [.ref 0, .int p0, .int p1, .int p2] w) (List.forall_mem_cons.mpr ⟨zPP_px (zPX_11_x0 hG hP hW hsp0 hWk hTX) rfl (by decide) (by decide +kernel) rfl rfl hw, List.forall_mem_cons.mpr ⟨zPP_px (zPX_11_x1 hG hP hW hsp0 hWk hTX) rfl (by decide) (by decide +kernel) rfl rfl hw, List.forall_mem_cons.mpr ⟨zPP_th (zPX_65_x0 hG hP hW hsp0 hWk hTX) rfl (by decide) (by decide +kernel) hw (zMx_11_65 hG hP h0), List.forall_mem_cons.mpr ⟨zPP_th (zPX_65_x1 hG hP hW hsp0 hWk hTX) rfl (by decide) (by decide +kernel) hw (zMx_11_65 hG hP h0), List.forall_mem_cons.mpr ⟨zPP_th (zPX_65_x2 hG hP hW hsp0 hWk hTX) rfl (by decide) (by decide +kernel) hw (zMx_11_65 hG hP h0), (fun _ h => absurd h List.not_mem_nil)⟩⟩⟩⟩⟩)
theorem zHk_11 {l : Launch} {D : va_G} {cy : Nat → ClassId} {z0 : Nat} {sp : Nat → Nat} {G : State → Prop} (H : zHy l D cy z0 sp G) {n : Nat} (hn : n ≤ 511) {w : zz_W} (h : zIv zQI n 0 w) (p0 : Int32) (p1 : Int32) (p2 : Int32) : ∃ r w', zz_MH l zTs D zcl zFK cy z0 sp (zTys cy) G zy_809 method_12_code 6 (some .int) [(0, 12, 15, 37), (0, 12, 19, 13)] 470 [.ref 0, .int p0, .int p1, .int p2, .ref 328] w [.int r] w' ∧ zIv zQM n 1 w' := by
  have h0 := zI_ic0 (zIv_I h)
  obtain ⟨rv, w', hR, hI⟩ := zCm_11 H hn h p0 p1 p2
  obtain ⟨hG, hP, -, -, -, -, -, hE⟩ := H
  rcases hR with ⟨a, rfl, hM⟩ | ⟨rfl, x, hx, hM⟩
  · obtain ⟨N, hN⟩ := zI_328 (zIv_I hI)
    exact ⟨_, _, zHr_809 hG hP (zIv_I hI).1 hN h0 hM, zIv_1 (zIv_up zQM_w9 hI (by omega))⟩
  · rcases List.mem_cons.mp hx with e | hx
    · subst e
      exact ⟨_, _, zHx_809_0 hG hP hE h0 hM, zIv_pu zQM_ok hI (by omega)⟩
    · skip
      rcases List.mem_cons.mp hx with e | hx
      · subst e
        exact ⟨_, _, zHx_809_1 hG hP hE h0 hM, zIv_pu zQM_ok hI (by omega)⟩
      · skip
        exact absurd hx List.not_mem_nil
theorem zMx_12_65 {l : Launch} {D : va_G} {cy : Nat → ClassId} {z0 : Nat} {sp : Nat → Nat} {G : State → Prop} (hG : zz_GF z0 G) (hP : ∀ U, G U → zz_GD zS zS2 zLg z0 sp U) {w : zz_W} (h0 : zz_ic w 0 1 = true) {p0 : Int32} {p1 : Int32} {p2 : Int32} (E : String) (w' : zz_W) (hM : zz_MX l zTs D zcl zFK cy z0 sp (zTys cy) G zYN zCN zMQ zRT 468 65 ([.ref 0, .int p0, .int p1, .int p2].take 2) w E w') : zz_MX l zTs D zcl zFK cy z0 sp (zTys cy) G zYN zCN zMQ zRT 469 12 [.ref 0, .int p0, .int p1, .int p2] w E w' := by
  have T : zz_TO l zTs D zcl zFK cy z0 sp (zTys cy) G "ToolMill" "relocation" 6 prog_1_method_13_code 468 zz_k0 zP_12 := zP_s zz_k0_KS hG hP 12 (by decide) (Or.inl (by decide))
  have b := zz_B_rf (l := l) (Ts := zTs) (D := D) (cl := zcl) (fk := zFK) (cy := cy) (z0 := z0) (sp := sp) (tys := zTys cy) (G := G) (own := "ToolMill") (mn := "relocation") (nL := 6) (cc := prog_1_method_13_code) (d := 468) ((0, lv_args 0 [.ref 0, .int p0, .int p1, .int p2], [], w) : zz_F)
  replace b := zz_fw b T (rfl : zz_ent zP_12 0 = (0, za_aload 0 1)) (ze_aload rfl)
  replace b := zz_fw b T (rfl : zz_ent zP_12 1 = (0, za_iload 1 2)) (ze_iload rfl)
  exact zz_MX_B rfl rfl rfl rfl (by decide +kernel) (zz_lb rfl) (zz_TX_B b (zxc_12_2 (as := [.int p0]) (r := []) hG hM rfl h0 (zz_lb rfl)))
theorem zCm_12 {l : Launch} {D : va_G} {cy : Nat → ClassId} {z0 : Nat} {sp : Nat → Nat} {G : State → Prop} (H : zHy l D cy z0 sp G) {n : Nat} (hn : n ≤ 511) {w : zz_W} (h : zIv zQI n 0 w) (p0 : Int32) (p1 : Int32) (p2 : Int32) : ∃ rv w', zRl l D cy z0 sp G 469 12 [("java/util/NoSuchElementException", 16), ("java/lang/IllegalArgumentException", 14)] [.ref 0, .int p0, .int p1, .int p2] w rv w' ∧ zIv zQM n 0 w' := by
  obtain ⟨hG, hP, hW, hsp0, hWk, hTX, hl, hE⟩ := H
  have hw : w.1 < 16 * 64 := by have := h.2.2.1; omega
  have h0 := zI_ic0 (zIv_I h)
  exact zCl_gen hn h [p0, p1, p2] (Nat.le_of_ble_eq_true rfl) zXk_c12 zXm_c12 rfl rfl (Rl := zRl l D cy z0 sp G 469 12 [("java/util/NoSuchElementException", 16), ("java/lang/IllegalArgumentException", 14)] [.ref 0, .int p0, .int p1, .int p2] w) (List.forall_mem_cons.mpr ⟨zPP_px (zPX_12_x0 hG hP hW hsp0 hWk hTX) rfl (by decide) (by decide +kernel) rfl rfl hw, List.forall_mem_cons.mpr ⟨zPP_px (zPX_12_x1 hG hP hW hsp0 hWk hTX) rfl (by decide) (by decide +kernel) rfl rfl hw, List.forall_mem_cons.mpr ⟨zPP_th (zPX_65_x0 hG hP hW hsp0 hWk hTX) rfl (by decide) (by decide +kernel) hw (zMx_12_65 hG hP h0), List.forall_mem_cons.mpr ⟨zPP_th (zPX_65_x1 hG hP hW hsp0 hWk hTX) rfl (by decide) (by decide +kernel) hw (zMx_12_65 hG hP h0), List.forall_mem_cons.mpr ⟨zPP_th (zPX_65_x2 hG hP hW hsp0 hWk hTX) rfl (by decide) (by decide +kernel) hw (zMx_12_65 hG hP h0), (fun _ h => absurd h List.not_mem_nil)⟩⟩⟩⟩⟩)
theorem zHk_12 {l : Launch} {D : va_G} {cy : Nat → ClassId} {z0 : Nat} {sp : Nat → Nat} {G : State → Prop} (H : zHy l D cy z0 sp G) {n : Nat} (hn : n ≤ 511) {w : zz_W} (h : zIv zQI n 0 w) (p0 : Int32) (p1 : Int32) (p2 : Int32) : ∃ r w', zz_MH l zTs D zcl zFK cy z0 sp (zTys cy) G zy_810 method_13_code 6 (some .int) [(0, 12, 15, 37), (0, 12, 19, 13)] 470 [.ref 0, .int p0, .int p1, .int p2, .ref 328] w [.int r] w' ∧ zIv zQM n 1 w' := by
  have h0 := zI_ic0 (zIv_I h)
  obtain ⟨rv, w', hR, hI⟩ := zCm_12 H hn h p0 p1 p2
  obtain ⟨hG, hP, -, -, -, -, -, hE⟩ := H
  rcases hR with ⟨a, rfl, hM⟩ | ⟨rfl, x, hx, hM⟩
  · obtain ⟨N, hN⟩ := zI_328 (zIv_I hI)
    exact ⟨_, _, zHr_810 hG hP (zIv_I hI).1 hN h0 hM, zIv_1 (zIv_up zQM_w9 hI (by omega))⟩
  · rcases List.mem_cons.mp hx with e | hx
    · subst e
      exact ⟨_, _, zHx_810_0 hG hP hE h0 hM, zIv_pu zQM_ok hI (by omega)⟩
    · skip
      rcases List.mem_cons.mp hx with e | hx
      · subst e
        exact ⟨_, _, zHx_810_1 hG hP hE h0 hM, zIv_pu zQM_ok hI (by omega)⟩
      · skip
        exact absurd hx List.not_mem_nil
theorem zCm_13 {l : Launch} {D : va_G} {cy : Nat → ClassId} {z0 : Nat} {sp : Nat → Nat} {G : State → Prop} (H : zHy l D cy z0 sp G) {n : Nat} (hn : n ≤ 511) {w : zz_W} (h : zIv zQI n 0 w) (p0 : Int32) : ∃ rv w', zRl l D cy z0 sp G 469 13 [("java/lang/UnsupportedOperationException", 18)] [.ref 0, .int p0] w rv w' ∧ zIv zQM n 0 w' := by
  obtain ⟨hG, hP, hW, hsp0, hWk, hTX, hl, hE⟩ := H
  have hw : w.1 < 16 * 64 := by have := h.2.2.1; omega
  have h0 := zI_ic0 (zIv_I h)
  exact zCl_gen hn h [p0] (Nat.le_of_ble_eq_true rfl) zXk_c13 zXm_c13 rfl rfl (Rl := zRl l D cy z0 sp G 469 13 [("java/lang/UnsupportedOperationException", 18)] [.ref 0, .int p0] w) (List.forall_mem_cons.mpr ⟨zPP_px (zk_liftP zHX_ok (by decide +kernel) (zPX_13_x0 hG hP hW hTX)) rfl (by decide) (by decide +kernel) rfl rfl hw, (fun _ h => absurd h List.not_mem_nil)⟩)
theorem zHk_13 {l : Launch} {D : va_G} {cy : Nat → ClassId} {z0 : Nat} {sp : Nat → Nat} {G : State → Prop} (H : zHy l D cy z0 sp G) {n : Nat} (hn : n ≤ 511) {w : zz_W} (h : zIv zQI n 0 w) (p0 : Int32) : ∃ r w', zz_MH l zTs D zcl zFK cy z0 sp (zTys cy) G zy_811 method_14_code 4 (some .int) [(0, 9, 12, 15)] 470 [.ref 0, .int p0, .ref 328] w [.int r] w' ∧ zIv zQM n 1 w' := by
  have h0 := zI_ic0 (zIv_I h)
  obtain ⟨rv, w', hR, hI⟩ := zCm_13 H hn h p0
  obtain ⟨hG, hP, -, -, -, -, -, hE⟩ := H
  rcases hR with ⟨a, rfl, hM⟩ | ⟨rfl, x, hx, hM⟩
  · obtain ⟨N, hN⟩ := zI_328 (zIv_I hI)
    exact ⟨_, _, zHr_811 hG hP (zIv_I hI).1 hN h0 hM, zIv_1 (zIv_up zQM_w9 hI (by omega))⟩
  · rcases List.mem_cons.mp hx with e | hx
    · subst e
      exact ⟨_, _, zHx_811_0 hG hP hE h0 hM, zIv_pu zQM_ok hI (by omega)⟩
    · skip
      exact absurd hx List.not_mem_nil
theorem zCm_14 {l : Launch} {D : va_G} {cy : Nat → ClassId} {z0 : Nat} {sp : Nat → Nat} {G : State → Prop} (H : zHy l D cy z0 sp G) {n : Nat} (hn : n ≤ 511) {w : zz_W} (h : zIv zQI n 0 w) (p0 : Int32) (p1 : Int32) : ∃ rv w', zRl l D cy z0 sp G 469 14 [("java/lang/IllegalStateException", 15), ("java/lang/IllegalArgumentException", 14)] [.ref 0, .int p0, .int p1] w rv w' ∧ zIv zQM n 0 w' := by
  obtain ⟨hG, hP, hW, hsp0, hWk, hTX, hl, hE⟩ := H
  have hw : w.1 < 16 * 64 := by have := h.2.2.1; omega
  have h0 := zI_ic0 (zIv_I h)
  exact zCl_gen hn h [p0, p1] (Nat.le_of_ble_eq_true rfl) zXk_c14 zXm_c14 rfl rfl (Rl := zRl l D cy z0 sp G 469 14 [("java/lang/IllegalStateException", 15), ("java/lang/IllegalArgumentException", 14)] [.ref 0, .int p0, .int p1] w) (List.forall_mem_cons.mpr ⟨zPP_px (zPX_14_x0 hG hP hW hsp0 hWk hTX) rfl (by decide) (by decide +kernel) rfl rfl hw, (fun _ h => absurd h List.not_mem_nil)⟩)
theorem zHk_14 {l : Launch} {D : va_G} {cy : Nat → ClassId} {z0 : Nat} {sp : Nat → Nat} {G : State → Prop} (H : zHy l D cy z0 sp G) {n : Nat} (hn : n ≤ 511) {w : zz_W} (h : zIv zQI n 0 w) (p0 : Int32) (p1 : Int32) : ∃ r w', zz_MH l zTs D zcl zFK cy z0 sp (zTys cy) G zy_812 method_15_code 5 (some .int) [(0, 10, 13, 25), (0, 10, 17, 13)] 470 [.ref 0, .int p0, .int p1, .ref 328] w [.int r] w' ∧ zIv zQM n 1 w' := by
  have h0 := zI_ic0 (zIv_I h)
  obtain ⟨rv, w', hR, hI⟩ := zCm_14 H hn h p0 p1
  obtain ⟨hG, hP, -, -, -, -, -, hE⟩ := H
  rcases hR with ⟨a, rfl, hM⟩ | ⟨rfl, x, hx, hM⟩
  · obtain ⟨N, hN⟩ := zI_328 (zIv_I hI)
    exact ⟨_, _, zHr_812 hG hP (zIv_I hI).1 hN h0 hM, zIv_1 (zIv_up zQM_w9 hI (by omega))⟩
  · rcases List.mem_cons.mp hx with e | hx
    · subst e
      exact ⟨_, _, zHx_812_0 hG hP hE h0 hM, zIv_pu zQM_ok hI (by omega)⟩
    · skip
      rcases List.mem_cons.mp hx with e | hx
      · subst e
        exact ⟨_, _, zHx_812_1 hG hP hE h0 hM, zIv_pu zQM_ok hI (by omega)⟩
      · skip
        exact absurd hx List.not_mem_nil
theorem zCm_15 {l : Launch} {D : va_G} {cy : Nat → ClassId} {z0 : Nat} {sp : Nat → Nat} {G : State → Prop} (H : zHy l D cy z0 sp G) {n : Nat} (hn : n ≤ 511) {w : zz_W} (h : zIv zQI n 0 w) (p0 : Int32) : ∃ rv w', zRl l D cy z0 sp G 469 15 [("java/lang/IllegalStateException", 15), ("java/lang/IllegalArgumentException", 14)] [.ref 0, .int p0] w rv w' ∧ zIv zQM n 0 w' := by
  obtain ⟨hG, hP, hW, hsp0, hWk, hTX, hl, hE⟩ := H
  have hw : w.1 < 16 * 64 := by have := h.2.2.1; omega
  have h0 := zI_ic0 (zIv_I h)
  exact zCl_gen hn h [p0] (Nat.le_of_ble_eq_true rfl) zXk_c15 zXm_c15 rfl rfl (Rl := zRl l D cy z0 sp G 469 15 [("java/lang/IllegalStateException", 15), ("java/lang/IllegalArgumentException", 14)] [.ref 0, .int p0] w) (List.forall_mem_cons.mpr ⟨zPP_px (zk_liftP zHX_ok (by decide +kernel) (zPX_15_x0 hG hP hW hTX)) rfl (by decide) (by decide +kernel) rfl rfl hw, (fun _ h => absurd h List.not_mem_nil)⟩)
theorem zHk_15 {l : Launch} {D : va_G} {cy : Nat → ClassId} {z0 : Nat} {sp : Nat → Nat} {G : State → Prop} (H : zHy l D cy z0 sp G) {n : Nat} (hn : n ≤ 511) {w : zz_W} (h : zIv zQI n 0 w) (p0 : Int32) : ∃ r w', zz_MH l zTs D zcl zFK cy z0 sp (zTys cy) G zy_813 method_16_code 4 (some .int) [(0, 9, 12, 25), (0, 9, 15, 13)] 470 [.ref 0, .int p0, .ref 328] w [.int r] w' ∧ zIv zQM n 1 w' := by
  have h0 := zI_ic0 (zIv_I h)
  obtain ⟨rv, w', hR, hI⟩ := zCm_15 H hn h p0
  obtain ⟨hG, hP, -, -, -, -, -, hE⟩ := H
  rcases hR with ⟨a, rfl, hM⟩ | ⟨rfl, x, hx, hM⟩
  · obtain ⟨N, hN⟩ := zI_328 (zIv_I hI)
    exact ⟨_, _, zHr_813 hG hP (zIv_I hI).1 hN h0 hM, zIv_1 (zIv_up zQM_w9 hI (by omega))⟩
  · rcases List.mem_cons.mp hx with e | hx
    · subst e
      exact ⟨_, _, zHx_813_0 hG hP hE h0 hM, zIv_pu zQM_ok hI (by omega)⟩
    · skip
      rcases List.mem_cons.mp hx with e | hx
      · subst e
        exact ⟨_, _, zHx_813_1 hG hP hE h0 hM, zIv_pu zQM_ok hI (by omega)⟩
      · skip
        exact absurd hx List.not_mem_nil
theorem zMx_16_69 {l : Launch} {D : va_G} {cy : Nat → ClassId} {z0 : Nat} {sp : Nat → Nat} {G : State → Prop} (hG : zz_GF z0 G) (hP : ∀ U, G U → zz_GD zS zS2 zLg z0 sp U) {w : zz_W} (h0 : zz_ic w 0 1 = true) {p0 : Int32} (E : String) (w' : zz_W) (hM : zz_MX l zTs D zcl zFK cy z0 sp (zTys cy) G zYN zCN zMQ zRT 468 69 ([.ref 0, .int p0].take 1) w E w') : zz_MX l zTs D zcl zFK cy z0 sp (zTys cy) G zYN zCN zMQ zRT 469 16 [.ref 0, .int p0] w E w' := by
  have T : zz_TO l zTs D zcl zFK cy z0 sp (zTys cy) G "ToolMill" "state" 2 prog_1_method_17_code 468 zz_k0 zP_16 := zP_s zz_k0_KS hG hP 16 (by decide) (Or.inl (by decide))
  have b := zz_B_rf (l := l) (Ts := zTs) (D := D) (cl := zcl) (fk := zFK) (cy := cy) (z0 := z0) (sp := sp) (tys := zTys cy) (G := G) (own := "ToolMill") (mn := "state") (nL := 2) (cc := prog_1_method_17_code) (d := 468) ((0, lv_args 0 [.ref 0, .int p0], [], w) : zz_F)
  replace b := zz_fw b T (rfl : zz_ent zP_16 0 = (0, za_aload 0 1)) (ze_aload rfl)
  exact zz_MX_B rfl rfl rfl rfl (by decide +kernel) (zz_lb rfl) (zz_TX_B b (zxc_16_1 (as := []) (r := []) hG hM rfl h0 (zz_lb rfl)))
theorem zCm_16 {l : Launch} {D : va_G} {cy : Nat → ClassId} {z0 : Nat} {sp : Nat → Nat} {G : State → Prop} (H : zHy l D cy z0 sp G) {n : Nat} (hn : n ≤ 511) {w : zz_W} (h : zIv zQI n 0 w) (p0 : Int32) : ∃ rv w', zRl l D cy z0 sp G 469 16 [("java/lang/IllegalArgumentException", 14), ("java/lang/IllegalStateException", 15)] [.ref 0, .int p0] w rv w' ∧ zIv zQM n 0 w' := by
  obtain ⟨hG, hP, hW, hsp0, hWk, hTX, hl, hE⟩ := H
  have hw : w.1 < 16 * 64 := by have := h.2.2.1; omega
  have h0 := zI_ic0 (zIv_I h)
  exact zCl_gen hn h [p0] (Nat.le_of_ble_eq_true rfl) zXk_c16 zXm_c16 rfl rfl (Rl := zRl l D cy z0 sp G 469 16 [("java/lang/IllegalArgumentException", 14), ("java/lang/IllegalStateException", 15)] [.ref 0, .int p0] w) (List.forall_mem_cons.mpr ⟨zPP_px (zk_liftP zHX_ok (by decide +kernel) (zPX_16_x0 hG hP hW hTX)) rfl (by decide) (by decide +kernel) rfl rfl hw, List.forall_mem_cons.mpr ⟨zPP_th (zk_liftP zHX_ok (by decide +kernel) (zPX_69_x0 hG hP hW hTX)) rfl (by decide) (by decide +kernel) hw (zMx_16_69 hG hP h0), (fun _ h => absurd h List.not_mem_nil)⟩⟩)
theorem zHk_16 {l : Launch} {D : va_G} {cy : Nat → ClassId} {z0 : Nat} {sp : Nat → Nat} {G : State → Prop} (H : zHy l D cy z0 sp G) {n : Nat} (hn : n ≤ 511) {w : zz_W} (h : zIv zQI n 0 w) (p0 : Int32) : ∃ r w', zz_MH l zTs D zcl zFK cy z0 sp (zTys cy) G zy_814 method_17_code 4 (some .int) [(0, 9, 12, 25), (0, 9, 15, 13)] 470 [.ref 0, .int p0, .ref 328] w [.int r] w' ∧ zIv zQM n 1 w' := by
  have h0 := zI_ic0 (zIv_I h)
  obtain ⟨rv, w', hR, hI⟩ := zCm_16 H hn h p0
  obtain ⟨hG, hP, -, -, -, -, -, hE⟩ := H
  rcases hR with ⟨a, rfl, hM⟩ | ⟨rfl, x, hx, hM⟩
  · obtain ⟨N, hN⟩ := zI_328 (zIv_I hI)
    exact ⟨_, _, zHr_814 hG hP (zIv_I hI).1 hN h0 hM, zIv_1 (zIv_up zQM_w9 hI (by omega))⟩
  · rcases List.mem_cons.mp hx with e | hx
    · subst e
      exact ⟨_, _, zHx_814_1 hG hP hE h0 hM, zIv_pu zQM_ok hI (by omega)⟩
    · skip
      rcases List.mem_cons.mp hx with e | hx
      · subst e
        exact ⟨_, _, zHx_814_0 hG hP hE h0 hM, zIv_pu zQM_ok hI (by omega)⟩
      · skip
        exact absurd hx List.not_mem_nil
theorem zMx_17_69 {l : Launch} {D : va_G} {cy : Nat → ClassId} {z0 : Nat} {sp : Nat → Nat} {G : State → Prop} (hG : zz_GF z0 G) (hP : ∀ U, G U → zz_GD zS zS2 zLg z0 sp U) {w : zz_W} (h0 : zz_ic w 0 1 = true) {p0 : Int32} (E : String) (w' : zz_W) (hM : zz_MX l zTs D zcl zFK cy z0 sp (zTys cy) G zYN zCN zMQ zRT 468 69 ([.ref 0, .int p0].take 1) w E w') : zz_MX l zTs D zcl zFK cy z0 sp (zTys cy) G zYN zCN zMQ zRT 469 17 [.ref 0, .int p0] w E w' := by
  have T : zz_TO l zTs D zcl zFK cy z0 sp (zTys cy) G "ToolMill" "register" 2 prog_1_method_18_code 468 zz_k0 zP_17 := zP_s zz_k0_KS hG hP 17 (by decide) (Or.inl (by decide))
  have b := zz_B_rf (l := l) (Ts := zTs) (D := D) (cl := zcl) (fk := zFK) (cy := cy) (z0 := z0) (sp := sp) (tys := zTys cy) (G := G) (own := "ToolMill") (mn := "register") (nL := 2) (cc := prog_1_method_18_code) (d := 468) ((0, lv_args 0 [.ref 0, .int p0], [], w) : zz_F)
  replace b := zz_fw b T (rfl : zz_ent zP_17 0 = (0, za_aload 0 1)) (ze_aload rfl)
  exact zz_MX_B rfl rfl rfl rfl (by decide +kernel) (zz_lb rfl) (zz_TX_B b (zxc_17_1 (as := []) (r := []) hG hM rfl h0 (zz_lb rfl)))
theorem zCm_17 {l : Launch} {D : va_G} {cy : Nat → ClassId} {z0 : Nat} {sp : Nat → Nat} {G : State → Prop} (H : zHy l D cy z0 sp G) {n : Nat} (hn : n ≤ 511) {w : zz_W} (h : zIv zQI n 0 w) (p0 : Int32) : ∃ rv w', zRl l D cy z0 sp G 469 17 [("java/lang/IllegalArgumentException", 14), ("java/lang/IllegalStateException", 15)] [.ref 0, .int p0] w rv w' ∧ zIv zQM n 0 w' := by
  obtain ⟨hG, hP, hW, hsp0, hWk, hTX, hl, hE⟩ := H
  have hw : w.1 < 16 * 64 := by have := h.2.2.1; omega
  have h0 := zI_ic0 (zIv_I h)
  exact zCl_gen hn h [p0] (Nat.le_of_ble_eq_true rfl) zXk_c17 zXm_c17 rfl rfl (Rl := zRl l D cy z0 sp G 469 17 [("java/lang/IllegalArgumentException", 14), ("java/lang/IllegalStateException", 15)] [.ref 0, .int p0] w) (List.forall_mem_cons.mpr ⟨zPP_px (zk_liftP zHX_ok (by decide +kernel) (zPX_17_x0 hG hP hW hTX)) rfl (by decide) (by decide +kernel) rfl rfl hw, List.forall_mem_cons.mpr ⟨zPP_th (zk_liftP zHX_ok (by decide +kernel) (zPX_69_x0 hG hP hW hTX)) rfl (by decide) (by decide +kernel) hw (zMx_17_69 hG hP h0), (fun _ h => absurd h List.not_mem_nil)⟩⟩)
theorem zHk_17 {l : Launch} {D : va_G} {cy : Nat → ClassId} {z0 : Nat} {sp : Nat → Nat} {G : State → Prop} (H : zHy l D cy z0 sp G) {n : Nat} (hn : n ≤ 511) {w : zz_W} (h : zIv zQI n 0 w) (p0 : Int32) : ∃ r w', zz_MH l zTs D zcl zFK cy z0 sp (zTys cy) G zy_815 method_18_code 4 (some .int) [(0, 9, 12, 25), (0, 9, 15, 13)] 470 [.ref 0, .int p0, .ref 328] w [.int r] w' ∧ zIv zQM n 1 w' := by
  have h0 := zI_ic0 (zIv_I h)
  obtain ⟨rv, w', hR, hI⟩ := zCm_17 H hn h p0
  obtain ⟨hG, hP, -, -, -, -, -, hE⟩ := H
  rcases hR with ⟨a, rfl, hM⟩ | ⟨rfl, x, hx, hM⟩
  · obtain ⟨N, hN⟩ := zI_328 (zIv_I hI)
    exact ⟨_, _, zHr_815 hG hP (zIv_I hI).1 hN h0 hM, zIv_1 (zIv_up zQM_w9 hI (by omega))⟩
  · rcases List.mem_cons.mp hx with e | hx
    · subst e
      exact ⟨_, _, zHx_815_1 hG hP hE h0 hM, zIv_pu zQM_ok hI (by omega)⟩
    · skip
      rcases List.mem_cons.mp hx with e | hx
      · subst e
        exact ⟨_, _, zHx_815_0 hG hP hE h0 hM, zIv_pu zQM_ok hI (by omega)⟩
      · skip
        exact absurd hx List.not_mem_nil
theorem zMx_18_69 {l : Launch} {D : va_G} {cy : Nat → ClassId} {z0 : Nat} {sp : Nat → Nat} {G : State → Prop} (hG : zz_GF z0 G) (hP : ∀ U, G U → zz_GD zS zS2 zLg z0 sp U) {w : zz_W} (h0 : zz_ic w 0 1 = true) {p0 : Int32} (E : String) (w' : zz_W) (hM : zz_MX l zTs D zcl zFK cy z0 sp (zTys cy) G zYN zCN zMQ zRT 468 69 ([.ref 0, .int p0].take 1) w E w') : zz_MX l zTs D zcl zFK cy z0 sp (zTys cy) G zYN zCN zMQ zRT 469 18 [.ref 0, .int p0] w E w' := by
  have T : zz_TO l zTs D zcl zFK cy z0 sp (zTys cy) G "ToolMill" "word" 2 prog_1_method_19_code 468 zz_k0 zP_18 := zP_s zz_k0_KS hG hP 18 (by decide) (Or.inl (by decide))
  have b := zz_B_rf (l := l) (Ts := zTs) (D := D) (cl := zcl) (fk := zFK) (cy := cy) (z0 := z0) (sp := sp) (tys := zTys cy) (G := G) (own := "ToolMill") (mn := "word") (nL := 2) (cc := prog_1_method_19_code) (d := 468) ((0, lv_args 0 [.ref 0, .int p0], [], w) : zz_F)
  replace b := zz_fw b T (rfl : zz_ent zP_18 0 = (0, za_aload 0 1)) (ze_aload rfl)
  exact zz_MX_B rfl rfl rfl rfl (by decide +kernel) (zz_lb rfl) (zz_TX_B b (zxc_18_1 (as := []) (r := []) hG hM rfl h0 (zz_lb rfl)))
theorem zCm_18 {l : Launch} {D : va_G} {cy : Nat → ClassId} {z0 : Nat} {sp : Nat → Nat} {G : State → Prop} (H : zHy l D cy z0 sp G) {n : Nat} (hn : n ≤ 511) {w : zz_W} (h : zIv zQI n 0 w) (p0 : Int32) : ∃ rv w', zRl l D cy z0 sp G 469 18 [("java/lang/IndexOutOfBoundsException", 17), ("java/lang/IllegalStateException", 15)] [.ref 0, .int p0] w rv w' ∧ zIv zQM n 0 w' := by
  obtain ⟨hG, hP, hW, hsp0, hWk, hTX, hl, hE⟩ := H
  have hw : w.1 < 16 * 64 := by have := h.2.2.1; omega
  have h0 := zI_ic0 (zIv_I h)
  exact zCl_gen hn h [p0] (Nat.le_of_ble_eq_true rfl) zXk_c18 zXm_c18 rfl rfl (Rl := zRl l D cy z0 sp G 469 18 [("java/lang/IndexOutOfBoundsException", 17), ("java/lang/IllegalStateException", 15)] [.ref 0, .int p0] w) (List.forall_mem_cons.mpr ⟨zPP_px (zk_liftP zHX_ok (by decide +kernel) (zPX_18_x0 hG hP hW hTX)) rfl (by decide) (by decide +kernel) rfl rfl hw, List.forall_mem_cons.mpr ⟨zPP_th (zk_liftP zHX_ok (by decide +kernel) (zPX_69_x0 hG hP hW hTX)) rfl (by decide) (by decide +kernel) hw (zMx_18_69 hG hP h0), (fun _ h => absurd h List.not_mem_nil)⟩⟩)
theorem zHk_18 {l : Launch} {D : va_G} {cy : Nat → ClassId} {z0 : Nat} {sp : Nat → Nat} {G : State → Prop} (H : zHy l D cy z0 sp G) {n : Nat} (hn : n ≤ 511) {w : zz_W} (h : zIv zQI n 0 w) (p0 : Int32) : ∃ r w', zz_MH l zTs D zcl zFK cy z0 sp (zTys cy) G zy_816 method_19_code 4 (some .int) [(0, 9, 12, 25), (0, 9, 15, 73)] 470 [.ref 0, .int p0, .ref 328] w [.int r] w' ∧ zIv zQM n 1 w' := by
  have h0 := zI_ic0 (zIv_I h)
  obtain ⟨rv, w', hR, hI⟩ := zCm_18 H hn h p0
  obtain ⟨hG, hP, -, -, -, -, -, hE⟩ := H
  rcases hR with ⟨a, rfl, hM⟩ | ⟨rfl, x, hx, hM⟩
  · obtain ⟨N, hN⟩ := zI_328 (zIv_I hI)
    exact ⟨_, _, zHr_816 hG hP (zIv_I hI).1 hN h0 hM, zIv_1 (zIv_up zQM_w9 hI (by omega))⟩
  · rcases List.mem_cons.mp hx with e | hx
    · subst e
      exact ⟨_, _, zHx_816_1 hG hP hE h0 hM, zIv_pu zQM_ok hI (by omega)⟩
    · skip
      rcases List.mem_cons.mp hx with e | hx
      · subst e
        exact ⟨_, _, zHx_816_0 hG hP hE h0 hM, zIv_pu zQM_ok hI (by omega)⟩
      · skip
        exact absurd hx List.not_mem_nil
theorem zMx_19_69 {l : Launch} {D : va_G} {cy : Nat → ClassId} {z0 : Nat} {sp : Nat → Nat} {G : State → Prop} (hG : zz_GF z0 G) (hP : ∀ U, G U → zz_GD zS zS2 zLg z0 sp U) {w : zz_W} (h0 : zz_ic w 0 1 = true) {p0 : Int32} (E : String) (w' : zz_W) (hM : zz_MX l zTs D zcl zFK cy z0 sp (zTys cy) G zYN zCN zMQ zRT 468 69 ([.ref 0, .int p0].take 1) w E w') : zz_MX l zTs D zcl zFK cy z0 sp (zTys cy) G zYN zCN zMQ zRT 469 19 [.ref 0, .int p0] w E w' := by
  have T : zz_TO l zTs D zcl zFK cy z0 sp (zTys cy) G "ToolMill" "output" 2 prog_1_method_20_code 468 zz_k0 zP_19 := zP_s zz_k0_KS hG hP 19 (by decide) (Or.inl (by decide))
  have b := zz_B_rf (l := l) (Ts := zTs) (D := D) (cl := zcl) (fk := zFK) (cy := cy) (z0 := z0) (sp := sp) (tys := zTys cy) (G := G) (own := "ToolMill") (mn := "output") (nL := 2) (cc := prog_1_method_20_code) (d := 468) ((0, lv_args 0 [.ref 0, .int p0], [], w) : zz_F)
  replace b := zz_fw b T (rfl : zz_ent zP_19 0 = (0, za_aload 0 1)) (ze_aload rfl)
  exact zz_MX_B rfl rfl rfl rfl (by decide +kernel) (zz_lb rfl) (zz_TX_B b (zxc_19_1 (as := []) (r := []) hG hM rfl h0 (zz_lb rfl)))
theorem zCm_19 {l : Launch} {D : va_G} {cy : Nat → ClassId} {z0 : Nat} {sp : Nat → Nat} {G : State → Prop} (H : zHy l D cy z0 sp G) {n : Nat} (hn : n ≤ 511) {w : zz_W} (h : zIv zQI n 0 w) (p0 : Int32) : ∃ rv w', zRl l D cy z0 sp G 469 19 [("java/lang/IndexOutOfBoundsException", 17), ("java/lang/IllegalStateException", 15)] [.ref 0, .int p0] w rv w' ∧ zIv zQM n 0 w' := by
  obtain ⟨hG, hP, hW, hsp0, hWk, hTX, hl, hE⟩ := H
  have hw : w.1 < 16 * 64 := by have := h.2.2.1; omega
  have h0 := zI_ic0 (zIv_I h)
  exact zCl_gen hn h [p0] (Nat.le_of_ble_eq_true rfl) zXk_c19 zXm_c19 rfl rfl (Rl := zRl l D cy z0 sp G 469 19 [("java/lang/IndexOutOfBoundsException", 17), ("java/lang/IllegalStateException", 15)] [.ref 0, .int p0] w) (List.forall_mem_cons.mpr ⟨zPP_px (zk_liftP zHX_ok (by decide +kernel) (zPX_19_x0 hG hP hW hTX)) rfl (by decide) (by decide +kernel) rfl rfl hw, List.forall_mem_cons.mpr ⟨zPP_th (zk_liftP zHX_ok (by decide +kernel) (zPX_69_x0 hG hP hW hTX)) rfl (by decide) (by decide +kernel) hw (zMx_19_69 hG hP h0), (fun _ h => absurd h List.not_mem_nil)⟩⟩)
theorem zHk_19 {l : Launch} {D : va_G} {cy : Nat → ClassId} {z0 : Nat} {sp : Nat → Nat} {G : State → Prop} (H : zHy l D cy z0 sp G) {n : Nat} (hn : n ≤ 511) {w : zz_W} (h : zIv zQI n 0 w) (p0 : Int32) : ∃ r w', zz_MH l zTs D zcl zFK cy z0 sp (zTys cy) G zy_817 method_20_code 4 (some .int) [(0, 9, 12, 25), (0, 9, 15, 73)] 470 [.ref 0, .int p0, .ref 328] w [.int r] w' ∧ zIv zQM n 1 w' := by
  have h0 := zI_ic0 (zIv_I h)
  obtain ⟨rv, w', hR, hI⟩ := zCm_19 H hn h p0
  obtain ⟨hG, hP, -, -, -, -, -, hE⟩ := H
  rcases hR with ⟨a, rfl, hM⟩ | ⟨rfl, x, hx, hM⟩
  · obtain ⟨N, hN⟩ := zI_328 (zIv_I hI)
    exact ⟨_, _, zHr_817 hG hP (zIv_I hI).1 hN h0 hM, zIv_1 (zIv_up zQM_w9 hI (by omega))⟩
  · rcases List.mem_cons.mp hx with e | hx
    · subst e
      exact ⟨_, _, zHx_817_1 hG hP hE h0 hM, zIv_pu zQM_ok hI (by omega)⟩
    · skip
      rcases List.mem_cons.mp hx with e | hx
      · subst e
        exact ⟨_, _, zHx_817_0 hG hP hE h0 hM, zIv_pu zQM_ok hI (by omega)⟩
      · skip
        exact absurd hx List.not_mem_nil
theorem zCm_21 {l : Launch} {D : va_G} {cy : Nat → ClassId} {z0 : Nat} {sp : Nat → Nat} {G : State → Prop} (H : zHy l D cy z0 sp G) {n : Nat} (hn : n ≤ 511) {w : zz_W} (h : zIv zQI n 0 w) (p0 : Int32) : ∃ rv w', zRl l D cy z0 sp G 469 21 [("java/lang/IllegalStateException", 15), ("java/lang/IllegalArgumentException", 14)] [.ref 0, .int p0] w rv w' ∧ zIv zQM n 0 w' := by
  obtain ⟨hG, hP, hW, hsp0, hWk, hTX, hl, hE⟩ := H
  have hw : w.1 < 16 * 64 := by have := h.2.2.1; omega
  have h0 := zI_ic0 (zIv_I h)
  exact zCl_gen hn h [p0] (Nat.le_of_ble_eq_true rfl) zXk_c21 zXm_c21 rfl rfl (Rl := zRl l D cy z0 sp G 469 21 [("java/lang/IllegalStateException", 15), ("java/lang/IllegalArgumentException", 14)] [.ref 0, .int p0] w) (List.forall_mem_cons.mpr ⟨zPP_px (zPX_21_x0 hG hP hW hsp0 hWk hTX) rfl (by decide) (by decide +kernel) rfl rfl hw, (fun _ h => absurd h List.not_mem_nil)⟩)
theorem zHk_21 {l : Launch} {D : va_G} {cy : Nat → ClassId} {z0 : Nat} {sp : Nat → Nat} {G : State → Prop} (H : zHy l D cy z0 sp G) {n : Nat} (hn : n ≤ 511) {w : zz_W} (h : zIv zQI n 0 w) (p0 : Int32) : ∃ r w', zz_MH l zTs D zcl zFK cy z0 sp (zTys cy) G zy_819 method_22_code 4 (some .int) [(0, 9, 12, 25), (0, 9, 15, 13)] 470 [.ref 0, .int p0, .ref 328] w [.int r] w' ∧ zIv zQM n 1 w' := by
  have h0 := zI_ic0 (zIv_I h)
  obtain ⟨rv, w', hR, hI⟩ := zCm_21 H hn h p0
  obtain ⟨hG, hP, -, -, -, -, -, hE⟩ := H
  rcases hR with ⟨a, rfl, hM⟩ | ⟨rfl, x, hx, hM⟩
  · obtain ⟨N, hN⟩ := zI_328 (zIv_I hI)
    exact ⟨_, _, zHr_819 hG hP (zIv_I hI).1 hN h0 hM, zIv_1 (zIv_up zQM_w9 hI (by omega))⟩
  · rcases List.mem_cons.mp hx with e | hx
    · subst e
      exact ⟨_, _, zHx_819_0 hG hP hE h0 hM, zIv_pu zQM_ok hI (by omega)⟩
    · skip
      rcases List.mem_cons.mp hx with e | hx
      · subst e
        exact ⟨_, _, zHx_819_1 hG hP hE h0 hM, zIv_pu zQM_ok hI (by omega)⟩
      · skip
        exact absurd hx List.not_mem_nil
theorem zMx_22_75 {l : Launch} {D : va_G} {cy : Nat → ClassId} {z0 : Nat} {sp : Nat → Nat} {G : State → Prop} (hG : zz_GF z0 G) (hP : ∀ U, G U → zz_GD zS zS2 zLg z0 sp U) {w : zz_W} (h0 : zz_ic w 0 1 = true) {p0 : Int32} (E : String) (w' : zz_W) (hM : zz_MX l zTs D zcl zFK cy z0 sp (zTys cy) G zYN zCN zMQ zRT 468 75 ([.ref 0, .int p0].take 1) w E w') : zz_MX l zTs D zcl zFK cy z0 sp (zTys cy) G zYN zCN zMQ zRT 469 22 [.ref 0, .int p0] w E w' := by
  have T : zz_TO l zTs D zcl zFK cy z0 sp (zTys cy) G "ToolMill" "meant" 2 prog_1_method_23_code 468 zz_k0 zP_22 := zP_s zz_k0_KS hG hP 22 (by decide) (Or.inl (by decide))
  have b := zz_B_rf (l := l) (Ts := zTs) (D := D) (cl := zcl) (fk := zFK) (cy := cy) (z0 := z0) (sp := sp) (tys := zTys cy) (G := G) (own := "ToolMill") (mn := "meant") (nL := 2) (cc := prog_1_method_23_code) (d := 468) ((0, lv_args 0 [.ref 0, .int p0], [], w) : zz_F)
  replace b := zz_fw b T (rfl : zz_ent zP_22 0 = (0, za_aload 0 1)) (ze_aload rfl)
  exact zz_MX_B rfl rfl rfl rfl (by decide +kernel) (zz_lb rfl) (zz_TX_B b (zxc_22_1 (as := []) (r := []) hG hM rfl h0 (zz_lb rfl)))
theorem zCm_22 {l : Launch} {D : va_G} {cy : Nat → ClassId} {z0 : Nat} {sp : Nat → Nat} {G : State → Prop} (H : zHy l D cy z0 sp G) {n : Nat} (hn : n ≤ 511) {w : zz_W} (h : zIv zQI n 0 w) (p0 : Int32) : ∃ rv w', zRl l D cy z0 sp G 469 22 [("java/lang/IllegalArgumentException", 14), ("java/lang/IllegalStateException", 15)] [.ref 0, .int p0] w rv w' ∧ zIv zQM n 0 w' := by
  obtain ⟨hG, hP, hW, hsp0, hWk, hTX, hl, hE⟩ := H
  have hw : w.1 < 16 * 64 := by have := h.2.2.1; omega
  have h0 := zI_ic0 (zIv_I h)
  exact zCl_gen hn h [p0] (Nat.le_of_ble_eq_true rfl) zXk_c22 zXm_c22 rfl rfl (Rl := zRl l D cy z0 sp G 469 22 [("java/lang/IllegalArgumentException", 14), ("java/lang/IllegalStateException", 15)] [.ref 0, .int p0] w) (List.forall_mem_cons.mpr ⟨zPP_px (zk_liftP zHX_ok (by decide +kernel) (zPX_22_x0 hG hP hW hTX)) rfl (by decide) (by decide +kernel) rfl rfl hw, List.forall_mem_cons.mpr ⟨zPP_th (zk_liftP zHX_ok (by decide +kernel) (zPX_75_x0 hG hP hW hTX)) rfl (by decide) (by decide +kernel) hw (zMx_22_75 hG hP h0), (fun _ h => absurd h List.not_mem_nil)⟩⟩)
theorem zHk_22 {l : Launch} {D : va_G} {cy : Nat → ClassId} {z0 : Nat} {sp : Nat → Nat} {G : State → Prop} (H : zHy l D cy z0 sp G) {n : Nat} (hn : n ≤ 511) {w : zz_W} (h : zIv zQI n 0 w) (p0 : Int32) : ∃ r w', zz_MH l zTs D zcl zFK cy z0 sp (zTys cy) G zy_820 method_23_code 4 (some .int) [(0, 9, 12, 25), (0, 9, 15, 13)] 470 [.ref 0, .int p0, .ref 328] w [.int r] w' ∧ zIv zQM n 1 w' := by
  have h0 := zI_ic0 (zIv_I h)
  obtain ⟨rv, w', hR, hI⟩ := zCm_22 H hn h p0
  obtain ⟨hG, hP, -, -, -, -, -, hE⟩ := H
  rcases hR with ⟨a, rfl, hM⟩ | ⟨rfl, x, hx, hM⟩
  · obtain ⟨N, hN⟩ := zI_328 (zIv_I hI)
    exact ⟨_, _, zHr_820 hG hP (zIv_I hI).1 hN h0 hM, zIv_1 (zIv_up zQM_w9 hI (by omega))⟩
  · rcases List.mem_cons.mp hx with e | hx
    · subst e
      exact ⟨_, _, zHx_820_1 hG hP hE h0 hM, zIv_pu zQM_ok hI (by omega)⟩
    · skip
      rcases List.mem_cons.mp hx with e | hx
      · subst e
        exact ⟨_, _, zHx_820_0 hG hP hE h0 hM, zIv_pu zQM_ok hI (by omega)⟩
      · skip
        exact absurd hx List.not_mem_nil
theorem zMx_23_75 {l : Launch} {D : va_G} {cy : Nat → ClassId} {z0 : Nat} {sp : Nat → Nat} {G : State → Prop} (hG : zz_GF z0 G) (hP : ∀ U, G U → zz_GD zS zS2 zLg z0 sp U) {w : zz_W} (h0 : zz_ic w 0 1 = true) {p0 : Int32} (E : String) (w' : zz_W) (hM : zz_MX l zTs D zcl zFK cy z0 sp (zTys cy) G zYN zCN zMQ zRT 468 75 ([.ref 0, .int p0].take 1) w E w') : zz_MX l zTs D zcl zFK cy z0 sp (zTys cy) G zYN zCN zMQ zRT 469 23 [.ref 0, .int p0] w E w' := by
  have T : zz_TO l zTs D zcl zFK cy z0 sp (zTys cy) G "ToolMill" "said" 2 prog_1_method_24_code 468 zz_k0 zP_23 := zP_s zz_k0_KS hG hP 23 (by decide) (Or.inl (by decide))
  have b := zz_B_rf (l := l) (Ts := zTs) (D := D) (cl := zcl) (fk := zFK) (cy := cy) (z0 := z0) (sp := sp) (tys := zTys cy) (G := G) (own := "ToolMill") (mn := "said") (nL := 2) (cc := prog_1_method_24_code) (d := 468) ((0, lv_args 0 [.ref 0, .int p0], [], w) : zz_F)
  replace b := zz_fw b T (rfl : zz_ent zP_23 0 = (0, za_aload 0 1)) (ze_aload rfl)
  exact zz_MX_B rfl rfl rfl rfl (by decide +kernel) (zz_lb rfl) (zz_TX_B b (zxc_23_1 (as := []) (r := []) hG hM rfl h0 (zz_lb rfl)))
theorem zCm_23 {l : Launch} {D : va_G} {cy : Nat → ClassId} {z0 : Nat} {sp : Nat → Nat} {G : State → Prop} (H : zHy l D cy z0 sp G) {n : Nat} (hn : n ≤ 511) {w : zz_W} (h : zIv zQI n 0 w) (p0 : Int32) : ∃ rv w', zRl l D cy z0 sp G 469 23 [("java/lang/IndexOutOfBoundsException", 17), ("java/lang/IllegalStateException", 15)] [.ref 0, .int p0] w rv w' ∧ zIv zQM n 0 w' := by
  obtain ⟨hG, hP, hW, hsp0, hWk, hTX, hl, hE⟩ := H
  have hw : w.1 < 16 * 64 := by have := h.2.2.1; omega
  have h0 := zI_ic0 (zIv_I h)
  exact zCl_gen hn h [p0] (Nat.le_of_ble_eq_true rfl) zXk_c23 zXm_c23 rfl rfl (Rl := zRl l D cy z0 sp G 469 23 [("java/lang/IndexOutOfBoundsException", 17), ("java/lang/IllegalStateException", 15)] [.ref 0, .int p0] w) (List.forall_mem_cons.mpr ⟨zPP_px (zk_liftP zHX_ok (by decide +kernel) (zPX_23_x0 hG hP hW hTX)) rfl (by decide) (by decide +kernel) rfl rfl hw, List.forall_mem_cons.mpr ⟨zPP_th (zk_liftP zHX_ok (by decide +kernel) (zPX_75_x0 hG hP hW hTX)) rfl (by decide) (by decide +kernel) hw (zMx_23_75 hG hP h0), (fun _ h => absurd h List.not_mem_nil)⟩⟩)
theorem zHk_23 {l : Launch} {D : va_G} {cy : Nat → ClassId} {z0 : Nat} {sp : Nat → Nat} {G : State → Prop} (H : zHy l D cy z0 sp G) {n : Nat} (hn : n ≤ 511) {w : zz_W} (h : zIv zQI n 0 w) (p0 : Int32) : ∃ r w', zz_MH l zTs D zcl zFK cy z0 sp (zTys cy) G zy_821 method_24_code 4 (some .int) [(0, 9, 12, 25), (0, 9, 15, 73)] 470 [.ref 0, .int p0, .ref 328] w [.int r] w' ∧ zIv zQM n 1 w' := by
  have h0 := zI_ic0 (zIv_I h)
  obtain ⟨rv, w', hR, hI⟩ := zCm_23 H hn h p0
  obtain ⟨hG, hP, -, -, -, -, -, hE⟩ := H
  rcases hR with ⟨a, rfl, hM⟩ | ⟨rfl, x, hx, hM⟩
  · obtain ⟨N, hN⟩ := zI_328 (zIv_I hI)
    exact ⟨_, _, zHr_821 hG hP (zIv_I hI).1 hN h0 hM, zIv_1 (zIv_up zQM_w9 hI (by omega))⟩
  · rcases List.mem_cons.mp hx with e | hx
    · subst e
      exact ⟨_, _, zHx_821_1 hG hP hE h0 hM, zIv_pu zQM_ok hI (by omega)⟩
    · skip
      rcases List.mem_cons.mp hx with e | hx
      · subst e
        exact ⟨_, _, zHx_821_0 hG hP hE h0 hM, zIv_pu zQM_ok hI (by omega)⟩
      · skip
        exact absurd hx List.not_mem_nil
theorem zRm_27 {l : Launch} {D : va_G} {cy : Nat → ClassId} {z0 : Nat} {sp : Nat → Nat} {G : State → Prop} (H : zHy l D cy z0 sp G) {n : Nat} (hn : n ≤ 511) {w : zz_W} (h : zIv zQM n 1 w)  : ∃ a w', zz_M l zTs D zcl zFK cy z0 sp (zTys cy) G zYN zCN zMQ zRT 470 27 [.ref 171] w [.int a] w' ∧ zIv zQI (n + 1) 0 w' := by
  obtain ⟨hG, hP, hW, hsp0, hWk, hTX, hl, hE⟩ := H
  exact zRf_gen hn h [] (Nat.le_of_ble_eq_true rfl) zXk_r27 zXm_r27 rfl rfl (Rl := fun rv w' => zz_M l zTs D zcl zFK cy z0 sp (zTys cy) G zYN zCN zMQ zRT 470 27 [.ref 171] w rv w') (List.forall_mem_cons.mpr ⟨zPP_cm (zk_liftC zHX_ok (by decide +kernel) (zCon_27 hG hP hW)) rfl rfl, (fun _ h => absurd h List.not_mem_nil)⟩)
theorem zRm_28 {l : Launch} {D : va_G} {cy : Nat → ClassId} {z0 : Nat} {sp : Nat → Nat} {G : State → Prop} (H : zHy l D cy z0 sp G) {n : Nat} (hn : n ≤ 511) {w : zz_W} (h : zIv zQM n 1 w)  : ∃ a w', zz_M l zTs D zcl zFK cy z0 sp (zTys cy) G zYN zCN zMQ zRT 470 28 [.ref 171] w [.int a] w' ∧ zIv zQI (n + 1) 0 w' := by
  obtain ⟨hG, hP, hW, hsp0, hWk, hTX, hl, hE⟩ := H
  exact zRf_gen hn h [] (Nat.le_of_ble_eq_true rfl) zXk_r28 zXm_r28 rfl rfl (Rl := fun rv w' => zz_M l zTs D zcl zFK cy z0 sp (zTys cy) G zYN zCN zMQ zRT 470 28 [.ref 171] w rv w') (List.forall_mem_cons.mpr ⟨zPP_cm (zk_liftC zHX_ok (by decide +kernel) (zCon_28 hG hP hW)) rfl rfl, (fun _ h => absurd h List.not_mem_nil)⟩)
theorem zRm_30 {l : Launch} {D : va_G} {cy : Nat → ClassId} {z0 : Nat} {sp : Nat → Nat} {G : State → Prop} (H : zHy l D cy z0 sp G) {n : Nat} (hn : n ≤ 511) {w : zz_W} (h : zIv zQM n 1 w) (p0 : Int32) : ∃ a w', zz_M l zTs D zcl zFK cy z0 sp (zTys cy) G zYN zCN zMQ zRT 470 30 [.ref 171, .int p0] w [.int a] w' ∧ zIv zQI (n + 1) 0 w' := by
  obtain ⟨hG, hP, hW, hsp0, hWk, hTX, hl, hE⟩ := H
  exact zRf_gen hn h [p0] (Nat.le_of_ble_eq_true rfl) zXk_r30 zXm_r30 rfl rfl (Rl := fun rv w' => zz_M l zTs D zcl zFK cy z0 sp (zTys cy) G zYN zCN zMQ zRT 470 30 [.ref 171, .int p0] w rv w') (List.forall_mem_cons.mpr ⟨zPP_cm (zk_liftC zHX_ok (by decide +kernel) (zCon_30 hG hP hW)) rfl rfl, (fun _ h => absurd h List.not_mem_nil)⟩)
theorem zRm_31 {l : Launch} {D : va_G} {cy : Nat → ClassId} {z0 : Nat} {sp : Nat → Nat} {G : State → Prop} (H : zHy l D cy z0 sp G) {n : Nat} (hn : n ≤ 511) {w : zz_W} (h : zIv zQM n 1 w) (p0 : Int32) (p1 : Int32) : ∃ a w', zz_M l zTs D zcl zFK cy z0 sp (zTys cy) G zYN zCN zMQ zRT 470 31 [.ref 171, .int p0, .int p1] w [.int a] w' ∧ zIv zQI (n + 1) 0 w' := by
  obtain ⟨hG, hP, hW, hsp0, hWk, hTX, hl, hE⟩ := H
  exact zRf_gen hn h [p0, p1] (Nat.le_of_ble_eq_true rfl) zXk_r31 zXm_r31 rfl rfl (Rl := fun rv w' => zz_M l zTs D zcl zFK cy z0 sp (zTys cy) G zYN zCN zMQ zRT 470 31 [.ref 171, .int p0, .int p1] w rv w') (List.forall_mem_cons.mpr ⟨zPP_cm (zk_liftC zHX_ok (by decide +kernel) (zCon_31 hG hP hW)) rfl rfl, (fun _ h => absurd h List.not_mem_nil)⟩)
theorem zRm_32 {l : Launch} {D : va_G} {cy : Nat → ClassId} {z0 : Nat} {sp : Nat → Nat} {G : State → Prop} (H : zHy l D cy z0 sp G) {n : Nat} (hn : n ≤ 511) {w : zz_W} (h : zIv zQM n 1 w) (p0 : Int32) (p1 : Int32) : ∃ a w', zz_M l zTs D zcl zFK cy z0 sp (zTys cy) G zYN zCN zMQ zRT 470 32 [.ref 171, .int p0, .int p1] w [.int a] w' ∧ zIv zQI (n + 1) 0 w' := by
  obtain ⟨hG, hP, hW, hsp0, hWk, hTX, hl, hE⟩ := H
  exact zRf_gen hn h [p0, p1] (Nat.le_of_ble_eq_true rfl) zXk_r32 zXm_r32 rfl rfl (Rl := fun rv w' => zz_M l zTs D zcl zFK cy z0 sp (zTys cy) G zYN zCN zMQ zRT 470 32 [.ref 171, .int p0, .int p1] w rv w') (List.forall_mem_cons.mpr ⟨zPP_cm (zk_liftC zHX_ok (by decide +kernel) (zCon_32 hG hP hW)) rfl rfl, (fun _ h => absurd h List.not_mem_nil)⟩)
theorem zRm_33 {l : Launch} {D : va_G} {cy : Nat → ClassId} {z0 : Nat} {sp : Nat → Nat} {G : State → Prop} (H : zHy l D cy z0 sp G) {n : Nat} (hn : n ≤ 511) {w : zz_W} (h : zIv zQM n 1 w) (p0 : Int32) (p1 : Int32) (p2 : Int32) : ∃ a w', zz_M l zTs D zcl zFK cy z0 sp (zTys cy) G zYN zCN zMQ zRT 470 33 [.ref 171, .int p0, .int p1, .int p2] w [.int a] w' ∧ zIv zQI (n + 1) 0 w' := by
  obtain ⟨hG, hP, hW, hsp0, hWk, hTX, hl, hE⟩ := H
  exact zRf_gen hn h [p0, p1, p2] (Nat.le_of_ble_eq_true rfl) zXk_r33 zXm_r33 rfl rfl (Rl := fun rv w' => zz_M l zTs D zcl zFK cy z0 sp (zTys cy) G zYN zCN zMQ zRT 470 33 [.ref 171, .int p0, .int p1, .int p2] w rv w') (List.forall_mem_cons.mpr ⟨zPP_cm (zk_liftC zHX_ok (by decide +kernel) (zCon_33 hG hP hW)) rfl rfl, (fun _ h => absurd h List.not_mem_nil)⟩)
theorem zRm_34 {l : Launch} {D : va_G} {cy : Nat → ClassId} {z0 : Nat} {sp : Nat → Nat} {G : State → Prop} (H : zHy l D cy z0 sp G) {n : Nat} (hn : n ≤ 511) {w : zz_W} (h : zIv zQM n 1 w) (p0 : Int32) (p1 : Int32) (p2 : Int32) : ∃ a w', zz_M l zTs D zcl zFK cy z0 sp (zTys cy) G zYN zCN zMQ zRT 470 34 [.ref 171, .int p0, .int p1, .int p2] w [.int a] w' ∧ zIv zQI (n + 1) 0 w' := by
  obtain ⟨hG, hP, hW, hsp0, hWk, hTX, hl, hE⟩ := H
  exact zRf_gen hn h [p0, p1, p2] (Nat.le_of_ble_eq_true rfl) zXk_r34 zXm_r34 rfl rfl (Rl := fun rv w' => zz_M l zTs D zcl zFK cy z0 sp (zTys cy) G zYN zCN zMQ zRT 470 34 [.ref 171, .int p0, .int p1, .int p2] w rv w') (List.forall_mem_cons.mpr ⟨zPP_cm (zk_liftC zHX_ok (by decide +kernel) (zCon_34 hG hP hW)) rfl rfl, (fun _ h => absurd h List.not_mem_nil)⟩)
theorem zRm_35 {l : Launch} {D : va_G} {cy : Nat → ClassId} {z0 : Nat} {sp : Nat → Nat} {G : State → Prop} (H : zHy l D cy z0 sp G) {n : Nat} (hn : n ≤ 511) {w : zz_W} (h : zIv zQM n 1 w) (p0 : Int32) (p1 : Int32) (p2 : Int32) : ∃ a w', zz_M l zTs D zcl zFK cy z0 sp (zTys cy) G zYN zCN zMQ zRT 470 35 [.ref 171, .int p0, .int p1, .int p2] w [.int a] w' ∧ zIv zQI (n + 1) 0 w' := by
  obtain ⟨hG, hP, hW, hsp0, hWk, hTX, hl, hE⟩ := H
  exact zRf_gen hn h [p0, p1, p2] (Nat.le_of_ble_eq_true rfl) zXk_r35 zXm_r35 rfl rfl (Rl := fun rv w' => zz_M l zTs D zcl zFK cy z0 sp (zTys cy) G zYN zCN zMQ zRT 470 35 [.ref 171, .int p0, .int p1, .int p2] w rv w') (List.forall_mem_cons.mpr ⟨zPP_cm (zk_liftC zHX_ok (by decide +kernel) (zCon_35 hG hP hW)) rfl rfl, (fun _ h => absurd h List.not_mem_nil)⟩)
theorem zRm_36 {l : Launch} {D : va_G} {cy : Nat → ClassId} {z0 : Nat} {sp : Nat → Nat} {G : State → Prop} (H : zHy l D cy z0 sp G) {n : Nat} (hn : n ≤ 511) {w : zz_W} (h : zIv zQM n 1 w) (p0 : Int32) (p1 : Int32) (p2 : Int32) : ∃ a w', zz_M l zTs D zcl zFK cy z0 sp (zTys cy) G zYN zCN zMQ zRT 470 36 [.ref 171, .int p0, .int p1, .int p2] w [.int a] w' ∧ zIv zQI (n + 1) 0 w' := by
  obtain ⟨hG, hP, hW, hsp0, hWk, hTX, hl, hE⟩ := H
  exact zRf_gen hn h [p0, p1, p2] (Nat.le_of_ble_eq_true rfl) zXk_r36 zXm_r36 rfl rfl (Rl := fun rv w' => zz_M l zTs D zcl zFK cy z0 sp (zTys cy) G zYN zCN zMQ zRT 470 36 [.ref 171, .int p0, .int p1, .int p2] w rv w') (List.forall_mem_cons.mpr ⟨zPP_cm (zk_liftC zHX_ok (by decide +kernel) (zCon_36 hG hP hW)) rfl rfl, (fun _ h => absurd h List.not_mem_nil)⟩)
theorem zRm_37 {l : Launch} {D : va_G} {cy : Nat → ClassId} {z0 : Nat} {sp : Nat → Nat} {G : State → Prop} (H : zHy l D cy z0 sp G) {n : Nat} (hn : n ≤ 511) {w : zz_W} (h : zIv zQM n 1 w) (p0 : Int32) : ∃ a w', zz_M l zTs D zcl zFK cy z0 sp (zTys cy) G zYN zCN zMQ zRT 470 37 [.ref 171, .int p0] w [.int a] w' ∧ zIv zQI (n + 1) 0 w' := by
  obtain ⟨hG, hP, hW, hsp0, hWk, hTX, hl, hE⟩ := H
  exact zRf_gen hn h [p0] (Nat.le_of_ble_eq_true rfl) zXk_r37 zXm_r37 rfl rfl (Rl := fun rv w' => zz_M l zTs D zcl zFK cy z0 sp (zTys cy) G zYN zCN zMQ zRT 470 37 [.ref 171, .int p0] w rv w') (List.forall_mem_cons.mpr ⟨zPP_cm (zk_liftC zHX_ok (by decide +kernel) (zCon_37 hG hP hW)) rfl rfl, (fun _ h => absurd h List.not_mem_nil)⟩)
theorem zRm_38 {l : Launch} {D : va_G} {cy : Nat → ClassId} {z0 : Nat} {sp : Nat → Nat} {G : State → Prop} (H : zHy l D cy z0 sp G) {n : Nat} (hn : n ≤ 511) {w : zz_W} (h : zIv zQM n 1 w) (p0 : Int32) (p1 : Int32) : ∃ a w', zz_M l zTs D zcl zFK cy z0 sp (zTys cy) G zYN zCN zMQ zRT 470 38 [.ref 171, .int p0, .int p1] w [.int a] w' ∧ zIv zQI (n + 1) 0 w' := by
  obtain ⟨hG, hP, hW, hsp0, hWk, hTX, hl, hE⟩ := H
  exact zRf_gen hn h [p0, p1] (Nat.le_of_ble_eq_true rfl) zXk_r38 zXm_r38 rfl rfl (Rl := fun rv w' => zz_M l zTs D zcl zFK cy z0 sp (zTys cy) G zYN zCN zMQ zRT 470 38 [.ref 171, .int p0, .int p1] w rv w') (List.forall_mem_cons.mpr ⟨zPP_cm (zk_liftC zHX_ok (by decide +kernel) (zCon_38 hG hP hW)) rfl rfl, (fun _ h => absurd h List.not_mem_nil)⟩)
theorem zRm_39 {l : Launch} {D : va_G} {cy : Nat → ClassId} {z0 : Nat} {sp : Nat → Nat} {G : State → Prop} (H : zHy l D cy z0 sp G) {n : Nat} (hn : n ≤ 511) {w : zz_W} (h : zIv zQM n 1 w) (p0 : Int32) : ∃ a w', zz_M l zTs D zcl zFK cy z0 sp (zTys cy) G zYN zCN zMQ zRT 470 39 [.ref 171, .int p0] w [.int a] w' ∧ zIv zQI (n + 1) 0 w' := by
  obtain ⟨hG, hP, hW, hsp0, hWk, hTX, hl, hE⟩ := H
  exact zRf_gen hn h [p0] (Nat.le_of_ble_eq_true rfl) zXk_r39 zXm_r39 rfl rfl (Rl := fun rv w' => zz_M l zTs D zcl zFK cy z0 sp (zTys cy) G zYN zCN zMQ zRT 470 39 [.ref 171, .int p0] w rv w') (List.forall_mem_cons.mpr ⟨zPP_cm (zk_liftC zHX_ok (by decide +kernel) (zCon_39 hG hP hW)) rfl rfl, (fun _ h => absurd h List.not_mem_nil)⟩)
theorem zRm_40 {l : Launch} {D : va_G} {cy : Nat → ClassId} {z0 : Nat} {sp : Nat → Nat} {G : State → Prop} (H : zHy l D cy z0 sp G) {n : Nat} (hn : n ≤ 511) {w : zz_W} (h : zIv zQM n 1 w) (p0 : Int32) : ∃ a w', zz_M l zTs D zcl zFK cy z0 sp (zTys cy) G zYN zCN zMQ zRT 470 40 [.ref 171, .int p0] w [.int a] w' ∧ zIv zQI (n + 1) 0 w' := by
  obtain ⟨hG, hP, hW, hsp0, hWk, hTX, hl, hE⟩ := H
  exact zRf_gen hn h [p0] (Nat.le_of_ble_eq_true rfl) zXk_r40 zXm_r40 rfl rfl (Rl := fun rv w' => zz_M l zTs D zcl zFK cy z0 sp (zTys cy) G zYN zCN zMQ zRT 470 40 [.ref 171, .int p0] w rv w') (List.forall_mem_cons.mpr ⟨zPP_cm (zk_liftC zHX_ok (by decide +kernel) (zCon_40 hG hP hW)) rfl rfl, (fun _ h => absurd h List.not_mem_nil)⟩)
theorem zRm_41 {l : Launch} {D : va_G} {cy : Nat → ClassId} {z0 : Nat} {sp : Nat → Nat} {G : State → Prop} (H : zHy l D cy z0 sp G) {n : Nat} (hn : n ≤ 511) {w : zz_W} (h : zIv zQM n 1 w) (p0 : Int32) : ∃ a w', zz_M l zTs D zcl zFK cy z0 sp (zTys cy) G zYN zCN zMQ zRT 470 41 [.ref 171, .int p0] w [.int a] w' ∧ zIv zQI (n + 1) 0 w' := by
  obtain ⟨hG, hP, hW, hsp0, hWk, hTX, hl, hE⟩ := H
  exact zRf_gen hn h [p0] (Nat.le_of_ble_eq_true rfl) zXk_r41 zXm_r41 rfl rfl (Rl := fun rv w' => zz_M l zTs D zcl zFK cy z0 sp (zTys cy) G zYN zCN zMQ zRT 470 41 [.ref 171, .int p0] w rv w') (List.forall_mem_cons.mpr ⟨zPP_cm (zk_liftC zHX_ok (by decide +kernel) (zCon_41 hG hP hW)) rfl rfl, (fun _ h => absurd h List.not_mem_nil)⟩)
theorem zRm_42 {l : Launch} {D : va_G} {cy : Nat → ClassId} {z0 : Nat} {sp : Nat → Nat} {G : State → Prop} (H : zHy l D cy z0 sp G) {n : Nat} (hn : n ≤ 511) {w : zz_W} (h : zIv zQM n 1 w) (p0 : Int32) : ∃ a w', zz_M l zTs D zcl zFK cy z0 sp (zTys cy) G zYN zCN zMQ zRT 470 42 [.ref 171, .int p0] w [.int a] w' ∧ zIv zQI (n + 1) 0 w' := by
  obtain ⟨hG, hP, hW, hsp0, hWk, hTX, hl, hE⟩ := H
  exact zRf_gen hn h [p0] (Nat.le_of_ble_eq_true rfl) zXk_r42 zXm_r42 rfl rfl (Rl := fun rv w' => zz_M l zTs D zcl zFK cy z0 sp (zTys cy) G zYN zCN zMQ zRT 470 42 [.ref 171, .int p0] w rv w') (List.forall_mem_cons.mpr ⟨zPP_cm (zk_liftC zHX_ok (by decide +kernel) (zCon_42 hG hP hW)) rfl rfl, (fun _ h => absurd h List.not_mem_nil)⟩)
theorem zRm_43 {l : Launch} {D : va_G} {cy : Nat → ClassId} {z0 : Nat} {sp : Nat → Nat} {G : State → Prop} (H : zHy l D cy z0 sp G) {n : Nat} (hn : n ≤ 511) {w : zz_W} (h : zIv zQM n 1 w) (p0 : Int32) : ∃ a w', zz_M l zTs D zcl zFK cy z0 sp (zTys cy) G zYN zCN zMQ zRT 470 43 [.ref 171, .int p0] w [.int a] w' ∧ zIv zQI (n + 1) 0 w' := by
  obtain ⟨hG, hP, hW, hsp0, hWk, hTX, hl, hE⟩ := H
  exact zRf_gen hn h [p0] (Nat.le_of_ble_eq_true rfl) zXk_r43 zXm_r43 rfl rfl (Rl := fun rv w' => zz_M l zTs D zcl zFK cy z0 sp (zTys cy) G zYN zCN zMQ zRT 470 43 [.ref 171, .int p0] w rv w') (List.forall_mem_cons.mpr ⟨zPP_cm (zk_liftC zHX_ok (by decide +kernel) (zCon_43 hG hP hW)) rfl rfl, (fun _ h => absurd h List.not_mem_nil)⟩)
theorem zRm_44 {l : Launch} {D : va_G} {cy : Nat → ClassId} {z0 : Nat} {sp : Nat → Nat} {G : State → Prop} (H : zHy l D cy z0 sp G) {n : Nat} (hn : n ≤ 511) {w : zz_W} (h : zIv zQM n 1 w) (p0 : Int32) (p1 : Int32) : ∃ a w', zz_M l zTs D zcl zFK cy z0 sp (zTys cy) G zYN zCN zMQ zRT 470 44 [.ref 171, .int p0, .int p1] w [.int a] w' ∧ zIv zQI (n + 1) 0 w' := by
  obtain ⟨hG, hP, hW, hsp0, hWk, hTX, hl, hE⟩ := H
  exact zRf_gen hn h [p0, p1] (Nat.le_of_ble_eq_true rfl) zXk_r44 zXm_r44 rfl rfl (Rl := fun rv w' => zz_M l zTs D zcl zFK cy z0 sp (zTys cy) G zYN zCN zMQ zRT 470 44 [.ref 171, .int p0, .int p1] w rv w') (List.forall_mem_cons.mpr ⟨zPP_cm (zk_liftC zHX_ok (by decide +kernel) (zCon_44 hG hP hW)) rfl rfl, (fun _ h => absurd h List.not_mem_nil)⟩)
theorem zRm_45 {l : Launch} {D : va_G} {cy : Nat → ClassId} {z0 : Nat} {sp : Nat → Nat} {G : State → Prop} (H : zHy l D cy z0 sp G) {n : Nat} (hn : n ≤ 511) {w : zz_W} (h : zIv zQM n 1 w) (p0 : Int32) : ∃ a w', zz_M l zTs D zcl zFK cy z0 sp (zTys cy) G zYN zCN zMQ zRT 470 45 [.ref 171, .int p0] w [.int a] w' ∧ zIv zQI (n + 1) 0 w' := by
  obtain ⟨hG, hP, hW, hsp0, hWk, hTX, hl, hE⟩ := H
  exact zRf_gen hn h [p0] (Nat.le_of_ble_eq_true rfl) zXk_r45 zXm_r45 rfl rfl (Rl := fun rv w' => zz_M l zTs D zcl zFK cy z0 sp (zTys cy) G zYN zCN zMQ zRT 470 45 [.ref 171, .int p0] w rv w') (List.forall_mem_cons.mpr ⟨zPP_cm (zk_liftC zHX_ok (by decide +kernel) (zCon_45 hG hP hW)) rfl rfl, (fun _ h => absurd h List.not_mem_nil)⟩)
theorem zRm_46 {l : Launch} {D : va_G} {cy : Nat → ClassId} {z0 : Nat} {sp : Nat → Nat} {G : State → Prop} (H : zHy l D cy z0 sp G) {n : Nat} (hn : n ≤ 511) {w : zz_W} (h : zIv zQM n 1 w) (p0 : Int32) : ∃ a w', zz_M l zTs D zcl zFK cy z0 sp (zTys cy) G zYN zCN zMQ zRT 470 46 [.ref 171, .int p0] w [.int a] w' ∧ zIv zQI (n + 1) 0 w' := by
  obtain ⟨hG, hP, hW, hsp0, hWk, hTX, hl, hE⟩ := H
  exact zRf_gen hn h [p0] (Nat.le_of_ble_eq_true rfl) zXk_r46 zXm_r46 rfl rfl (Rl := fun rv w' => zz_M l zTs D zcl zFK cy z0 sp (zTys cy) G zYN zCN zMQ zRT 470 46 [.ref 171, .int p0] w rv w') (List.forall_mem_cons.mpr ⟨zPP_cm (zk_liftC zHX_ok (by decide +kernel) (zCon_46 hG hP hW)) rfl rfl, (fun _ h => absurd h List.not_mem_nil)⟩)
theorem zRm_47 {l : Launch} {D : va_G} {cy : Nat → ClassId} {z0 : Nat} {sp : Nat → Nat} {G : State → Prop} (H : zHy l D cy z0 sp G) {n : Nat} (hn : n ≤ 511) {w : zz_W} (h : zIv zQM n 1 w) (p0 : Int32) : ∃ a w', zz_M l zTs D zcl zFK cy z0 sp (zTys cy) G zYN zCN zMQ zRT 470 47 [.ref 171, .int p0] w [.int a] w' ∧ zIv zQI (n + 1) 0 w' := by
  obtain ⟨hG, hP, hW, hsp0, hWk, hTX, hl, hE⟩ := H
  exact zRf_gen hn h [p0] (Nat.le_of_ble_eq_true rfl) zXk_r47 zXm_r47 rfl rfl (Rl := fun rv w' => zz_M l zTs D zcl zFK cy z0 sp (zTys cy) G zYN zCN zMQ zRT 470 47 [.ref 171, .int p0] w rv w') (List.forall_mem_cons.mpr ⟨zPP_cm (zk_liftC zHX_ok (by decide +kernel) (zCon_47 hG hP hW)) rfl rfl, (fun _ h => absurd h List.not_mem_nil)⟩)
theorem zIv_IX {X : zk_St} {n e : Nat} {w : zz_W} (h : zIv X n e w) : zk_I 64 zHX w := zIv_I h
theorem zQPr_w9 : zl_w9 zQPr = true := by decide +kernel
theorem zQPx_w9 : zl_w9 zQPx = true := by decide +kernel
theorem zQPx_ok : zkt_ok zHX (zk_sux zTL zTM zXS) zQPx = true := by decide +kernel
theorem zQPn_ok : zkt_ok zHX (zk_sux zTL zTM zXS) zQPn = true := by decide +kernel
theorem zQPm_ok : zkt_ok zHX (zk_sux zTL zTM zXS) zQPm = true := by decide +kernel
theorem zQM_wB : zl_wB zQM = true := by decide +kernel
theorem zQPr_ok : zkt_ok zHX (zk_sux zTL zTM zXS) zQPr = true := by decide +kernel
theorem zCm_1 {l : Launch} {D : va_G} {cy : Nat → ClassId} {z0 : Nat} {sp : Nat → Nat} {G : State → Prop} (H : zHy l D cy z0 sp G) {n : Nat} (hn : n ≤ 511) {w : zz_W} (h : zIv zQI n 0 w) (p0 : Int32) : ∃ rv w', zRl l D cy z0 sp G 469 1 [("java/lang/IllegalArgumentException", 14), ("java/lang/UnsupportedOperationException", 18)] [.ref 0, .int p0] w rv w' ∧ (zJv zQPr n 0 p0 w' ∨ zJv zQPx n 0 p0 w') := by
  obtain ⟨hG, hP, hW, hsp0, hWk, hTX, hl, hE⟩ := H
  have hw : w.1 < 16 * 64 := by have := h.2.2.1; omega
  obtain ⟨t, t0, tp, g⟩ := zG_arg1 hn h p0
  obtain ⟨rv, w', r1, ⟨s', Q, q1, q2, q3⟩, hb, d1, d2⟩ := zG_call (n := n) (e := 0) g h.2.1 h.2.2.1 h.2.2.2 (by omega) (pre := [zl_sym 0, zl_sym zNQ]) (by decide +kernel) zXk_c1 zXm_c1 rfl (Rl := zRl l D cy z0 sp G 469 1 [("java/lang/IllegalArgumentException", 14), ("java/lang/UnsupportedOperationException", 18)] [.ref 0, .int p0] w) (List.forall_mem_cons.mpr ⟨zPP_px (zk_liftP zHX_ok (by decide +kernel) (zPX_1_x0 hG hP hW hTX)) rfl (by decide) (by decide +kernel) rfl rfl hw, List.forall_mem_cons.mpr ⟨zPP_px (zk_liftP zHX_ok (by decide +kernel) (zPX_1_x1 hG hP hW hTX)) rfl (by decide) (by decide +kernel) rfl rfl hw, (fun _ h => absurd h List.not_mem_nil)⟩⟩)
  have c1 := h.2.2.1
  have c2 := h.2.2.2
  refine ⟨rv, w', r1, ?_⟩
  rcases List.mem_cons.mp q1 with e | q1
  · subst e
    exact Or.inl ⟨⟨s', ⟨(q3 0 _ rfl).trans (by rw [zl_sym_ev, t0]), (q3 1 _ rfl).trans (by rw [zl_sym_ev, tp])⟩, zG2_drop (L := zQPr.1.1) (T := zQPr.1.2.1 ++ [(0, 0, zl_sym zQPr.1.2.2.2.1.length)]) (F := zQPr.1.2.2.1) (B := zQPr.1.2.2.2.1) (X := [(-2147483648, 2147483647)]) (C := zQPr.1.2.2.2.2) (E := zQPr.2.1) (K := zQPr.2.2) q2⟩, hb, by omega, by omega⟩
  · have e := List.mem_singleton.mp q1
    subst e
    exact Or.inr ⟨⟨s', ⟨(q3 0 _ rfl).trans (by rw [zl_sym_ev, t0]), (q3 1 _ rfl).trans (by rw [zl_sym_ev, tp])⟩, zG2_no (L := zQPx.1.1) (T := zQPx.1.2.1) (F := zQPx.1.2.2.1) (B := zQPx.1.2.2.2.1) (C := zQPx.1.2.2.2.2) (E := zQPx.2.1) (K := zQPx.2.2) q2⟩, hb, by omega, by omega⟩
theorem zHk_1 {l : Launch} {D : va_G} {cy : Nat → ClassId} {z0 : Nat} {sp : Nat → Nat} {G : State → Prop} (H : zHy l D cy z0 sp G) {n : Nat} (hn : n ≤ 511) {w : zz_W} (h : zIv zQI n 0 w) (p0 : Int32) : ∃ r w', zz_MH l zTs D zcl zFK cy z0 sp (zTys cy) G zy_800 method_3_code 4 (some .int) [(0, 9, 12, 13), (0, 9, 15, 15)] 470 [.ref 0, .int p0, .ref 328] w [.int r] w' ∧ (zJv zQPr n 1 p0 w' ∨ zJv zQPx n 1 p0 w') := by
  have h0 := zI_ic0 (zIv_I h)
  obtain ⟨rv, w', hR, hI⟩ := zCm_1 H hn h p0
  obtain ⟨hG, hP, -, -, -, -, -, hE⟩ := H
  have hI0 : zk_I 64 zHX w' := by rcases hI with hI | hI <;> exact zJv_I hI
  rcases hR with ⟨a, rfl, hM⟩ | ⟨rfl, x, hx, hM⟩
  · obtain ⟨N, hN⟩ := zI_328 hI0
    refine ⟨_, _, zHr_800 hG hP hI0.1 hN h0 hM, ?_⟩
    rcases hI with hI | hI
    · exact Or.inl (zJv_1 (zJv_up zQPr_w9 hI (by omega)))
    · exact Or.inr (zJv_1 (zJv_up zQPx_w9 hI (by omega)))
  · have hJ : ∀ ci, zJv zQPr n 1 p0 (zz_pu w' (3, ci, 0, 0) 6) ∨ zJv zQPx n 1 p0 (zz_pu w' (3, ci, 0, 0) 6) := fun ci => by
      rcases hI with hI | hI
      · exact Or.inl (zJv_pu zQPr_ok hI (by omega))
      · exact Or.inr (zJv_pu zQPx_ok hI (by omega))
    rcases List.mem_cons.mp hx with e | hx
    · subst e
      exact ⟨_, _, zHx_800_0 hG hP hE h0 hM, hJ _⟩
    · skip
      rcases List.mem_cons.mp hx with e | hx
      · subst e
        exact ⟨_, _, zHx_800_1 hG hP hE h0 hM, hJ _⟩
      · skip
        exact absurd hx List.not_mem_nil
theorem zRm_25 {l : Launch} {D : va_G} {cy : Nat → ClassId} {z0 : Nat} {sp : Nat → Nat} {G : State → Prop} (H : zHy l D cy z0 sp G) {n : Nat} (hn : n ≤ 511) {w : zz_W} (p0 : Int32) (h : zJv zQPr n 1 p0 w ∨ zJv zQPx n 1 p0 w) : ∃ a w', zz_M l zTs D zcl zFK cy z0 sp (zTys cy) G zYN zCN zMQ zRT 470 25 [.ref 171, .int p0] w [.int a] w' ∧ zIv zQI (n + 1) 0 w' := by
  obtain ⟨hG, hP, hW, hsp0, hWk, hTX, hl, hE⟩ := H
  rcases h with h | h
  · exact zRf_put hn h rfl (by decide +kernel) zXk_r25r zXm_r25r (Rl := fun rv w' => zz_M l zTs D zcl zFK cy z0 sp (zTys cy) G zYN zCN zMQ zRT 470 25 [.ref 171, .int p0] w rv w') (List.forall_mem_cons.mpr ⟨zPP_cm (zk_liftC zHX_ok (by decide +kernel) (zCon_25 hG hP hW)) rfl rfl, (fun _ h => absurd h List.not_mem_nil)⟩)
  · exact zRf_put hn h rfl (by decide +kernel) zXk_r25x zXm_r25x (Rl := fun rv w' => zz_M l zTs D zcl zFK cy z0 sp (zTys cy) G zYN zCN zMQ zRT 470 25 [.ref 171, .int p0] w rv w') (List.forall_mem_cons.mpr ⟨zPP_cm (zk_liftC zHX_ok (by decide +kernel) (zCon_25 hG hP hW)) rfl rfl, (fun _ h => absurd h List.not_mem_nil)⟩)
theorem zHk_2 {l : Launch} {D : va_G} {cy : Nat → ClassId} {z0 : Nat} {sp : Nat → Nat} {G : State → Prop} (H : zHy l D cy z0 sp G) {n : Nat} (hn : n ≤ 511) {w : zz_W} (h : zIv zQI n 0 w) (p0 : Int32) : ∃ r w', zz_MH l zTs D zcl zFK cy z0 sp (zTys cy) G zy_801 method_4_code 3 (some .int) [(0, 5, 8, 13)] 470 [.ref 0, .int p0] w [.int r] w' ∧ ((r = Int32.ofNat 0 ∧ zJv zQPe n 1 p0 w') ∨ (r = Int32.ofNat 1 ∧ (zJv zQPn n 1 p0 w' ∨ zJv zQPm n 1 p0 w'))) := by
  have h0 := zI_ic0 (zIv_I h)
  have hw : w.1 < 16 * 64 := by have := h.2.2.1; omega
  obtain ⟨t, t0, tp, g⟩ := zG_arg1 hn h p0
  obtain ⟨hG, hP, hW, hsp0, hWk, hTX, hl, hE⟩ := H
  have c1 := h.2.2.1
  have c2 := h.2.2.2
  by_cases kn : p0.toInt < 0
  · skip
    obtain ⟨rv, w', r1, ⟨s', Q, q1, q2, q3⟩, hb, d1, d2⟩ := zG_call (n := n) (e := 0) (zG2_C (C := [zl_sub (zl_con (-1)) (zl_sym zNQ)]) g (List.forall_mem_cons.mpr ⟨by rw [zl_sub_ev, zl_con_ev, zl_sym_ev, tp]; omega, (fun _ h => absurd h List.not_mem_nil)⟩)) h.2.1 h.2.2.1 h.2.2.2 (by omega) (pre := [zl_sym 0, zl_sym zNQ]) (by decide +kernel) zXk_c2n zXm_c2n rfl (Rl := fun rv w' => rv = [] ∧ ∃ x ∈ ([("java/lang/IllegalArgumentException", 14)] : List (String × Nat)), zz_MX l zTs D zcl zFK cy z0 sp (zTys cy) G zYN zCN zMQ zRT 469 2 [.ref 0, .int p0] w x.1 (zz_pu w' (3, x.2, 0, 0) 6)) (List.forall_mem_cons.mpr ⟨zPP_nx (zk_liftP zHX_ok (by decide +kernel) (zPX_2_x0 hG hP hW hTX)) rfl (by decide) (by decide +kernel) rfl hw, (fun _ h => absurd h List.not_mem_nil)⟩)
    have e := List.mem_singleton.mp q1
    subst e
    obtain ⟨-, x, hx, hM⟩ := r1
    have e := List.mem_singleton.mp hx
    subst e
    exact ⟨_, _, zHx_801_0 hG hP hE h0 hM, Or.inr ⟨rfl, Or.inl (zJv_pu zQPn_ok ⟨⟨s', ⟨(q3 0 _ rfl).trans (by rw [zl_sym_ev, t0]), (q3 1 _ rfl).trans (by rw [zl_sym_ev, tp])⟩, zG2_no (L := zQPn.1.1) (T := zQPn.1.2.1) (F := zQPn.1.2.2.1) (B := zQPn.1.2.2.2.1) (C := zQPn.1.2.2.2.2) (E := zQPn.2.1) (K := zQPn.2.2) q2⟩, hb, by omega, by omega⟩ (by omega))⟩⟩
  by_cases km : t 1 < p0.toInt
  · skip
    obtain ⟨rv, w', r1, ⟨s', Q, q1, q2, q3⟩, hb, d1, d2⟩ := zG_call (n := n) (e := 0) (zG2_C (C := [zl_sub (zl_sub (zl_sym zNQ) (zl_sym 1)) (zl_con 1)]) g (List.forall_mem_cons.mpr ⟨by rw [zl_sub_ev, zl_sub_ev, zl_con_ev, zl_sym_ev, zl_sym_ev, tp]; omega, (fun _ h => absurd h List.not_mem_nil)⟩)) h.2.1 h.2.2.1 h.2.2.2 (by omega) (pre := [zl_sym 0, zl_sym zNQ]) (by decide +kernel) zXk_c2m zXm_c2m rfl (Rl := fun rv w' => rv = [] ∧ ∃ x ∈ ([("java/lang/IllegalArgumentException", 14)] : List (String × Nat)), zz_MX l zTs D zcl zFK cy z0 sp (zTys cy) G zYN zCN zMQ zRT 469 2 [.ref 0, .int p0] w x.1 (zz_pu w' (3, x.2, 0, 0) 6)) (List.forall_mem_cons.mpr ⟨zPP_nx (zk_liftP zHX_ok (by decide +kernel) (zPX_2_x1 hG hP hW hTX)) rfl (by decide) (by decide +kernel) rfl hw, (fun _ h => absurd h List.not_mem_nil)⟩)
    have e := List.mem_singleton.mp q1
    subst e
    obtain ⟨-, x, hx, hM⟩ := r1
    have e := List.mem_singleton.mp hx
    subst e
    exact ⟨_, _, zHx_801_0 hG hP hE h0 hM, Or.inr ⟨rfl, Or.inr (zJv_pu zQPm_ok ⟨⟨s', ⟨(q3 0 _ rfl).trans (by rw [zl_sym_ev, t0]), (q3 1 _ rfl).trans (by rw [zl_sym_ev, tp])⟩, zG2_no (L := zQPm.1.1) (T := zQPm.1.2.1) (F := zQPm.1.2.2.1) (B := zQPm.1.2.2.2.1) (C := zQPm.1.2.2.2.2) (E := zQPm.2.1) (K := zQPm.2.2) q2⟩, hb, by omega, by omega⟩ (by omega))⟩⟩
  obtain ⟨rv, w', r1, ⟨s', Q, q1, q2, q3⟩, hb, d1, d2⟩ := zG_call (n := n) (e := 0) (zG2_C (C := [zl_sym zNQ, zl_sub (zl_sym 1) (zl_sym zNQ)]) g (List.forall_mem_cons.mpr ⟨by rw [zl_sym_ev, tp]; omega, List.forall_mem_cons.mpr ⟨by rw [zl_sub_ev, zl_sym_ev, zl_sym_ev, tp]; omega, (fun _ h => absurd h List.not_mem_nil)⟩⟩)) h.2.1 h.2.2.1 h.2.2.2 (by omega) (pre := [zl_sym 0, zl_sym zNQ]) (by decide +kernel) zXk_c2e zXm_c2e rfl (Rl := fun rv w' => zz_M l zTs D zcl zFK cy z0 sp (zTys cy) G zYN zCN zMQ zRT 469 2 [.ref 0, .int p0] w rv w') (List.forall_mem_cons.mpr ⟨zPP_cm (zk_liftC zHX_ok (by decide +kernel) (zCon_2 hG hP hW)) rfl rfl, (fun _ h => absurd h List.not_mem_nil)⟩)
  have e := List.mem_singleton.mp q1
  subst e
  have e := zG2_t0 q2 rfl
  subst e
  exact ⟨_, _, zHr_801 hG hP h0 r1, Or.inl ⟨rfl, zJv_1 ⟨⟨s', ⟨(q3 0 _ rfl).trans (by rw [zl_sym_ev, t0]), (q3 1 _ rfl).trans (by rw [zl_sym_ev, tp])⟩, zG2_no (L := zQPe.1.1) (T := zQPe.1.2.1) (F := zQPe.1.2.2.1) (B := zQPe.1.2.2.2.1) (C := zQPe.1.2.2.2.2) (E := zQPe.2.1) (K := zQPe.2.2) q2⟩, hb, by omega, by omega⟩⟩⟩
theorem zRm_26 {l : Launch} {D : va_G} {cy : Nat → ClassId} {z0 : Nat} {sp : Nat → Nat} {G : State → Prop} (H : zHy l D cy z0 sp G) {n : Nat} (hn : n ≤ 511) {w : zz_W} (p0 k : Int32) (h : (k = Int32.ofNat 0 ∧ zJv zQPe n 1 p0 w) ∨ (k = Int32.ofNat 1 ∧ (zJv zQPn n 1 p0 w ∨ zJv zQPm n 1 p0 w))) : ∃ w1 w2, zz_M l zTs D zcl zFK cy z0 sp (zTys cy) G zYN zCN zMQ zRT 470 26 [.ref 171, .int p0] w [] w1 ∧ zz_ic w1 171 0 = true ∧ zz_M l zTs D zcl zFK cy z0 sp (zTys cy) G zYN zCN zMQ zRT 470 48 [.ref 171] w1 [.int k] w2 ∧ zIv zQI (n + 1) 0 w2 := by
  obtain ⟨hG, hP, hW, hsp0, hWk, hTX, hl, hE⟩ := H
  rcases h with ⟨ek, h⟩ | ⟨ek, h | h⟩
  · obtain ⟨w1, w2, a, r1, r2, r3, r4, r5⟩ := zRf_end hn h rfl (by decide +kernel) (v := 0) zXk_r26e zXm_r26e zXk_r480 zXm_r480 (Rl := fun rv w' => zz_M l zTs D zcl zFK cy z0 sp (zTys cy) G zYN zCN zMQ zRT 470 26 [.ref 171, .int p0] w rv w') (List.forall_mem_cons.mpr ⟨zPP_cm (zk_liftC zHX_ok (by decide +kernel) (zCon_26 hG hP hW)) rfl rfl, (fun _ h => absurd h List.not_mem_nil)⟩) (Rl2 := fun w1 rv w' => zz_M l zTs D zcl zFK cy z0 sp (zTys cy) G zYN zCN zMQ zRT 470 48 [.ref 171] w1 rv w') (fun w1 => List.forall_mem_cons.mpr ⟨zPP_cm (zk_liftC zHX_ok (by decide +kernel) (zCon_48 hG hP hW)) rfl rfl, (fun _ h => absurd h List.not_mem_nil)⟩)
    have e : a = k := Int32.toInt_inj.mp (by rw [r4, ek]; rfl)
    subst e
    exact ⟨w1, w2, r1, r2, r3, r5⟩
  · obtain ⟨w1, w2, a, r1, r2, r3, r4, r5⟩ := zRf_end hn h rfl (by decide +kernel) (v := 1) zXk_r26n zXm_r26n zXk_r481 zXm_r481 (Rl := fun rv w' => zz_M l zTs D zcl zFK cy z0 sp (zTys cy) G zYN zCN zMQ zRT 470 26 [.ref 171, .int p0] w rv w') (List.forall_mem_cons.mpr ⟨zPP_cm (zk_liftC zHX_ok (by decide +kernel) (zCon_26 hG hP hW)) rfl rfl, (fun _ h => absurd h List.not_mem_nil)⟩) (Rl2 := fun w1 rv w' => zz_M l zTs D zcl zFK cy z0 sp (zTys cy) G zYN zCN zMQ zRT 470 48 [.ref 171] w1 rv w') (fun w1 => List.forall_mem_cons.mpr ⟨zPP_cm (zk_liftC zHX_ok (by decide +kernel) (zCon_48 hG hP hW)) rfl rfl, (fun _ h => absurd h List.not_mem_nil)⟩)
    have e : a = k := Int32.toInt_inj.mp (by rw [r4, ek]; rfl)
    subst e
    exact ⟨w1, w2, r1, r2, r3, r5⟩
  · obtain ⟨w1, w2, a, r1, r2, r3, r4, r5⟩ := zRf_end hn h rfl (by decide +kernel) (v := 1) zXk_r26m zXm_r26m zXk_r481 zXm_r481 (Rl := fun rv w' => zz_M l zTs D zcl zFK cy z0 sp (zTys cy) G zYN zCN zMQ zRT 470 26 [.ref 171, .int p0] w rv w') (List.forall_mem_cons.mpr ⟨zPP_cm (zk_liftC zHX_ok (by decide +kernel) (zCon_26 hG hP hW)) rfl rfl, (fun _ h => absurd h List.not_mem_nil)⟩) (Rl2 := fun w1 rv w' => zz_M l zTs D zcl zFK cy z0 sp (zTys cy) G zYN zCN zMQ zRT 470 48 [.ref 171] w1 rv w') (fun w1 => List.forall_mem_cons.mpr ⟨zPP_cm (zk_liftC zHX_ok (by decide +kernel) (zCon_48 hG hP hW)) rfl rfl, (fun _ h => absurd h List.not_mem_nil)⟩)
    have e : a = k := Int32.toInt_inj.mp (by rw [r4, ek]; rfl)
    subst e
    exact ⟨w1, w2, r1, r2, r3, r5⟩
theorem zCm_5 {l : Launch} {D : va_G} {cy : Nat → ClassId} {z0 : Nat} {sp : Nat → Nat} {G : State → Prop} (H : zHy l D cy z0 sp G) {n : Nat} (hn : n ≤ 511) {w : zz_W} (h : zIv zQI n 0 w) : ∃ w', zz_M l zTs D zcl zFK cy z0 sp (zTys cy) G zYN zCN zMQ zRT 470 5 [.ref 0] w [] w' ∧ zIv zQM n 1 w' := by
  obtain ⟨hG, hP, hW, hsp0, hWk, hTX, hl, hE⟩ := H
  obtain ⟨w', h1, h2⟩ := zCl_v hn h zXk_c5 zXm_c5 (Rl := fun rv w' => zz_M l zTs D zcl zFK cy z0 sp (zTys cy) G zYN zCN zMQ zRT 470 5 [.ref 0] w rv w') (List.forall_mem_cons.mpr ⟨zPP_cm (zk_liftC zHX_ok (by decide +kernel) (zCon_5 hG hP hW)) rfl rfl, (fun _ h => absurd h List.not_mem_nil)⟩)
  exact ⟨w', h1, zIv_1 h2⟩
theorem zRm_29 {l : Launch} {D : va_G} {cy : Nat → ClassId} {z0 : Nat} {sp : Nat → Nat} {G : State → Prop} (H : zHy l D cy z0 sp G) {n : Nat} (hn : n ≤ 511) {w : zz_W} (h : zIv zQM n 1 w) : ∃ w', zz_M l zTs D zcl zFK cy z0 sp (zTys cy) G zYN zCN zMQ zRT 470 29 [.ref 171] w [] w' ∧ zIv zQI (n + 1) 0 w' := by
  obtain ⟨hG, hP, hW, hsp0, hWk, hTX, hl, hE⟩ := H
  exact zRf_v hn h zXk_r29 zXm_r29 (Rl := fun rv w' => zz_M l zTs D zcl zFK cy z0 sp (zTys cy) G zYN zCN zMQ zRT 470 29 [.ref 171] w rv w') (List.forall_mem_cons.mpr ⟨zPP_cm (zk_liftC zHX_ok (by decide +kernel) (zCon_29 hG hP hW)) rfl rfl, (fun _ h => absurd h List.not_mem_nil)⟩)
theorem zHk_20 {l : Launch} {D : va_G} {cy : Nat → ClassId} {z0 : Nat} {sp : Nat → Nat} {G : State → Prop} (H : zHy l D cy z0 sp G) {n : Nat} (hn : n ≤ 511) {w : zz_W} (h : zIv zQI n 0 w) (p0 p1 : Int32) : ∃ r w', zz_MH l zTs D zcl zFK cy z0 sp (zTys cy) G zy_818 method_21_code 5 (some .int) [(0, 10, 13, 73)] 470 [.ref 0, .int p0, .int p1, .ref 328] w [.int r] w' ∧ zIv zQM n 1 w' := by
  have hI := zIv_I h
  have h0 := zI_ic0 hI
  have hw : w.1 < 16 * 64 := by have := h.2.2.1; omega
  have hm := zIv_M hn h
  obtain ⟨hG, hP, hW, hsp0, hWk, hTX, hl, hE⟩ := H
  by_cases hp : p1 < 0
  · have hX : zz_MX l zTs D zcl zFK cy z0 sp (zTys cy) G zYN zCN zMQ zRT 469 20 [.ref 0, .int p0, .int p1] w "java/lang/IndexOutOfBoundsException" (zz_pu w (3, 17, 0, 0) 6) := by
      have T := zt_20 (l := l) (D := D) (cy := cy) (z0 := z0) (sp := sp) (G := G) (d := 468) zz_k0_KS hG hP
      have b := zz_B_rf (l := l) (Ts := zTs) (D := D) (cl := zcl) (fk := zFK) (cy := cy) (z0 := z0) (sp := sp) (tys := zTys cy) (G := G) (own := "ToolMill") (mn := "listing") (nL := 3) (cc := prog_1_method_21_code) (d := 468) ((0, lv_args 0 [.ref 0, .int p0, .int p1], [], w) : zz_F)
      replace b := zz_fw b T (rfl : zz_ent zP_20 0 = (0, za_iload 2 1)) (ze_iload rfl)
      replace b := zz_fw b T (rfl : zz_ent zP_20 1 = (0, za_if_ge 14 4)) (ze_if_ge_f (fun q => Int32.not_lt.mpr q hp))
      exact zz_MX_B rfl rfl rfl rfl (by decide +kernel) (zz_lb rfl) (zz_TX_B b (zth_20_4 hl hP hE (by decide) (zz_lb rfl) hsp0 hI.1 hw))
    exact ⟨_, _, zHx_818_0 hG hP hE h0 hX, zIv_pu zQM_ok hm (by omega)⟩
  · obtain ⟨k, hk, rfl⟩ := zl_i32 p1 hp
    obtain ⟨v, N, M, c, r0, h64⟩ := h.2.1
    obtain ⟨l0, k1, k2, k3, -, -, k4, -⟩ := hI.2.2.2 0 (by show (3 : Nat) ≠ 9; decide)
    have k1 : (zz_g w 0).1 = 3 := k1
    have k2 : (zz_g w 0).2.1 = 1 := k2
    have k3 : (zz_g w 0).2.2.1 = 17 := k3
    have g0 : zz_has w 0 (3, 1, (zz_g w 0).2.2.1, (zz_g w 0).2.2.2) := ⟨l0, by decide, zvk_3 (a := 3) (b := 1) (n := (zz_g w 0).2.2.1) (M := 0) (by show ((zz_g w 0).1, (zz_g w 0).2.1, (zz_g w 0).2.2.1) = (3, 1, (zz_g w 0).2.2.1); rw [k1, k2])⟩
    have h11 : zz_at 64 (zz_g w 0).2.2.2 11 = 13 := (k4 rfl 11 _ rfl).2 rfl
    have hF : ∃ a w', zz_M l zTs D zcl zFK cy z0 sp (zTys cy) G zYN zCN zMQ zRT 469 20 [.ref 0, .int p0, .int (Int32.ofNat k)] w [.int a] w' ∧ ∃ T, zB w T w' := by
      by_cases hf : ∃ f, zcK p0 f
      · obtain ⟨f, hf⟩ := hf
        obtain ⟨w', m, hB⟩ := zMcL_y (C0 := zz_g w 0) hG hP hsp0 r0 rfl h64 g0 (by rw [k3]; decide) h11 hf hk
        exact ⟨_, w', m, _, hB⟩
      · obtain ⟨w', m, hB⟩ := zMcL_n (C0 := zz_g w 0) hG hP hsp0 r0 rfl h64 g0 (by rw [k3]; decide) h11 (fun f q => hf ⟨f, q⟩) hk
        exact ⟨_, w', m, _, hB⟩
    obtain ⟨a, w', hM, T, hB⟩ := hF
    have hJ := zIv_B zQM_wB hn hm hB
    obtain ⟨N', hN⟩ := zI_328 (zIv_I hJ)
    exact ⟨_, _, zHr_818 hG hP (zIv_I hJ).1 hN h0 hM, zIv_up zQM_w9 hJ (by omega)⟩
