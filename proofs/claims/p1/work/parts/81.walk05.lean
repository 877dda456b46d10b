/-! walks of methods, by program -/
theorem zMc_fault_2 {l : Launch} {D : va_G} {cy : Nat → ClassId} {z0 : Nat} {sp : Nat → Nat} {G : State → Prop} {d : Nat} (hG : zz_GF z0 G) (hP : ∀ U, G U → zz_GD zS zS2 zLg z0 sp U) : zz_M l zTs D zcl zFK cy z0 sp (zTys cy) G zYN zCN zMQ zRT (d + 1) 10 [.ref 0, .int (Int32.ofNat 2)] zW3 [.int (Int32.ofNat 4294967295)] zW3 := by
  have T := zt_10 (l := l) (D := D) (cy := cy) (z0 := z0) (sp := sp) (G := G) (d := d) zz_k0_KS hG hP
  have TK := fun (K : zz_K) (h : zz_KS l D zcl zFK cy z0 sp (zTys cy) G zYN (fun y => Cond.code (zYN y) (zCN y) (zMQ y) (zRT y) :: zTs) d K) => zt_10 h hG hP
  have b := zz_B_rf (l := l) (Ts := zTs) (D := D) (cl := zcl) (fk := zFK) (cy := cy) (z0 := z0) (sp := sp) (tys := zTys cy) (G := G) (own := "ToolMill") (mn := "fault") (nL := 2) (cc := prog_1_method_7_code) (d := d) ((0, [(0, .ref 0), (1, .int (Int32.ofNat 2))], [], zW3) : zz_F)
  replace b := zz_fw b T (rfl : zz_ent zP_10 0 = (0, za_iload 1 1)) (ze_iload rfl)
  replace b := zz_fw b T (rfl : zz_ent zP_10 1 = (0, za_tsw (0) (2) 43 [28, 33, 38])) (ze_tsw_k (t := 38) (by decide) (by decide))
  replace b := zz_fw b T (rfl : zz_ent zP_10 38 = (0, za_aload 0 39)) (ze_aload rfl)
  replace b := zz_fw b T (rfl : zz_ent zP_10 39 = (0, za_getI 1 8 42)) (ze_getI zh_0 (by decide) (congrArg Int32.ofNat zv_0_8))
  exact zz_M_B rfl rfl rfl rfl rfl (by decide +kernel) (zz_lb rfl) (zz_lb rfl) (zz_end_i (zr_10.2.1 42 rfl).1) b
theorem zXc_link {l : Launch} {D : va_G} {cy : Nat → ClassId} {z0 : Nat} {sp : Nat → Nat} {G : State → Prop} {d : Nat} (hG : zz_GF z0 G) (hP : ∀ U, G U → zz_GD zS zS2 zLg z0 sp U) (hl : l.stackTraces = false) (hE : ∀ U, G U → zGX z0 U) {p0 p1 : Int32} : zz_MX l zTs D zcl zFK cy z0 sp (zTys cy) G zYN zCN zMQ zRT (d + 6) 18 [.ref 0, .int p0, .int p1] zW3 "java/lang/IllegalStateException" (zz_pu zW3 (3, 15, 0, 0) 6) := by
  have T := zt_18 (l := l) (D := D) (cy := cy) (z0 := z0) (sp := sp) (G := G) (d := (d + 5)) zz_k0_KS hG hP
  have TK := fun (K : zz_K) (h : zz_KS l D zcl zFK cy z0 sp (zTys cy) G zYN (fun y => Cond.code (zYN y) (zCN y) (zMQ y) (zRT y) :: zTs) (d + 5) K) => zt_18 h hG hP
  have b := zz_B_rf (l := l) (Ts := zTs) (D := D) (cl := zcl) (fk := zFK) (cy := cy) (z0 := z0) (sp := sp) (tys := zTys cy) (G := G) (own := "ToolMill") (mn := "link") (nL := 3) (cc := prog_1_method_15_code) (d := (d + 5)) ((0, [(0, .ref 0), (1, .int p0), (2, .int p1)], [], zW3) : zz_F)
  replace b := zz_fw b T (rfl : zz_ent zP_18 0 = (0, za_aload 0 1)) (ze_aload rfl)
  replace b := zz_fw b T (rfl : zz_ent zP_18 1 = (0, za_getI 1 3 4)) (ze_getI zh_0 (by decide) (congrArg Int32.ofNat zv_0_3))
  replace b := zz_fw b T (rfl : zz_ent zP_18 4 = (0, za_if_ne 17 7)) (ze_if_ne_f (by decide))
  exact zz_MX_B rfl rfl rfl rfl (by decide +kernel) (zz_lb rfl) (zz_TX_B b (zth_18_7 hl hP hE (by omega) (zz_lb rfl) zs3 (by decide +kernel)))
theorem zXc_run {l : Launch} {D : va_G} {cy : Nat → ClassId} {z0 : Nat} {sp : Nat → Nat} {G : State → Prop} {d : Nat} (hG : zz_GF z0 G) (hP : ∀ U, G U → zz_GD zS zS2 zLg z0 sp U) (hl : l.stackTraces = false) (hE : ∀ U, G U → zGX z0 U) {p0 : Int32} : zz_MX l zTs D zcl zFK cy z0 sp (zTys cy) G zYN zCN zMQ zRT (d + 6) 19 [.ref 0, .int p0] zW3 "java/lang/IllegalStateException" (zz_pu zW3 (3, 15, 0, 0) 6) := by
  have T := zt_19 (l := l) (D := D) (cy := cy) (z0 := z0) (sp := sp) (G := G) (d := (d + 5)) zz_k0_KS hG hP
  have TK := fun (K : zz_K) (h : zz_KS l D zcl zFK cy z0 sp (zTys cy) G zYN (fun y => Cond.code (zYN y) (zCN y) (zMQ y) (zRT y) :: zTs) (d + 5) K) => zt_19 h hG hP
  have b := zz_B_rf (l := l) (Ts := zTs) (D := D) (cl := zcl) (fk := zFK) (cy := cy) (z0 := z0) (sp := sp) (tys := zTys cy) (G := G) (own := "ToolMill") (mn := "run") (nL := 2) (cc := prog_1_method_16_code) (d := (d + 5)) ((0, [(0, .ref 0), (1, .int p0)], [], zW3) : zz_F)
  replace b := zz_fw b T (rfl : zz_ent zP_19 0 = (0, za_aload 0 1)) (ze_aload rfl)
  replace b := zz_fw b T (rfl : zz_ent zP_19 1 = (0, za_getI 1 9 4)) (ze_getI zh_0 (by decide) (congrArg Int32.ofNat zv_0_9))
  replace b := zz_fw b T (rfl : zz_ent zP_19 4 = (0, za_if_eq 17 7)) (ze_if_eq_t (by decide))
  exact zz_MX_B rfl rfl rfl rfl (by decide +kernel) (zz_lb rfl) (zz_TX_B b (zth_19_17 hl hP hE (by omega) (zz_lb rfl) zs3 (by decide +kernel)))
theorem zXc_mean {l : Launch} {D : va_G} {cy : Nat → ClassId} {z0 : Nat} {sp : Nat → Nat} {G : State → Prop} {d : Nat} (hG : zz_GF z0 G) (hP : ∀ U, G U → zz_GD zS zS2 zLg z0 sp U) (hl : l.stackTraces = false) (hE : ∀ U, G U → zGX z0 U) {p0 : Int32} : zz_MX l zTs D zcl zFK cy z0 sp (zTys cy) G zYN zCN zMQ zRT (d + 6) 24 [.ref 0, .int p0] zW3 "java/lang/IllegalStateException" (zz_pu zW3 (3, 15, 0, 0) 6) := by
  have T := zt_24 (l := l) (D := D) (cy := cy) (z0 := z0) (sp := sp) (G := G) (d := (d + 5)) zz_k0_KS hG hP
  have TK := fun (K : zz_K) (h : zz_KS l D zcl zFK cy z0 sp (zTys cy) G zYN (fun y => Cond.code (zYN y) (zCN y) (zMQ y) (zRT y) :: zTs) (d + 5) K) => zt_24 h hG hP
  have b := zz_B_rf (l := l) (Ts := zTs) (D := D) (cl := zcl) (fk := zFK) (cy := cy) (z0 := z0) (sp := sp) (tys := zTys cy) (G := G) (own := "ToolMill") (mn := "mean") (nL := 2) (cc := prog_1_method_22_code) (d := (d + 5)) ((0, [(0, .ref 0), (1, .int p0)], [], zW3) : zz_F)
  replace b := zz_fw b T (rfl : zz_ent zP_24 0 = (0, za_aload 0 1)) (ze_aload rfl)
  replace b := zz_fw b T (rfl : zz_ent zP_24 1 = (0, za_getI 1 3 4)) (ze_getI zh_0 (by decide) (congrArg Int32.ofNat zv_0_3))
  replace b := zz_fw b T (rfl : zz_ent zP_24 4 = (0, za_if_eq 25 7)) (ze_if_eq_t (by decide))
  exact zz_MX_B rfl rfl rfl rfl (by decide +kernel) (zz_lb rfl) (zz_TX_B b (zth_24_25 hl hP hE (by omega) (zz_lb rfl) zs3 (by decide +kernel)))
theorem zX_needLinked {l : Launch} {D : va_G} {cy : Nat → ClassId} {z0 : Nat} {sp : Nat → Nat} {G : State → Prop} {d : Nat} (hG : zz_GF z0 G) (hP : ∀ U, G U → zz_GD zS zS2 zLg z0 sp U) (hl : l.stackTraces = false) (hE : ∀ U, G U → zGX z0 U) : zz_MX l zTs D zcl zFK cy z0 sp (zTys cy) G zYN zCN zMQ zRT (d + 6) 49 [.ref 0] zW3 "java/lang/IllegalStateException" (zz_pu zW3 (3, 15, 0, 0) 6) := by
  have T := zt_49 (l := l) (D := D) (cy := cy) (z0 := z0) (sp := sp) (G := G) (d := (d + 5)) zz_k0_KS hG hP
  have TK := fun (K : zz_K) (h : zz_KS l D zcl zFK cy z0 sp (zTys cy) G zYN (fun y => Cond.code (zYN y) (zCN y) (zMQ y) (zRT y) :: zTs) (d + 5) K) => zt_49 h hG hP
  have b := zz_B_rf (l := l) (Ts := zTs) (D := D) (cl := zcl) (fk := zFK) (cy := cy) (z0 := z0) (sp := sp) (tys := zTys cy) (G := G) (own := "ToolMill") (mn := "needLinked") (nL := 1) (cc := prog_1_method_28_code) (d := (d + 5)) ((0, [(0, .ref 0)], [], zW3) : zz_F)
  replace b := zz_fw b T (rfl : zz_ent zP_49 0 = (0, za_aload 0 1)) (ze_aload rfl)
  replace b := zz_fw b T (rfl : zz_ent zP_49 1 = (0, za_getI 1 9 4)) (ze_getI zh_0 (by decide) (congrArg Int32.ofNat zv_0_9))
  replace b := zz_fw b T (rfl : zz_ent zP_49 4 = (0, za_if_ne 18 7)) (ze_if_ne_f (by decide))
  exact zz_MX_B rfl rfl rfl rfl (by decide +kernel) (zz_lb rfl) (zz_TX_B b (zth_49_7 hl hP hE (by omega) (zz_lb rfl) zs3 (by decide +kernel)))
theorem zX_needMeaning {l : Launch} {D : va_G} {cy : Nat → ClassId} {z0 : Nat} {sp : Nat → Nat} {G : State → Prop} {d : Nat} (hG : zz_GF z0 G) (hP : ∀ U, G U → zz_GD zS zS2 zLg z0 sp U) (hl : l.stackTraces = false) (hE : ∀ U, G U → zGX z0 U) : zz_MX l zTs D zcl zFK cy z0 sp (zTys cy) G zYN zCN zMQ zRT (d + 6) 50 [.ref 0] zW3 "java/lang/IllegalStateException" (zz_pu zW3 (3, 15, 0, 0) 6) := by
  have T := zt_50 (l := l) (D := D) (cy := cy) (z0 := z0) (sp := sp) (G := G) (d := (d + 5)) zz_k0_KS hG hP
  have TK := fun (K : zz_K) (h : zz_KS l D zcl zFK cy z0 sp (zTys cy) G zYN (fun y => Cond.code (zYN y) (zCN y) (zMQ y) (zRT y) :: zTs) (d + 5) K) => zt_50 h hG hP
  have b := zz_B_rf (l := l) (Ts := zTs) (D := D) (cl := zcl) (fk := zFK) (cy := cy) (z0 := z0) (sp := sp) (tys := zTys cy) (G := G) (own := "ToolMill") (mn := "needMeaning") (nL := 1) (cc := prog_1_method_29_code) (d := (d + 5)) ((0, [(0, .ref 0)], [], zW3) : zz_F)
  replace b := zz_fw b T (rfl : zz_ent zP_50 0 = (0, za_aload 0 1)) (ze_aload rfl)
  replace b := zz_fw b T (rfl : zz_ent zP_50 1 = (0, za_getI 1 10 4)) (ze_getI zh_0 (by decide) (congrArg Int32.ofNat zv_0_10))
  replace b := zz_fw b T (rfl : zz_ent zP_50 4 = (0, za_if_ne 18 7)) (ze_if_ne_f (by decide))
  exact zz_MX_B rfl rfl rfl rfl (by decide +kernel) (zz_lb rfl) (zz_TX_B b (zth_50_7 hl hP hE (by omega) (zz_lb rfl) zs3 (by decide +kernel)))
theorem zXc_state {l : Launch} {D : va_G} {cy : Nat → ClassId} {z0 : Nat} {sp : Nat → Nat} {G : State → Prop} {d : Nat} (hG : zz_GF z0 G) (hP : ∀ U, G U → zz_GD zS zS2 zLg z0 sp U) (hl : l.stackTraces = false) (hE : ∀ U, G U → zGX z0 U) {p0 : Int32} : zz_MX l zTs D zcl zFK cy z0 sp (zTys cy) G zYN zCN zMQ zRT (d + 7) 20 [.ref 0, .int p0] zW3 "java/lang/IllegalStateException" (zz_pu zW3 (3, 15, 0, 0) 6) := by
  have T := zt_20 (l := l) (D := D) (cy := cy) (z0 := z0) (sp := sp) (G := G) (d := (d + 6)) zz_k0_KS hG hP
  have TK := fun (K : zz_K) (h : zz_KS l D zcl zFK cy z0 sp (zTys cy) G zYN (fun y => Cond.code (zYN y) (zCN y) (zMQ y) (zRT y) :: zTs) (d + 6) K) => zt_20 h hG hP
  have b := zz_B_rf (l := l) (Ts := zTs) (D := D) (cl := zcl) (fk := zFK) (cy := cy) (z0 := z0) (sp := sp) (tys := zTys cy) (G := G) (own := "ToolMill") (mn := "state") (nL := 2) (cc := prog_1_method_17_code) (d := (d + 6)) ((0, [(0, .ref 0), (1, .int p0)], [], zW3) : zz_F)
  replace b := zz_fw b T (rfl : zz_ent zP_20 0 = (0, za_aload 0 1)) (ze_aload rfl)
  exact zz_MX_B rfl rfl rfl rfl (by decide +kernel) (zz_lb rfl) (zz_TX_B b (zxc_20_1 (b := 0) (as := []) (r := []) hG (zX_needLinked hG hP hl hE) rfl (zz_has_c zh_0) (zz_lb rfl)))
theorem zXc_register {l : Launch} {D : va_G} {cy : Nat → ClassId} {z0 : Nat} {sp : Nat → Nat} {G : State → Prop} {d : Nat} (hG : zz_GF z0 G) (hP : ∀ U, G U → zz_GD zS zS2 zLg z0 sp U) (hl : l.stackTraces = false) (hE : ∀ U, G U → zGX z0 U) {p0 : Int32} : zz_MX l zTs D zcl zFK cy z0 sp (zTys cy) G zYN zCN zMQ zRT (d + 7) 21 [.ref 0, .int p0] zW3 "java/lang/IllegalStateException" (zz_pu zW3 (3, 15, 0, 0) 6) := by
  have T := zt_21 (l := l) (D := D) (cy := cy) (z0 := z0) (sp := sp) (G := G) (d := (d + 6)) zz_k0_KS hG hP
  have TK := fun (K : zz_K) (h : zz_KS l D zcl zFK cy z0 sp (zTys cy) G zYN (fun y => Cond.code (zYN y) (zCN y) (zMQ y) (zRT y) :: zTs) (d + 6) K) => zt_21 h hG hP
  have b := zz_B_rf (l := l) (Ts := zTs) (D := D) (cl := zcl) (fk := zFK) (cy := cy) (z0 := z0) (sp := sp) (tys := zTys cy) (G := G) (own := "ToolMill") (mn := "register") (nL := 2) (cc := prog_1_method_18_code) (d := (d + 6)) ((0, [(0, .ref 0), (1, .int p0)], [], zW3) : zz_F)
  replace b := zz_fw b T (rfl : zz_ent zP_21 0 = (0, za_aload 0 1)) (ze_aload rfl)
  exact zz_MX_B rfl rfl rfl rfl (by decide +kernel) (zz_lb rfl) (zz_TX_B b (zxc_21_1 (b := 0) (as := []) (r := []) hG (zX_needLinked hG hP hl hE) rfl (zz_has_c zh_0) (zz_lb rfl)))
theorem zXc_word {l : Launch} {D : va_G} {cy : Nat → ClassId} {z0 : Nat} {sp : Nat → Nat} {G : State → Prop} {d : Nat} (hG : zz_GF z0 G) (hP : ∀ U, G U → zz_GD zS zS2 zLg z0 sp U) (hl : l.stackTraces = false) (hE : ∀ U, G U → zGX z0 U) {p0 : Int32} : zz_MX l zTs D zcl zFK cy z0 sp (zTys cy) G zYN zCN zMQ zRT (d + 7) 22 [.ref 0, .int p0] zW3 "java/lang/IllegalStateException" (zz_pu zW3 (3, 15, 0, 0) 6) := by
  have T := zt_22 (l := l) (D := D) (cy := cy) (z0 := z0) (sp := sp) (G := G) (d := (d + 6)) zz_k0_KS hG hP
  have TK := fun (K : zz_K) (h : zz_KS l D zcl zFK cy z0 sp (zTys cy) G zYN (fun y => Cond.code (zYN y) (zCN y) (zMQ y) (zRT y) :: zTs) (d + 6) K) => zt_22 h hG hP
  have b := zz_B_rf (l := l) (Ts := zTs) (D := D) (cl := zcl) (fk := zFK) (cy := cy) (z0 := z0) (sp := sp) (tys := zTys cy) (G := G) (own := "ToolMill") (mn := "word") (nL := 2) (cc := prog_1_method_19_code) (d := (d + 6)) ((0, [(0, .ref 0), (1, .int p0)], [], zW3) : zz_F)
  replace b := zz_fw b T (rfl : zz_ent zP_22 0 = (0, za_aload 0 1)) (ze_aload rfl)
  exact zz_MX_B rfl rfl rfl rfl (by decide +kernel) (zz_lb rfl) (zz_TX_B b (zxc_22_1 (b := 0) (as := []) (r := []) hG (zX_needLinked hG hP hl hE) rfl (zz_has_c zh_0) (zz_lb rfl)))
theorem zXc_output {l : Launch} {D : va_G} {cy : Nat → ClassId} {z0 : Nat} {sp : Nat → Nat} {G : State → Prop} {d : Nat} (hG : zz_GF z0 G) (hP : ∀ U, G U → zz_GD zS zS2 zLg z0 sp U) (hl : l.stackTraces = false) (hE : ∀ U, G U → zGX z0 U) {p0 : Int32} : zz_MX l zTs D zcl zFK cy z0 sp (zTys cy) G zYN zCN zMQ zRT (d + 7) 23 [.ref 0, .int p0] zW3 "java/lang/IllegalStateException" (zz_pu zW3 (3, 15, 0, 0) 6) := by
  have T := zt_23 (l := l) (D := D) (cy := cy) (z0 := z0) (sp := sp) (G := G) (d := (d + 6)) zz_k0_KS hG hP
  have TK := fun (K : zz_K) (h : zz_KS l D zcl zFK cy z0 sp (zTys cy) G zYN (fun y => Cond.code (zYN y) (zCN y) (zMQ y) (zRT y) :: zTs) (d + 6) K) => zt_23 h hG hP
  have b := zz_B_rf (l := l) (Ts := zTs) (D := D) (cl := zcl) (fk := zFK) (cy := cy) (z0 := z0) (sp := sp) (tys := zTys cy) (G := G) (own := "ToolMill") (mn := "output") (nL := 2) (cc := prog_1_method_20_code) (d := (d + 6)) ((0, [(0, .ref 0), (1, .int p0)], [], zW3) : zz_F)
  replace b := zz_fw b T (rfl : zz_ent zP_23 0 = (0, za_aload 0 1)) (ze_aload rfl)
  exact zz_MX_B rfl rfl rfl rfl (by decide +kernel) (zz_lb rfl) (zz_TX_B b (zxc_23_1 (b := 0) (as := []) (r := []) hG (zX_needLinked hG hP hl hE) rfl (zz_has_c zh_0) (zz_lb rfl)))
theorem zXc_meant {l : Launch} {D : va_G} {cy : Nat → ClassId} {z0 : Nat} {sp : Nat → Nat} {G : State → Prop} {d : Nat} (hG : zz_GF z0 G) (hP : ∀ U, G U → zz_GD zS zS2 zLg z0 sp U) (hl : l.stackTraces = false) (hE : ∀ U, G U → zGX z0 U) {p0 : Int32} : zz_MX l zTs D zcl zFK cy z0 sp (zTys cy) G zYN zCN zMQ zRT (d + 7) 25 [.ref 0, .int p0] zW3 "java/lang/IllegalStateException" (zz_pu zW3 (3, 15, 0, 0) 6) := by
  have T := zt_25 (l := l) (D := D) (cy := cy) (z0 := z0) (sp := sp) (G := G) (d := (d + 6)) zz_k0_KS hG hP
  have TK := fun (K : zz_K) (h : zz_KS l D zcl zFK cy z0 sp (zTys cy) G zYN (fun y => Cond.code (zYN y) (zCN y) (zMQ y) (zRT y) :: zTs) (d + 6) K) => zt_25 h hG hP
  have b := zz_B_rf (l := l) (Ts := zTs) (D := D) (cl := zcl) (fk := zFK) (cy := cy) (z0 := z0) (sp := sp) (tys := zTys cy) (G := G) (own := "ToolMill") (mn := "meant") (nL := 2) (cc := prog_1_method_23_code) (d := (d + 6)) ((0, [(0, .ref 0), (1, .int p0)], [], zW3) : zz_F)
  replace b := zz_fw b T (rfl : zz_ent zP_25 0 = (0, za_aload 0 1)) (ze_aload rfl)
  exact zz_MX_B rfl rfl rfl rfl (by decide +kernel) (zz_lb rfl) (zz_TX_B b (zxc_25_1 (b := 0) (as := []) (r := []) hG (zX_needMeaning hG hP hl hE) rfl (zz_has_c zh_0) (zz_lb rfl)))
theorem zXc_said {l : Launch} {D : va_G} {cy : Nat → ClassId} {z0 : Nat} {sp : Nat → Nat} {G : State → Prop} {d : Nat} (hG : zz_GF z0 G) (hP : ∀ U, G U → zz_GD zS zS2 zLg z0 sp U) (hl : l.stackTraces = false) (hE : ∀ U, G U → zGX z0 U) {p0 : Int32} : zz_MX l zTs D zcl zFK cy z0 sp (zTys cy) G zYN zCN zMQ zRT (d + 7) 26 [.ref 0, .int p0] zW3 "java/lang/IllegalStateException" (zz_pu zW3 (3, 15, 0, 0) 6) := by
  have T := zt_26 (l := l) (D := D) (cy := cy) (z0 := z0) (sp := sp) (G := G) (d := (d + 6)) zz_k0_KS hG hP
  have TK := fun (K : zz_K) (h : zz_KS l D zcl zFK cy z0 sp (zTys cy) G zYN (fun y => Cond.code (zYN y) (zCN y) (zMQ y) (zRT y) :: zTs) (d + 6) K) => zt_26 h hG hP
  have b := zz_B_rf (l := l) (Ts := zTs) (D := D) (cl := zcl) (fk := zFK) (cy := cy) (z0 := z0) (sp := sp) (tys := zTys cy) (G := G) (own := "ToolMill") (mn := "said") (nL := 2) (cc := prog_1_method_24_code) (d := (d + 6)) ((0, [(0, .ref 0), (1, .int p0)], [], zW3) : zz_F)
  replace b := zz_fw b T (rfl : zz_ent zP_26 0 = (0, za_aload 0 1)) (ze_aload rfl)
  exact zz_MX_B rfl rfl rfl rfl (by decide +kernel) (zz_lb rfl) (zz_TX_B b (zxc_26_1 (b := 0) (as := []) (r := []) hG (zX_needMeaning hG hP hl hE) rfl (zz_has_c zh_0) (zz_lb rfl)))
theorem zXc_listing_n {l : Launch} {D : va_G} {cy : Nat → ClassId} {z0 : Nat} {sp : Nat → Nat} {G : State → Prop} {d : Nat} (hG : zz_GF z0 G) (hP : ∀ U, G U → zz_GD zS zS2 zLg z0 sp U) (hl : l.stackTraces = false) (hE : ∀ U, G U → zGX z0 U) {p0 p1 : Int32} (h : ¬ 0 ≤ p1) : zz_MX l zTs D zcl zFK cy z0 sp (zTys cy) G zYN zCN zMQ zRT (d + 6) 27 [.ref 0, .int p0, .int p1] zW3 "java/lang/IndexOutOfBoundsException" (zz_pu zW3 (3, 17, 0, 0) 6) := by
  have T := zt_27 (l := l) (D := D) (cy := cy) (z0 := z0) (sp := sp) (G := G) (d := (d + 5)) zz_k0_KS hG hP
  have TK := fun (K : zz_K) (h : zz_KS l D zcl zFK cy z0 sp (zTys cy) G zYN (fun y => Cond.code (zYN y) (zCN y) (zMQ y) (zRT y) :: zTs) (d + 5) K) => zt_27 h hG hP
  have b := zz_B_rf (l := l) (Ts := zTs) (D := D) (cl := zcl) (fk := zFK) (cy := cy) (z0 := z0) (sp := sp) (tys := zTys cy) (G := G) (own := "ToolMill") (mn := "listing") (nL := 3) (cc := prog_1_method_21_code) (d := (d + 5)) ((0, [(0, .ref 0), (1, .int p0), (2, .int p1)], [], zW3) : zz_F)
  replace b := zz_fw b T (rfl : zz_ent zP_27 0 = (0, za_iload 2 1)) (ze_iload rfl)
  replace b := zz_fw b T (rfl : zz_ent zP_27 1 = (0, za_if_ge 14 4)) (ze_if_ge_f h)
  exact zz_MX_B rfl rfl rfl rfl (by decide +kernel) (zz_lb rfl) (zz_TX_B b (zth_27_4 hl hP hE (by omega) (zz_lb rfl) zs3 (by decide +kernel)))
