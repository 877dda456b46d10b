/-! walks of methods, by program -/
theorem zM_in_l {l : Launch} {D : va_G} {cy : Nat → ClassId} {z0 : Nat} {sp : Nat → Nat} {G : State → Prop} {d : Nat} (hG : zz_GF z0 G) (hP : ∀ U, G U → zz_GD zS zS2 zLg z0 sp U) {w : zz_W} {p0 p1 p2 : Int32} (h : p0 < p1) : zz_M l zTs D zcl zFK cy z0 sp (zTys cy) G zYN zCN zMQ zRT (d + 1) 80 [.int p0, .int p1, .int p2] w [.int (Int32.ofNat 0)] w := by
  have T := zt_80 (l := l) (D := D) (cy := cy) (z0 := z0) (sp := sp) (G := G) (d := d) zz_k0_KS hG hP
  have TK := fun (K : zz_K) (h : zz_KS l D zcl zFK cy z0 sp (zTys cy) G zYN (fun y => Cond.code (zYN y) (zCN y) (zMQ y) (zRT y) :: zTs) d K) => zt_80 h hG hP
  have b := zz_B_rf (l := l) (Ts := zTs) (D := D) (cl := zcl) (fk := zFK) (cy := cy) (z0 := z0) (sp := sp) (tys := zTys cy) (G := G) (own := "ToolMillModel") (mn := "in") (nL := 3) (cc := prog_14_method_4_code) (d := d) ((0, [(0, .int p0), (1, .int p1), (2, .int p2)], [], w) : zz_F)
  replace b := zz_fw b T (rfl : zz_ent zP_80 0 = (0, za_iload 0 1)) (ze_iload rfl)
  replace b := zz_fw b T (rfl : zz_ent zP_80 1 = (0, za_iload 1 2)) (ze_iload rfl)
  replace b := zz_fw b T (rfl : zz_ent zP_80 2 = (0, za_icmp_lt 14 5)) (ze_icmp_lt_t h)
  replace b := zz_fw b T (rfl : zz_ent zP_80 14 = (0, za_const (.int (Int32.ofNat 0)) 15)) (ze_const)
  exact zz_M_B rfl rfl rfl rfl rfl (by decide +kernel) (zz_lb rfl) (zz_lb rfl) (zz_end_z (zr_80.2.2.1 15 rfl).1 (by decide)) b
theorem zM_in_g {l : Launch} {D : va_G} {cy : Nat → ClassId} {z0 : Nat} {sp : Nat → Nat} {G : State → Prop} {d : Nat} (hG : zz_GF z0 G) (hP : ∀ U, G U → zz_GD zS zS2 zLg z0 sp U) {w : zz_W} {p0 p1 p2 : Int32} (h1 : ¬ p0 < p1) (h2 : p2 < p0) : zz_M l zTs D zcl zFK cy z0 sp (zTys cy) G zYN zCN zMQ zRT (d + 1) 80 [.int p0, .int p1, .int p2] w [.int (Int32.ofNat 0)] w := by
  have T := zt_80 (l := l) (D := D) (cy := cy) (z0 := z0) (sp := sp) (G := G) (d := d) zz_k0_KS hG hP
  have TK := fun (K : zz_K) (h : zz_KS l D zcl zFK cy z0 sp (zTys cy) G zYN (fun y => Cond.code (zYN y) (zCN y) (zMQ y) (zRT y) :: zTs) d K) => zt_80 h hG hP
  have b := zz_B_rf (l := l) (Ts := zTs) (D := D) (cl := zcl) (fk := zFK) (cy := cy) (z0 := z0) (sp := sp) (tys := zTys cy) (G := G) (own := "ToolMillModel") (mn := "in") (nL := 3) (cc := prog_14_method_4_code) (d := d) ((0, [(0, .int p0), (1, .int p1), (2, .int p2)], [], w) : zz_F)
  replace b := zz_fw b T (rfl : zz_ent zP_80 0 = (0, za_iload 0 1)) (ze_iload rfl)
  replace b := zz_fw b T (rfl : zz_ent zP_80 1 = (0, za_iload 1 2)) (ze_iload rfl)
  replace b := zz_fw b T (rfl : zz_ent zP_80 2 = (0, za_icmp_lt 14 5)) (ze_icmp_lt_f h1)
  replace b := zz_fw b T (rfl : zz_ent zP_80 5 = (0, za_iload 0 6)) (ze_iload rfl)
  replace b := zz_fw b T (rfl : zz_ent zP_80 6 = (0, za_iload 2 7)) (ze_iload rfl)
  replace b := zz_fw b T (rfl : zz_ent zP_80 7 = (0, za_icmp_gt 14 10)) (ze_icmp_gt_t h2)
  replace b := zz_fw b T (rfl : zz_ent zP_80 14 = (0, za_const (.int (Int32.ofNat 0)) 15)) (ze_const)
  exact zz_M_B rfl rfl rfl rfl rfl (by decide +kernel) (zz_lb rfl) (zz_lb rfl) (zz_end_z (zr_80.2.2.1 15 rfl).1 (by decide)) b
theorem zM_in_k {l : Launch} {D : va_G} {cy : Nat → ClassId} {z0 : Nat} {sp : Nat → Nat} {G : State → Prop} {d : Nat} (hG : zz_GF z0 G) (hP : ∀ U, G U → zz_GD zS zS2 zLg z0 sp U) {w : zz_W} {p0 p1 p2 : Int32} (h1 : ¬ p0 < p1) (h2 : ¬ p2 < p0) : zz_M l zTs D zcl zFK cy z0 sp (zTys cy) G zYN zCN zMQ zRT (d + 1) 80 [.int p0, .int p1, .int p2] w [.int (Int32.ofNat 1)] w := by
  have T := zt_80 (l := l) (D := D) (cy := cy) (z0 := z0) (sp := sp) (G := G) (d := d) zz_k0_KS hG hP
  have TK := fun (K : zz_K) (h : zz_KS l D zcl zFK cy z0 sp (zTys cy) G zYN (fun y => Cond.code (zYN y) (zCN y) (zMQ y) (zRT y) :: zTs) d K) => zt_80 h hG hP
  have b := zz_B_rf (l := l) (Ts := zTs) (D := D) (cl := zcl) (fk := zFK) (cy := cy) (z0 := z0) (sp := sp) (tys := zTys cy) (G := G) (own := "ToolMillModel") (mn := "in") (nL := 3) (cc := prog_14_method_4_code) (d := d) ((0, [(0, .int p0), (1, .int p1), (2, .int p2)], [], w) : zz_F)
  replace b := zz_fw b T (rfl : zz_ent zP_80 0 = (0, za_iload 0 1)) (ze_iload rfl)
  replace b := zz_fw b T (rfl : zz_ent zP_80 1 = (0, za_iload 1 2)) (ze_iload rfl)
  replace b := zz_fw b T (rfl : zz_ent zP_80 2 = (0, za_icmp_lt 14 5)) (ze_icmp_lt_f h1)
  replace b := zz_fw b T (rfl : zz_ent zP_80 5 = (0, za_iload 0 6)) (ze_iload rfl)
  replace b := zz_fw b T (rfl : zz_ent zP_80 6 = (0, za_iload 2 7)) (ze_iload rfl)
  replace b := zz_fw b T (rfl : zz_ent zP_80 7 = (0, za_icmp_gt 14 10)) (ze_icmp_gt_f h2)
  replace b := zz_fw b T (rfl : zz_ent zP_80 10 = (0, za_const (.int (Int32.ofNat 1)) 11)) (ze_const)
  replace b := zz_fw b T (rfl : zz_ent zP_80 11 = (0, za_goto 15)) (ze_goto)
  exact zz_M_B rfl rfl rfl rfl rfl (by decide +kernel) (zz_lb rfl) (zz_lb rfl) (zz_end_z (zr_80.2.2.1 15 rfl).1 (by decide)) b
theorem zM_in_n {l : Launch} {D : va_G} {cy : Nat → ClassId} {z0 : Nat} {sp : Nat → Nat} {G : State → Prop} {d : Nat} (hG : zz_GF z0 G) (hP : ∀ U, G U → zz_GD zS zS2 zLg z0 sp U) {w : zz_W} {p0 p1 p2 : Int32} (h : p0 < p1 ∨ p2 < p0) : zz_M l zTs D zcl zFK cy z0 sp (zTys cy) G zYN zCN zMQ zRT (d + 1) 80 [.int p0, .int p1, .int p2] w [.int (Int32.ofNat 0)] w := by
  by_cases h1 : p0 < p1
  · exact zM_in_l hG hP h1
  · exact zM_in_g hG hP h1 (h.resolve_left h1)
theorem zM_rf10 {l : Launch} {D : va_G} {cy : Nat → ClassId} {z0 : Nat} {sp : Nat → Nat} {G : State → Prop} {d : Nat} (hG : zz_GF z0 G) (hP : ∀ U, G U → zz_GD zS zS2 zLg z0 sp U) {w : zz_W} {N : Nat} (hs : zz_sh w) (h : zz_has w 171 (3, 0, 243, N)) : zz_M l zTs D zcl zFK cy z0 sp (zTys cy) G zYN zCN zMQ zRT (d + 1) 71 [.ref 171, .int (Int32.ofNat 1), .int (Int32.ofNat 0)] w [.int (Int32.ofNat 1)] (zz_up w 171 (3, 0, 243, (zz_to 64 N 0 (zz_nI (Int32.ofNat 1))))) := by
  have T := zt_71 (l := l) (D := D) (cy := cy) (z0 := z0) (sp := sp) (G := G) (d := d) zz_k0_KS hG hP
  have TK := fun (K : zz_K) (h : zz_KS l D zcl zFK cy z0 sp (zTys cy) G zYN (fun y => Cond.code (zYN y) (zCN y) (zMQ y) (zRT y) :: zTs) d K) => zt_71 h hG hP
  have b := zz_B_rf (l := l) (Ts := zTs) (D := D) (cl := zcl) (fk := zFK) (cy := cy) (z0 := z0) (sp := sp) (tys := zTys cy) (G := G) (own := "ToolMillModel") (mn := "refuse") (nL := 3) (cc := prog_14_method_3_code) (d := d) ((0, [(0, .ref 171), (1, .int (Int32.ofNat 1)), (2, .int (Int32.ofNat 0))], [], w) : zz_F)
  replace b := zz_fw b T (rfl : zz_ent zP_71 0 = (0, za_aload 0 1)) (ze_aload rfl)
  replace b := zz_fw b T (rfl : zz_ent zP_71 1 = (0, za_iload 1 2)) (ze_iload rfl)
  replace b := zz_fw b T (rfl : zz_ent zP_71 2 = (0, za_if_eq 9 5)) (ze_if_eq_f (by decide))
  replace b := zz_fw b T (rfl : zz_ent zP_71 5 = (0, za_const (.int (Int32.ofNat 1)) 6)) (ze_const)
  replace b := zz_fw b T (rfl : zz_ent zP_71 6 = (0, za_goto 18)) (ze_goto)
  replace b := zz_fw b T (rfl : zz_ent zP_71 18 = (0, za_putI 0 0 21)) (ze_putI hs h (by decide))
  replace b := zz_fw b T (rfl : zz_ent zP_71 21 = (0, za_aload 0 22)) (ze_aload rfl)
  replace b := zz_fw b T (rfl : zz_ent zP_71 22 = (0, za_getI 0 0 25)) (ze_getI (zz_has_up hs h) (by decide) zz_gs)
  replace b := zz_fw b T (rfl : zz_ent zP_71 25 = (0, za_if_le 32 28)) (ze_if_le_f (by decide))
  replace b := zz_fw b T (rfl : zz_ent zP_71 28 = (0, za_const (.int (Int32.ofNat 1)) 29)) (ze_const)
  replace b := zz_fw b T (rfl : zz_ent zP_71 29 = (0, za_goto 33)) (ze_goto)
  exact zz_M_B rfl rfl rfl rfl rfl (by decide +kernel) (zz_lb rfl) (zz_lb rfl) (zz_end_z (zr_71.2.2.1 33 rfl).1 (by decide)) b
theorem zM_rf01 {l : Launch} {D : va_G} {cy : Nat → ClassId} {z0 : Nat} {sp : Nat → Nat} {G : State → Prop} {d : Nat} (hG : zz_GF z0 G) (hP : ∀ U, G U → zz_GD zS zS2 zLg z0 sp U) {w : zz_W} {N : Nat} (hs : zz_sh w) (h : zz_has w 171 (3, 0, 243, N)) : zz_M l zTs D zcl zFK cy z0 sp (zTys cy) G zYN zCN zMQ zRT (d + 1) 71 [.ref 171, .int (Int32.ofNat 0), .int (Int32.ofNat 1)] w [.int (Int32.ofNat 1)] (zz_up w 171 (3, 0, 243, (zz_to 64 N 0 (zz_nI (Int32.ofNat 2))))) := by
  have T := zt_71 (l := l) (D := D) (cy := cy) (z0 := z0) (sp := sp) (G := G) (d := d) zz_k0_KS hG hP
  have TK := fun (K : zz_K) (h : zz_KS l D zcl zFK cy z0 sp (zTys cy) G zYN (fun y => Cond.code (zYN y) (zCN y) (zMQ y) (zRT y) :: zTs) d K) => zt_71 h hG hP
  have b := zz_B_rf (l := l) (Ts := zTs) (D := D) (cl := zcl) (fk := zFK) (cy := cy) (z0 := z0) (sp := sp) (tys := zTys cy) (G := G) (own := "ToolMillModel") (mn := "refuse") (nL := 3) (cc := prog_14_method_3_code) (d := d) ((0, [(0, .ref 171), (1, .int (Int32.ofNat 0)), (2, .int (Int32.ofNat 1))], [], w) : zz_F)
  replace b := zz_fw b T (rfl : zz_ent zP_71 0 = (0, za_aload 0 1)) (ze_aload rfl)
  replace b := zz_fw b T (rfl : zz_ent zP_71 1 = (0, za_iload 1 2)) (ze_iload rfl)
  replace b := zz_fw b T (rfl : zz_ent zP_71 2 = (0, za_if_eq 9 5)) (ze_if_eq_t (by decide))
  replace b := zz_fw b T (rfl : zz_ent zP_71 9 = (0, za_iload 2 10)) (ze_iload rfl)
  replace b := zz_fw b T (rfl : zz_ent zP_71 10 = (0, za_if_eq 17 13)) (ze_if_eq_f (by decide))
  replace b := zz_fw b T (rfl : zz_ent zP_71 13 = (0, za_const (.int (Int32.ofNat 2)) 14)) (ze_const)
  replace b := zz_fw b T (rfl : zz_ent zP_71 14 = (0, za_goto 18)) (ze_goto)
  replace b := zz_fw b T (rfl : zz_ent zP_71 18 = (0, za_putI 0 0 21)) (ze_putI hs h (by decide))
  replace b := zz_fw b T (rfl : zz_ent zP_71 21 = (0, za_aload 0 22)) (ze_aload rfl)
  replace b := zz_fw b T (rfl : zz_ent zP_71 22 = (0, za_getI 0 0 25)) (ze_getI (zz_has_up hs h) (by decide) zz_gs)
  replace b := zz_fw b T (rfl : zz_ent zP_71 25 = (0, za_if_le 32 28)) (ze_if_le_f (by decide))
  replace b := zz_fw b T (rfl : zz_ent zP_71 28 = (0, za_const (.int (Int32.ofNat 1)) 29)) (ze_const)
  replace b := zz_fw b T (rfl : zz_ent zP_71 29 = (0, za_goto 33)) (ze_goto)
  exact zz_M_B rfl rfl rfl rfl rfl (by decide +kernel) (zz_lb rfl) (zz_lb rfl) (zz_end_z (zr_71.2.2.1 33 rfl).1 (by decide)) b
theorem zM_rf00 {l : Launch} {D : va_G} {cy : Nat → ClassId} {z0 : Nat} {sp : Nat → Nat} {G : State → Prop} {d : Nat} (hG : zz_GF z0 G) (hP : ∀ U, G U → zz_GD zS zS2 zLg z0 sp U) {w : zz_W} {N : Nat} (hs : zz_sh w) (h : zz_has w 171 (3, 0, 243, N)) : zz_M l zTs D zcl zFK cy z0 sp (zTys cy) G zYN zCN zMQ zRT (d + 1) 71 [.ref 171, .int (Int32.ofNat 0), .int (Int32.ofNat 0)] w [.int (Int32.ofNat 0)] (zz_up w 171 (3, 0, 243, (zz_to 64 N 0 (zz_nI (Int32.ofNat 0))))) := by
  have T := zt_71 (l := l) (D := D) (cy := cy) (z0 := z0) (sp := sp) (G := G) (d := d) zz_k0_KS hG hP
  have TK := fun (K : zz_K) (h : zz_KS l D zcl zFK cy z0 sp (zTys cy) G zYN (fun y => Cond.code (zYN y) (zCN y) (zMQ y) (zRT y) :: zTs) d K) => zt_71 h hG hP
  have b := zz_B_rf (l := l) (Ts := zTs) (D := D) (cl := zcl) (fk := zFK) (cy := cy) (z0 := z0) (sp := sp) (tys := zTys cy) (G := G) (own := "ToolMillModel") (mn := "refuse") (nL := 3) (cc := prog_14_method_3_code) (d := d) ((0, [(0, .ref 171), (1, .int (Int32.ofNat 0)), (2, .int (Int32.ofNat 0))], [], w) : zz_F)
  replace b := zz_fw b T (rfl : zz_ent zP_71 0 = (0, za_aload 0 1)) (ze_aload rfl)
  replace b := zz_fw b T (rfl : zz_ent zP_71 1 = (0, za_iload 1 2)) (ze_iload rfl)
  replace b := zz_fw b T (rfl : zz_ent zP_71 2 = (0, za_if_eq 9 5)) (ze_if_eq_t (by decide))
  replace b := zz_fw b T (rfl : zz_ent zP_71 9 = (0, za_iload 2 10)) (ze_iload rfl)
  replace b := zz_fw b T (rfl : zz_ent zP_71 10 = (0, za_if_eq 17 13)) (ze_if_eq_t (by decide))
  replace b := zz_fw b T (rfl : zz_ent zP_71 17 = (0, za_const (.int (Int32.ofNat 0)) 18)) (ze_const)
  replace b := zz_fw b T (rfl : zz_ent zP_71 18 = (0, za_putI 0 0 21)) (ze_putI hs h (by decide))
  replace b := zz_fw b T (rfl : zz_ent zP_71 21 = (0, za_aload 0 22)) (ze_aload rfl)
  replace b := zz_fw b T (rfl : zz_ent zP_71 22 = (0, za_getI 0 0 25)) (ze_getI (zz_has_up hs h) (by decide) zz_gs)
  replace b := zz_fw b T (rfl : zz_ent zP_71 25 = (0, za_if_le 32 28)) (ze_if_le_t (by decide))
  replace b := zz_fw b T (rfl : zz_ent zP_71 32 = (0, za_const (.int (Int32.ofNat 0)) 33)) (ze_const)
  exact zz_M_B rfl rfl rfl rfl rfl (by decide +kernel) (zz_lb rfl) (zz_lb rfl) (zz_end_z (zr_71.2.2.1 33 rfl).1 (by decide)) b
theorem zM_th {l : Launch} {D : va_G} {cy : Nat → ClassId} {z0 : Nat} {sp : Nat → Nat} {G : State → Prop} {d : Nat} (hG : zz_GF z0 G) (hP : ∀ U, G U → zz_GD zS zS2 zLg z0 sp U) {w : zz_W} {N : Nat} (hs : zz_sh w) (h : zz_has w 171 (3, 0, 243, N)) {t : Int32} (ht : Int32.ofNat (zz_at 64 N 0) = t) : zz_M l zTs D zcl zFK cy z0 sp (zTys cy) G zYN zCN zMQ zRT (d + 1) 48 [.ref 171] w [.int t] w := by
  have T := zt_48 (l := l) (D := D) (cy := cy) (z0 := z0) (sp := sp) (G := G) (d := d) zz_k0_KS hG hP
  have TK := fun (K : zz_K) (h : zz_KS l D zcl zFK cy z0 sp (zTys cy) G zYN (fun y => Cond.code (zYN y) (zCN y) (zMQ y) (zRT y) :: zTs) d K) => zt_48 h hG hP
  have b := zz_B_rf (l := l) (Ts := zTs) (D := D) (cl := zcl) (fk := zFK) (cy := cy) (z0 := z0) (sp := sp) (tys := zTys cy) (G := G) (own := "ToolMillModel") (mn := "thrown") (nL := 1) (cc := prog_14_method_2_code) (d := d) ((0, [(0, .ref 171)], [], w) : zz_F)
  replace b := zz_fw b T (rfl : zz_ent zP_48 0 = (0, za_aload 0 1)) (ze_aload rfl)
  replace b := zz_fw b T (rfl : zz_ent zP_48 1 = (0, za_getI 0 0 4)) (ze_getI h (by decide) ht)
  exact zz_M_B rfl rfl rfl rfl rfl (by decide +kernel) (zz_lb rfl) (zz_lb rfl) (zz_end_i (zr_48.2.1 4 rfl).1) b
theorem zM_isUnit_6 {l : Launch} {D : va_G} {cy : Nat → ClassId} {z0 : Nat} {sp : Nat → Nat} {G : State → Prop} {d : Nat} (hG : zz_GF z0 G) (hP : ∀ U, G U → zz_GD zS zS2 zLg z0 sp U) {w : zz_W} (hw : zR w) : zz_M l zTs D zcl zFK cy z0 sp (zTys cy) G zYN zCN zMQ zRT (d + 2) 81 [.ref 171, .int (Int32.ofNat 6)] w [.int (Int32.ofNat 1)] w := by
  have T := zt_81 (l := l) (D := D) (cy := cy) (z0 := z0) (sp := sp) (G := G) (d := (d + 1)) zz_k0_KS hG hP
  have TK := fun (K : zz_K) (h : zz_KS l D zcl zFK cy z0 sp (zTys cy) G zYN (fun y => Cond.code (zYN y) (zCN y) (zMQ y) (zRT y) :: zTs) (d + 1) K) => zt_81 h hG hP
  have b := zz_B_rf (l := l) (Ts := zTs) (D := D) (cl := zcl) (fk := zFK) (cy := cy) (z0 := z0) (sp := sp) (tys := zTys cy) (G := G) (own := "ToolMillModel") (mn := "isUnit") (nL := 2) (cc := prog_14_method_183_code) (d := (d + 1)) ((0, [(0, .ref 171), (1, .int (Int32.ofNat 6))], [], w) : zz_F)
  replace b := zz_fw b T (rfl : zz_ent zP_81 0 = (0, za_iload 1 1)) (ze_iload rfl)
  replace b := zz_fw b T (rfl : zz_ent zP_81 1 = (0, za_const (.int (Int32.ofNat 0)) 2)) (ze_const)
  replace b := zz_fw b T (rfl : zz_ent zP_81 2 = (0, za_aload 0 3)) (ze_aload rfl)
  replace b := zz_fw b T (rfl : zz_ent zP_81 3 = (0, za_getI 0 10 6)) (ze_getI (zR_has hw zh_171 (by decide) (by decide)) (by decide) (congrArg Int32.ofNat zv_171_10))
  replace b := zz_fw b T (rfl : zz_ent zP_81 6 = (0, za_const (.int (Int32.ofNat 1)) 7)) (ze_const)
  replace b := zz_fw b T (rfl : zz_ent zP_81 7 = (0, za_isub 8)) (ze_isub rfl)
  replace b := zz_fSi b TK (rfl : zz_ent zP_81 8 = (0, za_callS 80 3 11)) (zM_in_n hG hP (by decide)) rfl rfl (zz_lb rfl)
  replace b := zz_fw b T (rfl : zz_ent zP_81 11 = (0, za_if_ne 20 14)) (ze_if_ne_f (by decide))
  replace b := zz_fw b T (rfl : zz_ent zP_81 14 = (0, za_iload 1 15)) (ze_iload rfl)
  replace b := zz_fw b T (rfl : zz_ent zP_81 15 = (0, za_const (.int (Int32.ofNat 6)) 17)) (ze_const)
  replace b := zz_fw b T (rfl : zz_ent zP_81 17 = (0, za_icmp_ne 24 20)) (ze_icmp_ne_f (by decide))
  replace b := zz_fw b T (rfl : zz_ent zP_81 20 = (0, za_const (.int (Int32.ofNat 1)) 21)) (ze_const)
  replace b := zz_fw b T (rfl : zz_ent zP_81 21 = (0, za_goto 25)) (ze_goto)
  exact zz_M_B rfl rfl rfl rfl rfl (by decide +kernel) (zz_lb rfl) (zz_lb rfl) (zz_end_z (zr_81.2.2.1 25 rfl).1 (by decide)) b
theorem zM_isUnit_n {l : Launch} {D : va_G} {cy : Nat → ClassId} {z0 : Nat} {sp : Nat → Nat} {G : State → Prop} {d : Nat} (hG : zz_GF z0 G) (hP : ∀ U, G U → zz_GD zS zS2 zLg z0 sp U) {w : zz_W} (hw : zR w) {p0 : Int32} (h : ¬ p0 = Int32.ofNat 6) : zz_M l zTs D zcl zFK cy z0 sp (zTys cy) G zYN zCN zMQ zRT (d + 2) 81 [.ref 171, .int p0] w [.int (Int32.ofNat 0)] w := by
  have T := zt_81 (l := l) (D := D) (cy := cy) (z0 := z0) (sp := sp) (G := G) (d := (d + 1)) zz_k0_KS hG hP
  have TK := fun (K : zz_K) (h : zz_KS l D zcl zFK cy z0 sp (zTys cy) G zYN (fun y => Cond.code (zYN y) (zCN y) (zMQ y) (zRT y) :: zTs) (d + 1) K) => zt_81 h hG hP
  have b := zz_B_rf (l := l) (Ts := zTs) (D := D) (cl := zcl) (fk := zFK) (cy := cy) (z0 := z0) (sp := sp) (tys := zTys cy) (G := G) (own := "ToolMillModel") (mn := "isUnit") (nL := 2) (cc := prog_14_method_183_code) (d := (d + 1)) ((0, [(0, .ref 171), (1, .int p0)], [], w) : zz_F)
  replace b := zz_fw b T (rfl : zz_ent zP_81 0 = (0, za_iload 1 1)) (ze_iload rfl)
  replace b := zz_fw b T (rfl : zz_ent zP_81 1 = (0, za_const (.int (Int32.ofNat 0)) 2)) (ze_const)
  replace b := zz_fw b T (rfl : zz_ent zP_81 2 = (0, za_aload 0 3)) (ze_aload rfl)
  replace b := zz_fw b T (rfl : zz_ent zP_81 3 = (0, za_getI 0 10 6)) (ze_getI (zR_has hw zh_171 (by decide) (by decide)) (by decide) (congrArg Int32.ofNat zv_171_10))
  replace b := zz_fw b T (rfl : zz_ent zP_81 6 = (0, za_const (.int (Int32.ofNat 1)) 7)) (ze_const)
  replace b := zz_fw b T (rfl : zz_ent zP_81 7 = (0, za_isub 8)) (ze_isub rfl)
  replace b := zz_fSi b TK (rfl : zz_ent zP_81 8 = (0, za_callS 80 3 11)) (zM_in_n hG hP (by show p0 < Int32.ofNat 0 ∨ Int32.ofNat 0 - Int32.ofNat 1 < p0; exact zz_any p0)) rfl rfl (zz_lb rfl)
  replace b := zz_fw b T (rfl : zz_ent zP_81 11 = (0, za_if_ne 20 14)) (ze_if_ne_f (by decide))
  replace b := zz_fw b T (rfl : zz_ent zP_81 14 = (0, za_iload 1 15)) (ze_iload rfl)
  replace b := zz_fw b T (rfl : zz_ent zP_81 15 = (0, za_const (.int (Int32.ofNat 6)) 17)) (ze_const)
  replace b := zz_fw b T (rfl : zz_ent zP_81 17 = (0, za_icmp_ne 24 20)) (ze_icmp_ne_t h)
  replace b := zz_fw b T (rfl : zz_ent zP_81 24 = (0, za_const (.int (Int32.ofNat 0)) 25)) (ze_const)
  exact zz_M_B rfl rfl rfl rfl rfl (by decide +kernel) (zz_lb rfl) (zz_lb rfl) (zz_end_z (zr_81.2.2.1 25 rfl).1 (by decide)) b
theorem zMr_end_n {l : Launch} {D : va_G} {cy : Nat → ClassId} {z0 : Nat} {sp : Nat → Nat} {G : State → Prop} {d : Nat} (hG : zz_GF z0 G) (hP : ∀ U, G U → zz_GD zS zS2 zLg z0 sp U) {w : zz_W} (hw : zR w) {p0 : Int32} (h : p0 < Int32.ofNat 0 ∨ Int32.ofNat 0 < p0) : zz_M l zTs D zcl zFK cy z0 sp (zTys cy) G zYN zCN zMQ zRT (d + 2) 29 [.ref 171, .int p0] w [] (zz_up w 171 (3, 0, 243, (zz_to 64 zc_171 0 (zz_nI (Int32.ofNat 1))))) := by
  have T := zt_29 (l := l) (D := D) (cy := cy) (z0 := z0) (sp := sp) (G := G) (d := (d + 1)) zz_k0_KS hG hP
  have TK := fun (K : zz_K) (h : zz_KS l D zcl zFK cy z0 sp (zTys cy) G zYN (fun y => Cond.code (zYN y) (zCN y) (zMQ y) (zRT y) :: zTs) (d + 1) K) => zt_29 h hG hP
  have b := zz_B_rf (l := l) (Ts := zTs) (D := D) (cl := zcl) (fk := zFK) (cy := cy) (z0 := z0) (sp := sp) (tys := zTys cy) (G := G) (own := "ToolMillModel") (mn := "end") (nL := 2) (cc := prog_14_method_6_code) (d := (d + 1)) ((0, [(0, .ref 171), (1, .int p0)], [], w) : zz_F)
  replace b := zz_fw b T (rfl : zz_ent zP_29 0 = (0, za_aload 0 1)) (ze_aload rfl)
  replace b := zz_fw b T (rfl : zz_ent zP_29 1 = (0, za_iload 1 2)) (ze_iload rfl)
  replace b := zz_fw b T (rfl : zz_ent zP_29 2 = (0, za_const (.int (Int32.ofNat 0)) 3)) (ze_const)
  replace b := zz_fw b T (rfl : zz_ent zP_29 3 = (0, za_aload 0 4)) (ze_aload rfl)
  replace b := zz_fw b T (rfl : zz_ent zP_29 4 = (0, za_getI 0 2 7)) (ze_getI (zR_has hw zh_171 (by decide) (by decide)) (by decide) (congrArg Int32.ofNat zv_171_2))
  replace b := zz_fSi b TK (rfl : zz_ent zP_29 7 = (0, za_callS 80 3 10)) (zM_in_n hG hP h) rfl rfl (zz_lb rfl)
  replace b := zz_fw b T (rfl : zz_ent zP_29 10 = (0, za_if_ne 17 13)) (ze_if_ne_f (by decide))
  replace b := zz_fw b T (rfl : zz_ent zP_29 13 = (0, za_const (.int (Int32.ofNat 1)) 14)) (ze_const)
  replace b := zz_fw b T (rfl : zz_ent zP_29 14 = (0, za_goto 18)) (ze_goto)
  replace b := zz_fw b T (rfl : zz_ent zP_29 18 = (0, za_const (.int (Int32.ofNat 0)) 19)) (ze_const)
  replace b := zz_fVi b TK (rfl : zz_ent zP_29 19 = (0, za_callV 0 71 2 22)) (zM_rf10 hG hP hw.1 (zR_has hw zh_171 (by decide) (by decide))) rfl rfl (zz_has_c (zR_has hw zh_171 (by decide) (by decide))) (zz_lb rfl)
  replace b := zz_fw b T (rfl : zz_ent zP_29 22 = (0, za_if_ne 30 25)) (ze_if_ne_t (by decide))
  exact zz_M_B rfl rfl rfl rfl rfl (by decide +kernel) (zz_lb rfl) (zz_lb rfl) (zz_end_v (zr_29.1 30 rfl).1) b
theorem zMr_end_0 {l : Launch} {D : va_G} {cy : Nat → ClassId} {z0 : Nat} {sp : Nat → Nat} {G : State → Prop} {d : Nat} (hG : zz_GF z0 G) (hP : ∀ U, G U → zz_GD zS zS2 zLg z0 sp U) {w : zz_W} (hw : zR w) : zz_M l zTs D zcl zFK cy z0 sp (zTys cy) G zYN zCN zMQ zRT (d + 2) 29 [.ref 171, .int (Int32.ofNat 0)] w [] (zz_up (zz_up w 171 (3, 0, 243, (zz_to 64 zc_171 0 (zz_nI (Int32.ofNat 0))))) 171 (3, 0, 243, (zz_to 64 (zz_to 64 zc_171 0 (zz_nI (Int32.ofNat 0))) 2 (zz_nI (Int32.ofNat 0))))) := by
  have T := zt_29 (l := l) (D := D) (cy := cy) (z0 := z0) (sp := sp) (G := G) (d := (d + 1)) zz_k0_KS hG hP
  have TK := fun (K : zz_K) (h : zz_KS l D zcl zFK cy z0 sp (zTys cy) G zYN (fun y => Cond.code (zYN y) (zCN y) (zMQ y) (zRT y) :: zTs) (d + 1) K) => zt_29 h hG hP
  have b := zz_B_rf (l := l) (Ts := zTs) (D := D) (cl := zcl) (fk := zFK) (cy := cy) (z0 := z0) (sp := sp) (tys := zTys cy) (G := G) (own := "ToolMillModel") (mn := "end") (nL := 2) (cc := prog_14_method_6_code) (d := (d + 1)) ((0, [(0, .ref 171), (1, .int (Int32.ofNat 0))], [], w) : zz_F)
  replace b := zz_fw b T (rfl : zz_ent zP_29 0 = (0, za_aload 0 1)) (ze_aload rfl)
  replace b := zz_fw b T (rfl : zz_ent zP_29 1 = (0, za_iload 1 2)) (ze_iload rfl)
  replace b := zz_fw b T (rfl : zz_ent zP_29 2 = (0, za_const (.int (Int32.ofNat 0)) 3)) (ze_const)
  replace b := zz_fw b T (rfl : zz_ent zP_29 3 = (0, za_aload 0 4)) (ze_aload rfl)
  replace b := zz_fw b T (rfl : zz_ent zP_29 4 = (0, za_getI 0 2 7)) (ze_getI (zR_has hw zh_171 (by decide) (by decide)) (by decide) (congrArg Int32.ofNat zv_171_2))
  replace b := zz_fSi b TK (rfl : zz_ent zP_29 7 = (0, za_callS 80 3 10)) (zM_in_k hG hP (by decide) (by decide)) rfl rfl (zz_lb rfl)
  replace b := zz_fw b T (rfl : zz_ent zP_29 10 = (0, za_if_ne 17 13)) (ze_if_ne_t (by decide))
  replace b := zz_fw b T (rfl : zz_ent zP_29 17 = (0, za_const (.int (Int32.ofNat 0)) 18)) (ze_const)
  replace b := zz_fw b T (rfl : zz_ent zP_29 18 = (0, za_const (.int (Int32.ofNat 0)) 19)) (ze_const)
  replace b := zz_fVi b TK (rfl : zz_ent zP_29 19 = (0, za_callV 0 71 2 22)) (zM_rf00 hG hP hw.1 (zR_has hw zh_171 (by decide) (by decide))) rfl rfl (zz_has_c (zR_has hw zh_171 (by decide) (by decide))) (zz_lb rfl)
  replace b := zz_fw b T (rfl : zz_ent zP_29 22 = (0, za_if_ne 30 25)) (ze_if_ne_f (by decide))
  replace b := zz_fw b T (rfl : zz_ent zP_29 25 = (0, za_aload 0 26)) (ze_aload rfl)
  replace b := zz_fw b T (rfl : zz_ent zP_29 26 = (0, za_iload 1 27)) (ze_iload rfl)
  replace b := zz_fw b T (rfl : zz_ent zP_29 27 = (0, za_putI 0 2 30)) (ze_putI (zz_up_sh hw.1) (zz_has_up hw.1 (zR_has hw zh_171 (by decide) (by decide))) (by decide))
  exact zz_M_B rfl rfl rfl rfl rfl (by decide +kernel) (zz_lb rfl) (zz_lb rfl) (zz_end_v (zr_29.1 30 rfl).1) b
theorem zMr_fault_n {l : Launch} {D : va_G} {cy : Nat → ClassId} {z0 : Nat} {sp : Nat → Nat} {G : State → Prop} {d : Nat} (hG : zz_GF z0 G) (hP : ∀ U, G U → zz_GD zS zS2 zLg z0 sp U) {w : zz_W} (hw : zR w) {p0 : Int32} (h : p0 < Int32.ofNat 0 ∨ Int32.ofNat 2 < p0) : zz_M l zTs D zcl zFK cy z0 sp (zTys cy) G zYN zCN zMQ zRT (d + 2) 30 [.ref 171, .int p0] w [.int (Int32.ofNat 0)] (zz_up w 171 (3, 0, 243, (zz_to 64 zc_171 0 (zz_nI (Int32.ofNat 1))))) := by
  have T := zt_30 (l := l) (D := D) (cy := cy) (z0 := z0) (sp := sp) (G := G) (d := (d + 1)) zz_k0_KS hG hP
  have TK := fun (K : zz_K) (h : zz_KS l D zcl zFK cy z0 sp (zTys cy) G zYN (fun y => Cond.code (zYN y) (zCN y) (zMQ y) (zRT y) :: zTs) (d + 1) K) => zt_30 h hG hP
  have b := zz_B_rf (l := l) (Ts := zTs) (D := D) (cl := zcl) (fk := zFK) (cy := cy) (z0 := z0) (sp := sp) (tys := zTys cy) (G := G) (own := "ToolMillModel") (mn := "fault") (nL := 2) (cc := prog_14_method_181_code) (d := (d + 1)) ((0, [(0, .ref 171), (1, .int p0)], [], w) : zz_F)
  replace b := zz_fw b T (rfl : zz_ent zP_30 0 = (0, za_aload 0 1)) (ze_aload rfl)
  replace b := zz_fw b T (rfl : zz_ent zP_30 1 = (0, za_iload 1 2)) (ze_iload rfl)
  replace b := zz_fw b T (rfl : zz_ent zP_30 2 = (0, za_const (.int (Int32.ofNat 0)) 3)) (ze_const)
  replace b := zz_fw b T (rfl : zz_ent zP_30 3 = (0, za_const (.int (Int32.ofNat 2)) 4)) (ze_const)
  replace b := zz_fSi b TK (rfl : zz_ent zP_30 4 = (0, za_callS 80 3 7)) (zM_in_n hG hP h) rfl rfl (zz_lb rfl)
  replace b := zz_fw b T (rfl : zz_ent zP_30 7 = (0, za_if_ne 14 10)) (ze_if_ne_f (by decide))
  replace b := zz_fw b T (rfl : zz_ent zP_30 10 = (0, za_const (.int (Int32.ofNat 1)) 11)) (ze_const)
  replace b := zz_fw b T (rfl : zz_ent zP_30 11 = (0, za_goto 15)) (ze_goto)
  replace b := zz_fw b T (rfl : zz_ent zP_30 15 = (0, za_const (.int (Int32.ofNat 0)) 16)) (ze_const)
  replace b := zz_fVi b TK (rfl : zz_ent zP_30 16 = (0, za_callV 0 71 2 19)) (zM_rf10 hG hP hw.1 (zR_has hw zh_171 (by decide) (by decide))) rfl rfl (zz_has_c (zR_has hw zh_171 (by decide) (by decide))) (zz_lb rfl)
  replace b := zz_fw b T (rfl : zz_ent zP_30 19 = (0, za_if_eq 24 22)) (ze_if_eq_f (by decide))
  replace b := zz_fw b T (rfl : zz_ent zP_30 22 = (0, za_const (.int (Int32.ofNat 0)) 23)) (ze_const)
  exact zz_M_B rfl rfl rfl rfl rfl (by decide +kernel) (zz_lb rfl) (zz_lb rfl) (zz_end_i (zr_30.2.1 23 rfl).1) b
theorem zMr_fault_0 {l : Launch} {D : va_G} {cy : Nat → ClassId} {z0 : Nat} {sp : Nat → Nat} {G : State → Prop} {d : Nat} (hG : zz_GF z0 G) (hP : ∀ U, G U → zz_GD zS zS2 zLg z0 sp U) {w : zz_W} (hw : zR w) : zz_M l zTs D zcl zFK cy z0 sp (zTys cy) G zYN zCN zMQ zRT (d + 2) 30 [.ref 171, .int (Int32.ofNat 0)] w [.int (Int32.ofNat 0)] (zz_up w 171 (3, 0, 243, (zz_to 64 zc_171 0 (zz_nI (Int32.ofNat 0))))) := by
  have T := zt_30 (l := l) (D := D) (cy := cy) (z0 := z0) (sp := sp) (G := G) (d := (d + 1)) zz_k0_KS hG hP
  have TK := fun (K : zz_K) (h : zz_KS l D zcl zFK cy z0 sp (zTys cy) G zYN (fun y => Cond.code (zYN y) (zCN y) (zMQ y) (zRT y) :: zTs) (d + 1) K) => zt_30 h hG hP
  have b := zz_B_rf (l := l) (Ts := zTs) (D := D) (cl := zcl) (fk := zFK) (cy := cy) (z0 := z0) (sp := sp) (tys := zTys cy) (G := G) (own := "ToolMillModel") (mn := "fault") (nL := 2) (cc := prog_14_method_181_code) (d := (d + 1)) ((0, [(0, .ref 171), (1, .int (Int32.ofNat 0))], [], w) : zz_F)
  replace b := zz_fw b T (rfl : zz_ent zP_30 0 = (0, za_aload 0 1)) (ze_aload rfl)
  replace b := zz_fw b T (rfl : zz_ent zP_30 1 = (0, za_iload 1 2)) (ze_iload rfl)
  replace b := zz_fw b T (rfl : zz_ent zP_30 2 = (0, za_const (.int (Int32.ofNat 0)) 3)) (ze_const)
  replace b := zz_fw b T (rfl : zz_ent zP_30 3 = (0, za_const (.int (Int32.ofNat 2)) 4)) (ze_const)
  replace b := zz_fSi b TK (rfl : zz_ent zP_30 4 = (0, za_callS 80 3 7)) (zM_in_k hG hP (by decide) (by decide)) rfl rfl (zz_lb rfl)
  replace b := zz_fw b T (rfl : zz_ent zP_30 7 = (0, za_if_ne 14 10)) (ze_if_ne_t (by decide))
  replace b := zz_fw b T (rfl : zz_ent zP_30 14 = (0, za_const (.int (Int32.ofNat 0)) 15)) (ze_const)
  replace b := zz_fw b T (rfl : zz_ent zP_30 15 = (0, za_const (.int (Int32.ofNat 0)) 16)) (ze_const)
  replace b := zz_fVi b TK (rfl : zz_ent zP_30 16 = (0, za_callV 0 71 2 19)) (zM_rf00 hG hP hw.1 (zR_has hw zh_171 (by decide) (by decide))) rfl rfl (zz_has_c (zR_has hw zh_171 (by decide) (by decide))) (zz_lb rfl)
  replace b := zz_fw b T (rfl : zz_ent zP_30 19 = (0, za_if_eq 24 22)) (ze_if_eq_t (by decide))
  replace b := zz_fw b T (rfl : zz_ent zP_30 24 = (0, za_iload 1 25)) (ze_iload rfl)
  replace b := zz_fw b T (rfl : zz_ent zP_30 25 = (0, za_if_ne 35 28)) (ze_if_ne_f (by decide))
  replace b := zz_fw b T (rfl : zz_ent zP_30 28 = (0, za_aload 0 29)) (ze_aload rfl)
  replace b := zz_fw b T (rfl : zz_ent zP_30 29 = (0, za_getI 0 7 32)) (ze_getI (zz_has_up hw.1 (zR_has hw zh_171 (by decide) (by decide))) (by decide) ((congrArg Int32.ofNat (zz_gn (by decide))).trans (congrArg Int32.ofNat zv_171_7)))
  replace b := zz_fw b T (rfl : zz_ent zP_30 32 = (0, za_goto 51)) (ze_goto)
  exact zz_M_B rfl rfl rfl rfl rfl (by decide +kernel) (zz_lb rfl) (zz_lb rfl) (zz_end_i (zr_30.2.1 51 rfl).1) b
theorem zMr_fault_1 {l : Launch} {D : va_G} {cy : Nat → ClassId} {z0 : Nat} {sp : Nat → Nat} {G : State → Prop} {d : Nat} (hG : zz_GF z0 G) (hP : ∀ U, G U → zz_GD zS zS2 zLg z0 sp U) {w : zz_W} (hw : zR w) : zz_M l zTs D zcl zFK cy z0 sp (zTys cy) G zYN zCN zMQ zRT (d + 2) 30 [.ref 171, .int (Int32.ofNat 1)] w [.int (Int32.ofNat 4294967295)] (zz_up w 171 (3, 0, 243, (zz_to 64 zc_171 0 (zz_nI (Int32.ofNat 0))))) := by
  have T := zt_30 (l := l) (D := D) (cy := cy) (z0 := z0) (sp := sp) (G := G) (d := (d + 1)) zz_k0_KS hG hP
  have TK := fun (K : zz_K) (h : zz_KS l D zcl zFK cy z0 sp (zTys cy) G zYN (fun y => Cond.code (zYN y) (zCN y) (zMQ y) (zRT y) :: zTs) (d + 1) K) => zt_30 h hG hP
  have b := zz_B_rf (l := l) (Ts := zTs) (D := D) (cl := zcl) (fk := zFK) (cy := cy) (z0 := z0) (sp := sp) (tys := zTys cy) (G := G) (own := "ToolMillModel") (mn := "fault") (nL := 2) (cc := prog_14_method_181_code) (d := (d + 1)) ((0, [(0, .ref 171), (1, .int (Int32.ofNat 1))], [], w) : zz_F)
  replace b := zz_fw b T (rfl : zz_ent zP_30 0 = (0, za_aload 0 1)) (ze_aload rfl)
  replace b := zz_fw b T (rfl : zz_ent zP_30 1 = (0, za_iload 1 2)) (ze_iload rfl)
  replace b := zz_fw b T (rfl : zz_ent zP_30 2 = (0, za_const (.int (Int32.ofNat 0)) 3)) (ze_const)
  replace b := zz_fw b T (rfl : zz_ent zP_30 3 = (0, za_const (.int (Int32.ofNat 2)) 4)) (ze_const)
  replace b := zz_fSi b TK (rfl : zz_ent zP_30 4 = (0, za_callS 80 3 7)) (zM_in_k hG hP (by decide) (by decide)) rfl rfl (zz_lb rfl)
  replace b := zz_fw b T (rfl : zz_ent zP_30 7 = (0, za_if_ne 14 10)) (ze_if_ne_t (by decide))
  replace b := zz_fw b T (rfl : zz_ent zP_30 14 = (0, za_const (.int (Int32.ofNat 0)) 15)) (ze_const)
  replace b := zz_fw b T (rfl : zz_ent zP_30 15 = (0, za_const (.int (Int32.ofNat 0)) 16)) (ze_const)
  replace b := zz_fVi b TK (rfl : zz_ent zP_30 16 = (0, za_callV 0 71 2 19)) (zM_rf00 hG hP hw.1 (zR_has hw zh_171 (by decide) (by decide))) rfl rfl (zz_has_c (zR_has hw zh_171 (by decide) (by decide))) (zz_lb rfl)
  replace b := zz_fw b T (rfl : zz_ent zP_30 19 = (0, za_if_eq 24 22)) (ze_if_eq_t (by decide))
  replace b := zz_fw b T (rfl : zz_ent zP_30 24 = (0, za_iload 1 25)) (ze_iload rfl)
  replace b := zz_fw b T (rfl : zz_ent zP_30 25 = (0, za_if_ne 35 28)) (ze_if_ne_t (by decide))
  replace b := zz_fw b T (rfl : zz_ent zP_30 35 = (0, za_iload 1 36)) (ze_iload rfl)
  replace b := zz_fw b T (rfl : zz_ent zP_30 36 = (0, za_const (.int (Int32.ofNat 1)) 37)) (ze_const)
  replace b := zz_fw b T (rfl : zz_ent zP_30 37 = (0, za_icmp_ne 47 40)) (ze_icmp_ne_f (by decide))
  replace b := zz_fw b T (rfl : zz_ent zP_30 40 = (0, za_aload 0 41)) (ze_aload rfl)
  replace b := zz_fw b T (rfl : zz_ent zP_30 41 = (0, za_getI 0 8 44)) (ze_getI (zz_has_up hw.1 (zR_has hw zh_171 (by decide) (by decide))) (by decide) ((congrArg Int32.ofNat (zz_gn (by decide))).trans (congrArg Int32.ofNat zv_171_8)))
  replace b := zz_fw b T (rfl : zz_ent zP_30 44 = (0, za_goto 51)) (ze_goto)
  exact zz_M_B rfl rfl rfl rfl rfl (by decide +kernel) (zz_lb rfl) (zz_lb rfl) (zz_end_i (zr_30.2.1 51 rfl).1) b
theorem zMr_fault_2 {l : Launch} {D : va_G} {cy : Nat → ClassId} {z0 : Nat} {sp : Nat → Nat} {G : State → Prop} {d : Nat} (hG : zz_GF z0 G) (hP : ∀ U, G U → zz_GD zS zS2 zLg z0 sp U) {w : zz_W} (hw : zR w) : zz_M l zTs D zcl zFK cy z0 sp (zTys cy) G zYN zCN zMQ zRT (d + 2) 30 [.ref 171, .int (Int32.ofNat 2)] w [.int (Int32.ofNat 4294967295)] (zz_up w 171 (3, 0, 243, (zz_to 64 zc_171 0 (zz_nI (Int32.ofNat 0))))) := by
  have T := zt_30 (l := l) (D := D) (cy := cy) (z0 := z0) (sp := sp) (G := G) (d := (d + 1)) zz_k0_KS hG hP
  have TK := fun (K : zz_K) (h : zz_KS l D zcl zFK cy z0 sp (zTys cy) G zYN (fun y => Cond.code (zYN y) (zCN y) (zMQ y) (zRT y) :: zTs) (d + 1) K) => zt_30 h hG hP
  have b := zz_B_rf (l := l) (Ts := zTs) (D := D) (cl := zcl) (fk := zFK) (cy := cy) (z0 := z0) (sp := sp) (tys := zTys cy) (G := G) (own := "ToolMillModel") (mn := "fault") (nL := 2) (cc := prog_14_method_181_code) (d := (d + 1)) ((0, [(0, .ref 171), (1, .int (Int32.ofNat 2))], [], w) : zz_F)
  replace b := zz_fw b T (rfl : zz_ent zP_30 0 = (0, za_aload 0 1)) (ze_aload rfl)
  replace b := zz_fw b T (rfl : zz_ent zP_30 1 = (0, za_iload 1 2)) (ze_iload rfl)
  replace b := zz_fw b T (rfl : zz_ent zP_30 2 = (0, za_const (.int (Int32.ofNat 0)) 3)) (ze_const)
  replace b := zz_fw b T (rfl : zz_ent zP_30 3 = (0, za_const (.int (Int32.ofNat 2)) 4)) (ze_const)
  replace b := zz_fSi b TK (rfl : zz_ent zP_30 4 = (0, za_callS 80 3 7)) (zM_in_k hG hP (by decide) (by decide)) rfl rfl (zz_lb rfl)
  replace b := zz_fw b T (rfl : zz_ent zP_30 7 = (0, za_if_ne 14 10)) (ze_if_ne_t (by decide))
  replace b := zz_fw b T (rfl : zz_ent zP_30 14 = (0, za_const (.int (Int32.ofNat 0)) 15)) (ze_const)
  replace b := zz_fw b T (rfl : zz_ent zP_30 15 = (0, za_const (.int (Int32.ofNat 0)) 16)) (ze_const)
  replace b := zz_fVi b TK (rfl : zz_ent zP_30 16 = (0, za_callV 0 71 2 19)) (zM_rf00 hG hP hw.1 (zR_has hw zh_171 (by decide) (by decide))) rfl rfl (zz_has_c (zR_has hw zh_171 (by decide) (by decide))) (zz_lb rfl)
  replace b := zz_fw b T (rfl : zz_ent zP_30 19 = (0, za_if_eq 24 22)) (ze_if_eq_t (by decide))
  replace b := zz_fw b T (rfl : zz_ent zP_30 24 = (0, za_iload 1 25)) (ze_iload rfl)
  replace b := zz_fw b T (rfl : zz_ent zP_30 25 = (0, za_if_ne 35 28)) (ze_if_ne_t (by decide))
  replace b := zz_fw b T (rfl : zz_ent zP_30 35 = (0, za_iload 1 36)) (ze_iload rfl)
  replace b := zz_fw b T (rfl : zz_ent zP_30 36 = (0, za_const (.int (Int32.ofNat 1)) 37)) (ze_const)
  replace b := zz_fw b T (rfl : zz_ent zP_30 37 = (0, za_icmp_ne 47 40)) (ze_icmp_ne_t (by decide))
  replace b := zz_fw b T (rfl : zz_ent zP_30 47 = (0, za_aload 0 48)) (ze_aload rfl)
  replace b := zz_fw b T (rfl : zz_ent zP_30 48 = (0, za_getI 0 9 51)) (ze_getI (zz_has_up hw.1 (zR_has hw zh_171 (by decide) (by decide))) (by decide) ((congrArg Int32.ofNat (zz_gn (by decide))).trans (congrArg Int32.ofNat zv_171_9)))
  exact zz_M_B rfl rfl rfl rfl rfl (by decide +kernel) (zz_lb rfl) (zz_lb rfl) (zz_end_i (zr_30.2.1 51 rfl).1) b
theorem zMr_typed {l : Launch} {D : va_G} {cy : Nat → ClassId} {z0 : Nat} {sp : Nat → Nat} {G : State → Prop} {d : Nat} (hG : zz_GF z0 G) (hP : ∀ U, G U → zz_GD zS zS2 zLg z0 sp U) {w : zz_W} (hw : zR w) {p0 p1 : Int32} : zz_M l zTs D zcl zFK cy z0 sp (zTys cy) G zYN zCN zMQ zRT (d + 2) 31 [.ref 171, .int p0, .int p1] w [.int (Int32.ofNat 0)] (zz_up w 171 (3, 0, 243, (zz_to 64 zc_171 0 (zz_nI (Int32.ofNat 1))))) := by
  have T := zt_31 (l := l) (D := D) (cy := cy) (z0 := z0) (sp := sp) (G := G) (d := (d + 1)) zz_k0_KS hG hP
  have TK := fun (K : zz_K) (h : zz_KS l D zcl zFK cy z0 sp (zTys cy) G zYN (fun y => Cond.code (zYN y) (zCN y) (zMQ y) (zRT y) :: zTs) (d + 1) K) => zt_31 h hG hP
  have b := zz_B_rf (l := l) (Ts := zTs) (D := D) (cl := zcl) (fk := zFK) (cy := cy) (z0 := z0) (sp := sp) (tys := zTys cy) (G := G) (own := "ToolMillModel") (mn := "typed") (nL := 3) (cc := prog_14_method_94_code) (d := (d + 1)) ((0, [(0, .ref 171), (1, .int p0), (2, .int p1)], [], w) : zz_F)
  replace b := zz_fw b T (rfl : zz_ent zP_31 0 = (0, za_aload 0 1)) (ze_aload rfl)
  replace b := zz_fw b T (rfl : zz_ent zP_31 1 = (0, za_iload 1 2)) (ze_iload rfl)
  replace b := zz_fw b T (rfl : zz_ent zP_31 2 = (0, za_const (.int (Int32.ofNat 0)) 3)) (ze_const)
  replace b := zz_fw b T (rfl : zz_ent zP_31 3 = (0, za_aload 0 4)) (ze_aload rfl)
  replace b := zz_fw b T (rfl : zz_ent zP_31 4 = (0, za_getI 0 10 7)) (ze_getI (zR_has hw zh_171 (by decide) (by decide)) (by decide) (congrArg Int32.ofNat zv_171_10))
  replace b := zz_fw b T (rfl : zz_ent zP_31 7 = (0, za_const (.int (Int32.ofNat 1)) 8)) (ze_const)
  replace b := zz_fw b T (rfl : zz_ent zP_31 8 = (0, za_isub 9)) (ze_isub rfl)
  replace b := zz_fSi b TK (rfl : zz_ent zP_31 9 = (0, za_callS 80 3 12)) (zM_in_n hG hP (by show p0 < Int32.ofNat 0 ∨ Int32.ofNat 0 - Int32.ofNat 1 < p0; exact zz_any p0)) rfl rfl (zz_lb rfl)
  replace b := zz_fw b T (rfl : zz_ent zP_31 12 = (0, za_if_eq 28 15)) (ze_if_eq_t (by decide))
  replace b := zz_fw b T (rfl : zz_ent zP_31 28 = (0, za_const (.int (Int32.ofNat 1)) 29)) (ze_const)
  replace b := zz_fw b T (rfl : zz_ent zP_31 29 = (0, za_goto 33)) (ze_goto)
  replace b := zz_fw b T (rfl : zz_ent zP_31 33 = (0, za_const (.int (Int32.ofNat 0)) 34)) (ze_const)
  replace b := zz_fVi b TK (rfl : zz_ent zP_31 34 = (0, za_callV 0 71 2 37)) (zM_rf10 hG hP hw.1 (zR_has hw zh_171 (by decide) (by decide))) rfl rfl (zz_has_c (zR_has hw zh_171 (by decide) (by decide))) (zz_lb rfl)
  replace b := zz_fw b T (rfl : zz_ent zP_31 37 = (0, za_if_eq 42 40)) (ze_if_eq_f (by decide))
  replace b := zz_fw b T (rfl : zz_ent zP_31 40 = (0, za_const (.int (Int32.ofNat 0)) 41)) (ze_const)
  exact zz_M_B rfl rfl rfl rfl rfl (by decide +kernel) (zz_lb rfl) (zz_lb rfl) (zz_end_i (zr_31.2.1 41 rfl).1) b
theorem zMr_unit_n {l : Launch} {D : va_G} {cy : Nat → ClassId} {z0 : Nat} {sp : Nat → Nat} {G : State → Prop} {d : Nat} (hG : zz_GF z0 G) (hP : ∀ U, G U → zz_GD zS zS2 zLg z0 sp U) {w : zz_W} (hw : zR w) {p0 p1 : Int32} (h : ¬ p0 = Int32.ofNat 6) : zz_M l zTs D zcl zFK cy z0 sp (zTys cy) G zYN zCN zMQ zRT (d + 3) 32 [.ref 171, .int p0, .int p1] w [.int (Int32.ofNat 0)] (zz_up w 171 (3, 0, 243, (zz_to 64 zc_171 0 (zz_nI (Int32.ofNat 1))))) := by
  have T := zt_32 (l := l) (D := D) (cy := cy) (z0 := z0) (sp := sp) (G := G) (d := (d + 2)) zz_k0_KS hG hP
  have TK := fun (K : zz_K) (h : zz_KS l D zcl zFK cy z0 sp (zTys cy) G zYN (fun y => Cond.code (zYN y) (zCN y) (zMQ y) (zRT y) :: zTs) (d + 2) K) => zt_32 h hG hP
  have b := zz_B_rf (l := l) (Ts := zTs) (D := D) (cl := zcl) (fk := zFK) (cy := cy) (z0 := z0) (sp := sp) (tys := zTys cy) (G := G) (own := "ToolMillModel") (mn := "unit") (nL := 6) (cc := prog_14_method_184_code) (d := (d + 2)) ((0, [(0, .ref 171), (1, .int p0), (2, .int p1)], [], w) : zz_F)
  replace b := zz_fw b T (rfl : zz_ent zP_32 0 = (0, za_aload 0 1)) (ze_aload rfl)
  replace b := zz_fw b T (rfl : zz_ent zP_32 1 = (0, za_iload 1 2)) (ze_iload rfl)
  replace b := zz_fVi b TK (rfl : zz_ent zP_32 2 = (0, za_callV 0 81 1 5)) (zM_isUnit_n hG hP hw h) rfl rfl (zz_has_c (zR_has hw zh_171 (by decide) (by decide))) (zz_lb rfl)
  replace b := zz_fw b T (rfl : zz_ent zP_32 5 = (0, za_istore 3 6)) (ze_istore (lv' := [(0, _), (1, _), (2, _)]) rfl)
  replace b := zz_fw b T (rfl : zz_ent zP_32 6 = (0, za_aload 0 7)) (ze_aload rfl)
  replace b := zz_fw b T (rfl : zz_ent zP_32 7 = (0, za_iload 3 8)) (ze_iload rfl)
  replace b := zz_fw b T (rfl : zz_ent zP_32 8 = (0, za_if_ne 15 11)) (ze_if_ne_f (by decide))
  replace b := zz_fw b T (rfl : zz_ent zP_32 11 = (0, za_const (.int (Int32.ofNat 1)) 12)) (ze_const)
  replace b := zz_fw b T (rfl : zz_ent zP_32 12 = (0, za_goto 16)) (ze_goto)
  replace b := zz_fw b T (rfl : zz_ent zP_32 16 = (0, za_iload 3 17)) (ze_iload rfl)
  replace b := zz_fw b T (rfl : zz_ent zP_32 17 = (0, za_if_eq 33 20)) (ze_if_eq_t (by decide))
  replace b := zz_fw b T (rfl : zz_ent zP_32 33 = (0, za_const (.int (Int32.ofNat 0)) 34)) (ze_const)
  replace b := zz_fVi b TK (rfl : zz_ent zP_32 34 = (0, za_callV 0 71 2 37)) (zM_rf10 hG hP hw.1 (zR_has hw zh_171 (by decide) (by decide))) rfl rfl (zz_has_c (zR_has hw zh_171 (by decide) (by decide))) (zz_lb rfl)
  replace b := zz_fw b T (rfl : zz_ent zP_32 37 = (0, za_if_eq 42 40)) (ze_if_eq_f (by decide))
  replace b := zz_fw b T (rfl : zz_ent zP_32 40 = (0, za_const (.int (Int32.ofNat 0)) 41)) (ze_const)
  exact zz_M_B rfl rfl rfl rfl rfl (by decide +kernel) (zz_lb rfl) (zz_lb rfl) (zz_end_i (zr_32.2.1 41 rfl).1) b
theorem zMr_unit_w {l : Launch} {D : va_G} {cy : Nat → ClassId} {z0 : Nat} {sp : Nat → Nat} {G : State → Prop} {d : Nat} (hG : zz_GF z0 G) (hP : ∀ U, G U → zz_GD zS zS2 zLg z0 sp U) {w : zz_W} (hw : zR w) {p1 : Int32} (h : p1 < Int32.ofNat 0 ∨ Int32.ofNat 4 < p1) : zz_M l zTs D zcl zFK cy z0 sp (zTys cy) G zYN zCN zMQ zRT (d + 3) 32 [.ref 171, .int (Int32.ofNat 6), .int p1] w [.int (Int32.ofNat 0)] (zz_up w 171 (3, 0, 243, (zz_to 64 zc_171 0 (zz_nI (Int32.ofNat 2))))) := by
  have T := zt_32 (l := l) (D := D) (cy := cy) (z0 := z0) (sp := sp) (G := G) (d := (d + 2)) zz_k0_KS hG hP
  have TK := fun (K : zz_K) (h : zz_KS l D zcl zFK cy z0 sp (zTys cy) G zYN (fun y => Cond.code (zYN y) (zCN y) (zMQ y) (zRT y) :: zTs) (d + 2) K) => zt_32 h hG hP
  have b := zz_B_rf (l := l) (Ts := zTs) (D := D) (cl := zcl) (fk := zFK) (cy := cy) (z0 := z0) (sp := sp) (tys := zTys cy) (G := G) (own := "ToolMillModel") (mn := "unit") (nL := 6) (cc := prog_14_method_184_code) (d := (d + 2)) ((0, [(0, .ref 171), (1, .int (Int32.ofNat 6)), (2, .int p1)], [], w) : zz_F)
  replace b := zz_fw b T (rfl : zz_ent zP_32 0 = (0, za_aload 0 1)) (ze_aload rfl)
  replace b := zz_fw b T (rfl : zz_ent zP_32 1 = (0, za_iload 1 2)) (ze_iload rfl)
  replace b := zz_fVi b TK (rfl : zz_ent zP_32 2 = (0, za_callV 0 81 1 5)) (zM_isUnit_6 hG hP hw) rfl rfl (zz_has_c (zR_has hw zh_171 (by decide) (by decide))) (zz_lb rfl)
  replace b := zz_fw b T (rfl : zz_ent zP_32 5 = (0, za_istore 3 6)) (ze_istore (lv' := [(0, _), (1, _), (2, _)]) rfl)
  replace b := zz_fw b T (rfl : zz_ent zP_32 6 = (0, za_aload 0 7)) (ze_aload rfl)
  replace b := zz_fw b T (rfl : zz_ent zP_32 7 = (0, za_iload 3 8)) (ze_iload rfl)
  replace b := zz_fw b T (rfl : zz_ent zP_32 8 = (0, za_if_ne 15 11)) (ze_if_ne_t (by decide))
  replace b := zz_fw b T (rfl : zz_ent zP_32 15 = (0, za_const (.int (Int32.ofNat 0)) 16)) (ze_const)
  replace b := zz_fw b T (rfl : zz_ent zP_32 16 = (0, za_iload 3 17)) (ze_iload rfl)
  replace b := zz_fw b T (rfl : zz_ent zP_32 17 = (0, za_if_eq 33 20)) (ze_if_eq_f (by decide))
  replace b := zz_fw b T (rfl : zz_ent zP_32 20 = (0, za_iload 2 21)) (ze_iload rfl)
  replace b := zz_fw b T (rfl : zz_ent zP_32 21 = (0, za_const (.int (Int32.ofNat 0)) 22)) (ze_const)
  replace b := zz_fw b T (rfl : zz_ent zP_32 22 = (0, za_const (.int (Int32.ofNat 4)) 23)) (ze_const)
  replace b := zz_fSi b TK (rfl : zz_ent zP_32 23 = (0, za_callS 80 3 26)) (zM_in_n hG hP h) rfl rfl (zz_lb rfl)
  replace b := zz_fw b T (rfl : zz_ent zP_32 26 = (0, za_if_ne 33 29)) (ze_if_ne_f (by decide))
  replace b := zz_fw b T (rfl : zz_ent zP_32 29 = (0, za_const (.int (Int32.ofNat 1)) 30)) (ze_const)
  replace b := zz_fw b T (rfl : zz_ent zP_32 30 = (0, za_goto 34)) (ze_goto)
  replace b := zz_fVi b TK (rfl : zz_ent zP_32 34 = (0, za_callV 0 71 2 37)) (zM_rf01 hG hP hw.1 (zR_has hw zh_171 (by decide) (by decide))) rfl rfl (zz_has_c (zR_has hw zh_171 (by decide) (by decide))) (zz_lb rfl)
  replace b := zz_fw b T (rfl : zz_ent zP_32 37 = (0, za_if_eq 42 40)) (ze_if_eq_f (by decide))
  replace b := zz_fw b T (rfl : zz_ent zP_32 40 = (0, za_const (.int (Int32.ofNat 0)) 41)) (ze_const)
  exact zz_M_B rfl rfl rfl rfl rfl (by decide +kernel) (zz_lb rfl) (zz_lb rfl) (zz_end_i (zr_32.2.1 41 rfl).1) b
theorem zMr_section_n {l : Launch} {D : va_G} {cy : Nat → ClassId} {z0 : Nat} {sp : Nat → Nat} {G : State → Prop} {d : Nat} (hG : zz_GF z0 G) (hP : ∀ U, G U → zz_GD zS zS2 zLg z0 sp U) {w : zz_W} (hw : zR w) {p0 p1 p2 : Int32} (h : ¬ p0 = Int32.ofNat 6) : zz_M l zTs D zcl zFK cy z0 sp (zTys cy) G zYN zCN zMQ zRT (d + 3) 33 [.ref 171, .int p0, .int p1, .int p2] w [.int (Int32.ofNat 0)] (zz_up w 171 (3, 0, 243, (zz_to 64 zc_171 0 (zz_nI (Int32.ofNat 1))))) := by
  have T := zt_33 (l := l) (D := D) (cy := cy) (z0 := z0) (sp := sp) (G := G) (d := (d + 2)) zz_k0_KS hG hP
  have TK := fun (K : zz_K) (h : zz_KS l D zcl zFK cy z0 sp (zTys cy) G zYN (fun y => Cond.code (zYN y) (zCN y) (zMQ y) (zRT y) :: zTs) (d + 2) K) => zt_33 h hG hP
  have b := zz_B_rf (l := l) (Ts := zTs) (D := D) (cl := zcl) (fk := zFK) (cy := cy) (z0 := z0) (sp := sp) (tys := zTys cy) (G := G) (own := "ToolMillModel") (mn := "section") (nL := 6) (cc := prog_14_method_185_code) (d := (d + 2)) ((0, [(0, .ref 171), (1, .int p0), (2, .int p1), (3, .int p2)], [], w) : zz_F)
  replace b := zz_fw b T (rfl : zz_ent zP_33 0 = (0, za_aload 0 1)) (ze_aload rfl)
  replace b := zz_fw b T (rfl : zz_ent zP_33 1 = (0, za_iload 1 2)) (ze_iload rfl)
  replace b := zz_fVi b TK (rfl : zz_ent zP_33 2 = (0, za_callV 0 81 1 5)) (zM_isUnit_n hG hP hw h) rfl rfl (zz_has_c (zR_has hw zh_171 (by decide) (by decide))) (zz_lb rfl)
  replace b := zz_fw b T (rfl : zz_ent zP_33 5 = (0, za_if_eq 28 8)) (ze_if_eq_t (by decide))
  replace b := zz_fw b T (rfl : zz_ent zP_33 28 = (0, za_const (.int (Int32.ofNat 0)) 29)) (ze_const)
  replace b := zz_fw b T (rfl : zz_ent zP_33 29 = (0, za_istore 4 31)) (ze_istore (lv' := [(0, _), (1, _), (2, _), (3, _)]) rfl)
  replace b := zz_fw b T (rfl : zz_ent zP_33 31 = (0, za_aload 0 32)) (ze_aload rfl)
  replace b := zz_fw b T (rfl : zz_ent zP_33 32 = (0, za_iload 4 34)) (ze_iload rfl)
  replace b := zz_fw b T (rfl : zz_ent zP_33 34 = (0, za_if_ne 41 37)) (ze_if_ne_f (by decide))
  replace b := zz_fw b T (rfl : zz_ent zP_33 37 = (0, za_const (.int (Int32.ofNat 1)) 38)) (ze_const)
  replace b := zz_fw b T (rfl : zz_ent zP_33 38 = (0, za_goto 42)) (ze_goto)
  replace b := zz_fw b T (rfl : zz_ent zP_33 42 = (0, za_iload 4 44)) (ze_iload rfl)
  replace b := zz_fw b T (rfl : zz_ent zP_33 44 = (0, za_if_eq 60 47)) (ze_if_eq_t (by decide))
  replace b := zz_fw b T (rfl : zz_ent zP_33 60 = (0, za_const (.int (Int32.ofNat 0)) 61)) (ze_const)
  replace b := zz_fVi b TK (rfl : zz_ent zP_33 61 = (0, za_callV 0 71 2 64)) (zM_rf10 hG hP hw.1 (zR_has hw zh_171 (by decide) (by decide))) rfl rfl (zz_has_c (zR_has hw zh_171 (by decide) (by decide))) (zz_lb rfl)
  replace b := zz_fw b T (rfl : zz_ent zP_33 64 = (0, za_if_eq 69 67)) (ze_if_eq_f (by decide))
  replace b := zz_fw b T (rfl : zz_ent zP_33 67 = (0, za_const (.int (Int32.ofNat 0)) 68)) (ze_const)
  exact zz_M_B rfl rfl rfl rfl rfl (by decide +kernel) (zz_lb rfl) (zz_lb rfl) (zz_end_i (zr_33.2.1 68 rfl).1) b
theorem zMr_section_i {l : Launch} {D : va_G} {cy : Nat → ClassId} {z0 : Nat} {sp : Nat → Nat} {G : State → Prop} {d : Nat} (hG : zz_GF z0 G) (hP : ∀ U, G U → zz_GD zS zS2 zLg z0 sp U) {w : zz_W} (hw : zR w) {p1 p2 : Int32} (h : p1 < Int32.ofNat 0 ∨ (Int32.ofNat 2) < p1) : zz_M l zTs D zcl zFK cy z0 sp (zTys cy) G zYN zCN zMQ zRT (d + 3) 33 [.ref 171, .int (Int32.ofNat 6), .int p1, .int p2] w [.int (Int32.ofNat 0)] (zz_up w 171 (3, 0, 243, (zz_to 64 zc_171 0 (zz_nI (Int32.ofNat 1))))) := by
  have T := zt_33 (l := l) (D := D) (cy := cy) (z0 := z0) (sp := sp) (G := G) (d := (d + 2)) zz_k0_KS hG hP
  have TK := fun (K : zz_K) (h : zz_KS l D zcl zFK cy z0 sp (zTys cy) G zYN (fun y => Cond.code (zYN y) (zCN y) (zMQ y) (zRT y) :: zTs) (d + 2) K) => zt_33 h hG hP
  have b := zz_B_rf (l := l) (Ts := zTs) (D := D) (cl := zcl) (fk := zFK) (cy := cy) (z0 := z0) (sp := sp) (tys := zTys cy) (G := G) (own := "ToolMillModel") (mn := "section") (nL := 6) (cc := prog_14_method_185_code) (d := (d + 2)) ((0, [(0, .ref 171), (1, .int (Int32.ofNat 6)), (2, .int p1), (3, .int p2)], [], w) : zz_F)
  replace b := zz_fw b T (rfl : zz_ent zP_33 0 = (0, za_aload 0 1)) (ze_aload rfl)
  replace b := zz_fw b T (rfl : zz_ent zP_33 1 = (0, za_iload 1 2)) (ze_iload rfl)
  replace b := zz_fVi b TK (rfl : zz_ent zP_33 2 = (0, za_callV 0 81 1 5)) (zM_isUnit_6 hG hP hw) rfl rfl (zz_has_c (zR_has hw zh_171 (by decide) (by decide))) (zz_lb rfl)
  replace b := zz_fw b T (rfl : zz_ent zP_33 5 = (0, za_if_eq 28 8)) (ze_if_eq_f (by decide))
  replace b := zz_fw b T (rfl : zz_ent zP_33 8 = (0, za_iload 2 9)) (ze_iload rfl)
  replace b := zz_fw b T (rfl : zz_ent zP_33 9 = (0, za_const (.int (Int32.ofNat 0)) 10)) (ze_const)
  replace b := zz_fw b T (rfl : zz_ent zP_33 10 = (0, za_aload 0 11)) (ze_aload rfl)
  replace b := zz_fw b T (rfl : zz_ent zP_33 11 = (0, za_getA 0 14 14)) (ze_getA (zR_has hw zh_171 (by decide) (by decide)) (by decide) zv_171_14)
  replace b := zz_fw b T (rfl : zz_ent zP_33 14 = (0, za_iload 1 15)) (ze_iload rfl)
  replace b := zz_fw b T (rfl : zz_ent zP_33 15 = (0, za_aldI 0 16)) (ze_aldI (zR_has hw zh_179 (by decide) (by decide)) (by decide) (by decide) (congrArg Int32.ofNat zv_179_6))
  replace b := zz_fw b T (rfl : zz_ent zP_33 16 = (0, za_const (.int (Int32.ofNat 1)) 17)) (ze_const)
  replace b := zz_fw b T (rfl : zz_ent zP_33 17 = (0, za_isub 18)) (ze_isub (by decide : _ = (Int32.ofNat 2)))
  replace b := zz_fSi b TK (rfl : zz_ent zP_33 18 = (0, za_callS 80 3 21)) (zM_in_n hG hP h) rfl rfl (zz_lb rfl)
  replace b := zz_fw b T (rfl : zz_ent zP_33 21 = (0, za_if_eq 28 24)) (ze_if_eq_t (by decide))
  replace b := zz_fw b T (rfl : zz_ent zP_33 28 = (0, za_const (.int (Int32.ofNat 0)) 29)) (ze_const)
  replace b := zz_fw b T (rfl : zz_ent zP_33 29 = (0, za_istore 4 31)) (ze_istore (lv' := [(0, _), (1, _), (2, _), (3, _)]) rfl)
  replace b := zz_fw b T (rfl : zz_ent zP_33 31 = (0, za_aload 0 32)) (ze_aload rfl)
  replace b := zz_fw b T (rfl : zz_ent zP_33 32 = (0, za_iload 4 34)) (ze_iload rfl)
  replace b := zz_fw b T (rfl : zz_ent zP_33 34 = (0, za_if_ne 41 37)) (ze_if_ne_f (by decide))
  replace b := zz_fw b T (rfl : zz_ent zP_33 37 = (0, za_const (.int (Int32.ofNat 1)) 38)) (ze_const)
  replace b := zz_fw b T (rfl : zz_ent zP_33 38 = (0, za_goto 42)) (ze_goto)
  replace b := zz_fw b T (rfl : zz_ent zP_33 42 = (0, za_iload 4 44)) (ze_iload rfl)
  replace b := zz_fw b T (rfl : zz_ent zP_33 44 = (0, za_if_eq 60 47)) (ze_if_eq_t (by decide))
  replace b := zz_fw b T (rfl : zz_ent zP_33 60 = (0, za_const (.int (Int32.ofNat 0)) 61)) (ze_const)
  replace b := zz_fVi b TK (rfl : zz_ent zP_33 61 = (0, za_callV 0 71 2 64)) (zM_rf10 hG hP hw.1 (zR_has hw zh_171 (by decide) (by decide))) rfl rfl (zz_has_c (zR_has hw zh_171 (by decide) (by decide))) (zz_lb rfl)
  replace b := zz_fw b T (rfl : zz_ent zP_33 64 = (0, za_if_eq 69 67)) (ze_if_eq_f (by decide))
  replace b := zz_fw b T (rfl : zz_ent zP_33 67 = (0, za_const (.int (Int32.ofNat 0)) 68)) (ze_const)
  exact zz_M_B rfl rfl rfl rfl rfl (by decide +kernel) (zz_lb rfl) (zz_lb rfl) (zz_end_i (zr_33.2.1 68 rfl).1) b
theorem zMr_label_n {l : Launch} {D : va_G} {cy : Nat → ClassId} {z0 : Nat} {sp : Nat → Nat} {G : State → Prop} {d : Nat} (hG : zz_GF z0 G) (hP : ∀ U, G U → zz_GD zS zS2 zLg z0 sp U) {w : zz_W} (hw : zR w) {p0 p1 p2 : Int32} (h : ¬ p0 = Int32.ofNat 6) : zz_M l zTs D zcl zFK cy z0 sp (zTys cy) G zYN zCN zMQ zRT (d + 3) 35 [.ref 171, .int p0, .int p1, .int p2] w [.int (Int32.ofNat 0)] (zz_up w 171 (3, 0, 243, (zz_to 64 zc_171 0 (zz_nI (Int32.ofNat 1))))) := by
  have T := zt_35 (l := l) (D := D) (cy := cy) (z0 := z0) (sp := sp) (G := G) (d := (d + 2)) zz_k0_KS hG hP
  have TK := fun (K : zz_K) (h : zz_KS l D zcl zFK cy z0 sp (zTys cy) G zYN (fun y => Cond.code (zYN y) (zCN y) (zMQ y) (zRT y) :: zTs) (d + 2) K) => zt_35 h hG hP
  have b := zz_B_rf (l := l) (Ts := zTs) (D := D) (cl := zcl) (fk := zFK) (cy := cy) (z0 := z0) (sp := sp) (tys := zTys cy) (G := G) (own := "ToolMillModel") (mn := "label") (nL := 6) (cc := prog_14_method_187_code) (d := (d + 2)) ((0, [(0, .ref 171), (1, .int p0), (2, .int p1), (3, .int p2)], [], w) : zz_F)
  replace b := zz_fw b T (rfl : zz_ent zP_35 0 = (0, za_aload 0 1)) (ze_aload rfl)
  replace b := zz_fw b T (rfl : zz_ent zP_35 1 = (0, za_iload 1 2)) (ze_iload rfl)
  replace b := zz_fVi b TK (rfl : zz_ent zP_35 2 = (0, za_callV 0 81 1 5)) (zM_isUnit_n hG hP hw h) rfl rfl (zz_has_c (zR_has hw zh_171 (by decide) (by decide))) (zz_lb rfl)
  replace b := zz_fw b T (rfl : zz_ent zP_35 5 = (0, za_if_eq 28 8)) (ze_if_eq_t (by decide))
  replace b := zz_fw b T (rfl : zz_ent zP_35 28 = (0, za_const (.int (Int32.ofNat 0)) 29)) (ze_const)
  replace b := zz_fw b T (rfl : zz_ent zP_35 29 = (0, za_istore 4 31)) (ze_istore (lv' := [(0, _), (1, _), (2, _), (3, _)]) rfl)
  replace b := zz_fw b T (rfl : zz_ent zP_35 31 = (0, za_aload 0 32)) (ze_aload rfl)
  replace b := zz_fw b T (rfl : zz_ent zP_35 32 = (0, za_iload 4 34)) (ze_iload rfl)
  replace b := zz_fw b T (rfl : zz_ent zP_35 34 = (0, za_if_ne 41 37)) (ze_if_ne_f (by decide))
  replace b := zz_fw b T (rfl : zz_ent zP_35 37 = (0, za_const (.int (Int32.ofNat 1)) 38)) (ze_const)
  replace b := zz_fw b T (rfl : zz_ent zP_35 38 = (0, za_goto 42)) (ze_goto)
  replace b := zz_fw b T (rfl : zz_ent zP_35 42 = (0, za_iload 4 44)) (ze_iload rfl)
  replace b := zz_fw b T (rfl : zz_ent zP_35 44 = (0, za_if_eq 66 47)) (ze_if_eq_t (by decide))
  replace b := zz_fw b T (rfl : zz_ent zP_35 66 = (0, za_const (.int (Int32.ofNat 0)) 67)) (ze_const)
  replace b := zz_fVi b TK (rfl : zz_ent zP_35 67 = (0, za_callV 0 71 2 70)) (zM_rf10 hG hP hw.1 (zR_has hw zh_171 (by decide) (by decide))) rfl rfl (zz_has_c (zR_has hw zh_171 (by decide) (by decide))) (zz_lb rfl)
  replace b := zz_fw b T (rfl : zz_ent zP_35 70 = (0, za_if_eq 75 73)) (ze_if_eq_f (by decide))
  replace b := zz_fw b T (rfl : zz_ent zP_35 73 = (0, za_const (.int (Int32.ofNat 0)) 74)) (ze_const)
  exact zz_M_B rfl rfl rfl rfl rfl (by decide +kernel) (zz_lb rfl) (zz_lb rfl) (zz_end_i (zr_35.2.1 74 rfl).1) b
theorem zMr_label_i {l : Launch} {D : va_G} {cy : Nat → ClassId} {z0 : Nat} {sp : Nat → Nat} {G : State → Prop} {d : Nat} (hG : zz_GF z0 G) (hP : ∀ U, G U → zz_GD zS zS2 zLg z0 sp U) {w : zz_W} (hw : zR w) {p1 p2 : Int32} (h : p1 < Int32.ofNat 0 ∨ (Int32.ofNat 3) < p1) : zz_M l zTs D zcl zFK cy z0 sp (zTys cy) G zYN zCN zMQ zRT (d + 3) 35 [.ref 171, .int (Int32.ofNat 6), .int p1, .int p2] w [.int (Int32.ofNat 0)] (zz_up w 171 (3, 0, 243, (zz_to 64 zc_171 0 (zz_nI (Int32.ofNat 1))))) := by
  have T := zt_35 (l := l) (D := D) (cy := cy) (z0 := z0) (sp := sp) (G := G) (d := (d + 2)) zz_k0_KS hG hP
  have TK := fun (K : zz_K) (h : zz_KS l D zcl zFK cy z0 sp (zTys cy) G zYN (fun y => Cond.code (zYN y) (zCN y) (zMQ y) (zRT y) :: zTs) (d + 2) K) => zt_35 h hG hP
  have b := zz_B_rf (l := l) (Ts := zTs) (D := D) (cl := zcl) (fk := zFK) (cy := cy) (z0 := z0) (sp := sp) (tys := zTys cy) (G := G) (own := "ToolMillModel") (mn := "label") (nL := 6) (cc := prog_14_method_187_code) (d := (d + 2)) ((0, [(0, .ref 171), (1, .int (Int32.ofNat 6)), (2, .int p1), (3, .int p2)], [], w) : zz_F)
  replace b := zz_fw b T (rfl : zz_ent zP_35 0 = (0, za_aload 0 1)) (ze_aload rfl)
  replace b := zz_fw b T (rfl : zz_ent zP_35 1 = (0, za_iload 1 2)) (ze_iload rfl)
  replace b := zz_fVi b TK (rfl : zz_ent zP_35 2 = (0, za_callV 0 81 1 5)) (zM_isUnit_6 hG hP hw) rfl rfl (zz_has_c (zR_has hw zh_171 (by decide) (by decide))) (zz_lb rfl)
  replace b := zz_fw b T (rfl : zz_ent zP_35 5 = (0, za_if_eq 28 8)) (ze_if_eq_f (by decide))
  replace b := zz_fw b T (rfl : zz_ent zP_35 8 = (0, za_iload 2 9)) (ze_iload rfl)
  replace b := zz_fw b T (rfl : zz_ent zP_35 9 = (0, za_const (.int (Int32.ofNat 0)) 10)) (ze_const)
  replace b := zz_fw b T (rfl : zz_ent zP_35 10 = (0, za_aload 0 11)) (ze_aload rfl)
  replace b := zz_fw b T (rfl : zz_ent zP_35 11 = (0, za_getA 0 23 14)) (ze_getA (zR_has hw zh_171 (by decide) (by decide)) (by decide) zv_171_23)
  replace b := zz_fw b T (rfl : zz_ent zP_35 14 = (0, za_iload 1 15)) (ze_iload rfl)
  replace b := zz_fw b T (rfl : zz_ent zP_35 15 = (0, za_aldI 0 16)) (ze_aldI (zR_has hw zh_188 (by decide) (by decide)) (by decide) (by decide) (congrArg Int32.ofNat zv_188_6))
  replace b := zz_fw b T (rfl : zz_ent zP_35 16 = (0, za_const (.int (Int32.ofNat 1)) 17)) (ze_const)
  replace b := zz_fw b T (rfl : zz_ent zP_35 17 = (0, za_isub 18)) (ze_isub (by decide : _ = (Int32.ofNat 3)))
  replace b := zz_fSi b TK (rfl : zz_ent zP_35 18 = (0, za_callS 80 3 21)) (zM_in_n hG hP h) rfl rfl (zz_lb rfl)
  replace b := zz_fw b T (rfl : zz_ent zP_35 21 = (0, za_if_eq 28 24)) (ze_if_eq_t (by decide))
  replace b := zz_fw b T (rfl : zz_ent zP_35 28 = (0, za_const (.int (Int32.ofNat 0)) 29)) (ze_const)
  replace b := zz_fw b T (rfl : zz_ent zP_35 29 = (0, za_istore 4 31)) (ze_istore (lv' := [(0, _), (1, _), (2, _), (3, _)]) rfl)
  replace b := zz_fw b T (rfl : zz_ent zP_35 31 = (0, za_aload 0 32)) (ze_aload rfl)
  replace b := zz_fw b T (rfl : zz_ent zP_35 32 = (0, za_iload 4 34)) (ze_iload rfl)
  replace b := zz_fw b T (rfl : zz_ent zP_35 34 = (0, za_if_ne 41 37)) (ze_if_ne_f (by decide))
  replace b := zz_fw b T (rfl : zz_ent zP_35 37 = (0, za_const (.int (Int32.ofNat 1)) 38)) (ze_const)
  replace b := zz_fw b T (rfl : zz_ent zP_35 38 = (0, za_goto 42)) (ze_goto)
  replace b := zz_fw b T (rfl : zz_ent zP_35 42 = (0, za_iload 4 44)) (ze_iload rfl)
  replace b := zz_fw b T (rfl : zz_ent zP_35 44 = (0, za_if_eq 66 47)) (ze_if_eq_t (by decide))
  replace b := zz_fw b T (rfl : zz_ent zP_35 66 = (0, za_const (.int (Int32.ofNat 0)) 67)) (ze_const)
  replace b := zz_fVi b TK (rfl : zz_ent zP_35 67 = (0, za_callV 0 71 2 70)) (zM_rf10 hG hP hw.1 (zR_has hw zh_171 (by decide) (by decide))) rfl rfl (zz_has_c (zR_has hw zh_171 (by decide) (by decide))) (zz_lb rfl)
  replace b := zz_fw b T (rfl : zz_ent zP_35 70 = (0, za_if_eq 75 73)) (ze_if_eq_f (by decide))
  replace b := zz_fw b T (rfl : zz_ent zP_35 73 = (0, za_const (.int (Int32.ofNat 0)) 74)) (ze_const)
  exact zz_M_B rfl rfl rfl rfl rfl (by decide +kernel) (zz_lb rfl) (zz_lb rfl) (zz_end_i (zr_35.2.1 74 rfl).1) b
theorem zMr_relocation_n {l : Launch} {D : va_G} {cy : Nat → ClassId} {z0 : Nat} {sp : Nat → Nat} {G : State → Prop} {d : Nat} (hG : zz_GF z0 G) (hP : ∀ U, G U → zz_GD zS zS2 zLg z0 sp U) {w : zz_W} (hw : zR w) {p0 p1 p2 : Int32} (h : ¬ p0 = Int32.ofNat 6) : zz_M l zTs D zcl zFK cy z0 sp (zTys cy) G zYN zCN zMQ zRT (d + 3) 36 [.ref 171, .int p0, .int p1, .int p2] w [.int (Int32.ofNat 0)] (zz_up w 171 (3, 0, 243, (zz_to 64 zc_171 0 (zz_nI (Int32.ofNat 1))))) := by
  have T := zt_36 (l := l) (D := D) (cy := cy) (z0 := z0) (sp := sp) (G := G) (d := (d + 2)) zz_k0_KS hG hP
  have TK := fun (K : zz_K) (h : zz_KS l D zcl zFK cy z0 sp (zTys cy) G zYN (fun y => Cond.code (zYN y) (zCN y) (zMQ y) (zRT y) :: zTs) (d + 2) K) => zt_36 h hG hP
  have b := zz_B_rf (l := l) (Ts := zTs) (D := D) (cl := zcl) (fk := zFK) (cy := cy) (z0 := z0) (sp := sp) (tys := zTys cy) (G := G) (own := "ToolMillModel") (mn := "relocation") (nL := 6) (cc := prog_14_method_188_code) (d := (d + 2)) ((0, [(0, .ref 171), (1, .int p0), (2, .int p1), (3, .int p2)], [], w) : zz_F)
  replace b := zz_fw b T (rfl : zz_ent zP_36 0 = (0, za_aload 0 1)) (ze_aload rfl)
  replace b := zz_fw b T (rfl : zz_ent zP_36 1 = (0, za_iload 1 2)) (ze_iload rfl)
  replace b := zz_fVi b TK (rfl : zz_ent zP_36 2 = (0, za_callV 0 81 1 5)) (zM_isUnit_n hG hP hw h) rfl rfl (zz_has_c (zR_has hw zh_171 (by decide) (by decide))) (zz_lb rfl)
  replace b := zz_fw b T (rfl : zz_ent zP_36 5 = (0, za_if_eq 28 8)) (ze_if_eq_t (by decide))
  replace b := zz_fw b T (rfl : zz_ent zP_36 28 = (0, za_const (.int (Int32.ofNat 0)) 29)) (ze_const)
  replace b := zz_fw b T (rfl : zz_ent zP_36 29 = (0, za_istore 4 31)) (ze_istore (lv' := [(0, _), (1, _), (2, _), (3, _)]) rfl)
  replace b := zz_fw b T (rfl : zz_ent zP_36 31 = (0, za_aload 0 32)) (ze_aload rfl)
  replace b := zz_fw b T (rfl : zz_ent zP_36 32 = (0, za_iload 4 34)) (ze_iload rfl)
  replace b := zz_fw b T (rfl : zz_ent zP_36 34 = (0, za_if_ne 41 37)) (ze_if_ne_f (by decide))
  replace b := zz_fw b T (rfl : zz_ent zP_36 37 = (0, za_const (.int (Int32.ofNat 1)) 38)) (ze_const)
  replace b := zz_fw b T (rfl : zz_ent zP_36 38 = (0, za_goto 42)) (ze_goto)
  replace b := zz_fw b T (rfl : zz_ent zP_36 42 = (0, za_iload 4 44)) (ze_iload rfl)
  replace b := zz_fw b T (rfl : zz_ent zP_36 44 = (0, za_if_eq 66 47)) (ze_if_eq_t (by decide))
  replace b := zz_fw b T (rfl : zz_ent zP_36 66 = (0, za_const (.int (Int32.ofNat 0)) 67)) (ze_const)
  replace b := zz_fVi b TK (rfl : zz_ent zP_36 67 = (0, za_callV 0 71 2 70)) (zM_rf10 hG hP hw.1 (zR_has hw zh_171 (by decide) (by decide))) rfl rfl (zz_has_c (zR_has hw zh_171 (by decide) (by decide))) (zz_lb rfl)
  replace b := zz_fw b T (rfl : zz_ent zP_36 70 = (0, za_if_eq 75 73)) (ze_if_eq_f (by decide))
  replace b := zz_fw b T (rfl : zz_ent zP_36 73 = (0, za_const (.int (Int32.ofNat 0)) 74)) (ze_const)
  exact zz_M_B rfl rfl rfl rfl rfl (by decide +kernel) (zz_lb rfl) (zz_lb rfl) (zz_end_i (zr_36.2.1 74 rfl).1) b
theorem zMr_relocation_i {l : Launch} {D : va_G} {cy : Nat → ClassId} {z0 : Nat} {sp : Nat → Nat} {G : State → Prop} {d : Nat} (hG : zz_GF z0 G) (hP : ∀ U, G U → zz_GD zS zS2 zLg z0 sp U) {w : zz_W} (hw : zR w) {p1 p2 : Int32} (h : p1 < Int32.ofNat 0 ∨ (Int32.ofNat 0) < p1) : zz_M l zTs D zcl zFK cy z0 sp (zTys cy) G zYN zCN zMQ zRT (d + 3) 36 [.ref 171, .int (Int32.ofNat 6), .int p1, .int p2] w [.int (Int32.ofNat 0)] (zz_up w 171 (3, 0, 243, (zz_to 64 zc_171 0 (zz_nI (Int32.ofNat 1))))) := by
  have T := zt_36 (l := l) (D := D) (cy := cy) (z0 := z0) (sp := sp) (G := G) (d := (d + 2)) zz_k0_KS hG hP
  have TK := fun (K : zz_K) (h : zz_KS l D zcl zFK cy z0 sp (zTys cy) G zYN (fun y => Cond.code (zYN y) (zCN y) (zMQ y) (zRT y) :: zTs) (d + 2) K) => zt_36 h hG hP
  have b := zz_B_rf (l := l) (Ts := zTs) (D := D) (cl := zcl) (fk := zFK) (cy := cy) (z0 := z0) (sp := sp) (tys := zTys cy) (G := G) (own := "ToolMillModel") (mn := "relocation") (nL := 6) (cc := prog_14_method_188_code) (d := (d + 2)) ((0, [(0, .ref 171), (1, .int (Int32.ofNat 6)), (2, .int p1), (3, .int p2)], [], w) : zz_F)
  replace b := zz_fw b T (rfl : zz_ent zP_36 0 = (0, za_aload 0 1)) (ze_aload rfl)
  replace b := zz_fw b T (rfl : zz_ent zP_36 1 = (0, za_iload 1 2)) (ze_iload rfl)
  replace b := zz_fVi b TK (rfl : zz_ent zP_36 2 = (0, za_callV 0 81 1 5)) (zM_isUnit_6 hG hP hw) rfl rfl (zz_has_c (zR_has hw zh_171 (by decide) (by decide))) (zz_lb rfl)
  replace b := zz_fw b T (rfl : zz_ent zP_36 5 = (0, za_if_eq 28 8)) (ze_if_eq_f (by decide))
  replace b := zz_fw b T (rfl : zz_ent zP_36 8 = (0, za_iload 2 9)) (ze_iload rfl)
  replace b := zz_fw b T (rfl : zz_ent zP_36 9 = (0, za_const (.int (Int32.ofNat 0)) 10)) (ze_const)
  replace b := zz_fw b T (rfl : zz_ent zP_36 10 = (0, za_aload 0 11)) (ze_aload rfl)
  replace b := zz_fw b T (rfl : zz_ent zP_36 11 = (0, za_getA 0 30 14)) (ze_getA (zR_has hw zh_171 (by decide) (by decide)) (by decide) zv_171_30)
  replace b := zz_fw b T (rfl : zz_ent zP_36 14 = (0, za_iload 1 15)) (ze_iload rfl)
  replace b := zz_fw b T (rfl : zz_ent zP_36 15 = (0, za_aldI 0 16)) (ze_aldI (zR_has hw zh_195 (by decide) (by decide)) (by decide) (by decide) (congrArg Int32.ofNat zv_195_6))
  replace b := zz_fw b T (rfl : zz_ent zP_36 16 = (0, za_const (.int (Int32.ofNat 1)) 17)) (ze_const)
  replace b := zz_fw b T (rfl : zz_ent zP_36 17 = (0, za_isub 18)) (ze_isub (by decide : _ = (Int32.ofNat 0)))
  replace b := zz_fSi b TK (rfl : zz_ent zP_36 18 = (0, za_callS 80 3 21)) (zM_in_n hG hP h) rfl rfl (zz_lb rfl)
  replace b := zz_fw b T (rfl : zz_ent zP_36 21 = (0, za_if_eq 28 24)) (ze_if_eq_t (by decide))
  replace b := zz_fw b T (rfl : zz_ent zP_36 28 = (0, za_const (.int (Int32.ofNat 0)) 29)) (ze_const)
  replace b := zz_fw b T (rfl : zz_ent zP_36 29 = (0, za_istore 4 31)) (ze_istore (lv' := [(0, _), (1, _), (2, _), (3, _)]) rfl)
  replace b := zz_fw b T (rfl : zz_ent zP_36 31 = (0, za_aload 0 32)) (ze_aload rfl)
  replace b := zz_fw b T (rfl : zz_ent zP_36 32 = (0, za_iload 4 34)) (ze_iload rfl)
  replace b := zz_fw b T (rfl : zz_ent zP_36 34 = (0, za_if_ne 41 37)) (ze_if_ne_f (by decide))
  replace b := zz_fw b T (rfl : zz_ent zP_36 37 = (0, za_const (.int (Int32.ofNat 1)) 38)) (ze_const)
  replace b := zz_fw b T (rfl : zz_ent zP_36 38 = (0, za_goto 42)) (ze_goto)
  replace b := zz_fw b T (rfl : zz_ent zP_36 42 = (0, za_iload 4 44)) (ze_iload rfl)
  replace b := zz_fw b T (rfl : zz_ent zP_36 44 = (0, za_if_eq 66 47)) (ze_if_eq_t (by decide))
  replace b := zz_fw b T (rfl : zz_ent zP_36 66 = (0, za_const (.int (Int32.ofNat 0)) 67)) (ze_const)
  replace b := zz_fVi b TK (rfl : zz_ent zP_36 67 = (0, za_callV 0 71 2 70)) (zM_rf10 hG hP hw.1 (zR_has hw zh_171 (by decide) (by decide))) rfl rfl (zz_has_c (zR_has hw zh_171 (by decide) (by decide))) (zz_lb rfl)
  replace b := zz_fw b T (rfl : zz_ent zP_36 70 = (0, za_if_eq 75 73)) (ze_if_eq_f (by decide))
  replace b := zz_fw b T (rfl : zz_ent zP_36 73 = (0, za_const (.int (Int32.ofNat 0)) 74)) (ze_const)
  exact zz_M_B rfl rfl rfl rfl rfl (by decide +kernel) (zz_lb rfl) (zz_lb rfl) (zz_end_i (zr_36.2.1 74 rfl).1) b
