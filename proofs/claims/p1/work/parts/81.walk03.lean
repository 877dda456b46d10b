/-! walks of methods, by program -/
theorem zMr_link_c {l : Launch} {D : va_G} {cy : Nat → ClassId} {z0 : Nat} {sp : Nat → Nat} {G : State → Prop} {d : Nat} (hG : zz_GF z0 G) (hP : ∀ U, G U → zz_GD zS zS2 zLg z0 sp U) {w : zz_W} (hw : zR w) {p0 p1 : Int32} (h1 : ¬ ¬ p0 - p0 / Int32.ofNat 4 * Int32.ofNat 4 = 0) (h2 : ¬ p0 < Int32.ofNat 0) (h3 : ¬ Int32.ofNat 200000000 < p0) (h4 : ¬ p1 - p1 / Int32.ofNat 4 * Int32.ofNat 4 = 0) : zz_M l zTs D zcl zFK cy z0 sp (zTys cy) G zYN zCN zMQ zRT (d + 2) 38 [.ref 171, .int p0, .int p1] w [.int (Int32.ofNat 0)] (zz_up w 171 (3, 0, 243, (zz_to 64 zc_171 0 (zz_nI (Int32.ofNat 1))))) := by
  have T := zt_38 (l := l) (D := D) (cy := cy) (z0 := z0) (sp := sp) (G := G) (d := (d + 1)) zz_k0_KS hG hP
  have TK := fun (K : zz_K) (h : zz_KS l D zcl zFK cy z0 sp (zTys cy) G zYN (fun y => Cond.code (zYN y) (zCN y) (zMQ y) (zRT y) :: zTs) (d + 1) K) => zt_38 h hG hP
  have b := zz_B_rf (l := l) (Ts := zTs) (D := D) (cl := zcl) (fk := zFK) (cy := cy) (z0 := z0) (sp := sp) (tys := zTys cy) (G := G) (own := "ToolMillModel") (mn := "link") (nL := 5) (cc := prog_14_method_205_code) (d := (d + 1)) ((0, [(0, .ref 171), (1, .int p0), (2, .int p1)], [], w) : zz_F)
  replace b := zz_fw b T (rfl : zz_ent zP_38 0 = (0, za_aload 0 1)) (ze_aload rfl)
  replace b := zz_fw b T (rfl : zz_ent zP_38 1 = (0, za_getI 0 10 4)) (ze_getI (zR_has hw zh_171 (by decide) (by decide)) (by decide) (congrArg Int32.ofNat zv_171_10))
  replace b := zz_fw b T (rfl : zz_ent zP_38 4 = (0, za_if_ne 11 7)) (ze_if_ne_f (by decide))
  replace b := zz_fw b T (rfl : zz_ent zP_38 7 = (0, za_const (.int (Int32.ofNat 1)) 8)) (ze_const)
  replace b := zz_fw b T (rfl : zz_ent zP_38 8 = (0, za_goto 12)) (ze_goto)
  replace b := zz_fw b T (rfl : zz_ent zP_38 12 = (0, za_istore 3 13)) (ze_istore (lv' := [(0, _), (1, _), (2, _)]) rfl)
  replace b := zz_fw b T (rfl : zz_ent zP_38 13 = (0, za_iload 1 14)) (ze_iload rfl)
  replace b := zz_fw b T (rfl : zz_ent zP_38 14 = (0, za_const (.int (Int32.ofNat 4)) 15)) (ze_const)
  replace b := zz_fw b T (rfl : zz_ent zP_38 15 = (0, za_irem 16)) (ze_irem (by decide) rfl)
  replace b := zz_fw b T (rfl : zz_ent zP_38 16 = (0, za_if_ne 48 19)) (ze_if_ne_f h1)
  replace b := zz_fw b T (rfl : zz_ent zP_38 19 = (0, za_iload 1 20)) (ze_iload rfl)
  replace b := zz_fw b T (rfl : zz_ent zP_38 20 = (0, za_const (.int (Int32.ofNat 0)) 21)) (ze_const)
  replace b := zz_fw b T (rfl : zz_ent zP_38 21 = (0, za_const (.int (Int32.ofNat 200000000)) 24)) (ze_const)
  replace b := zz_fSi b TK (rfl : zz_ent zP_38 24 = (0, za_callS 80 3 27)) (zM_in_k hG hP h2 h3) rfl rfl (zz_lb rfl)
  replace b := zz_fw b T (rfl : zz_ent zP_38 27 = (0, za_if_eq 48 30)) (ze_if_eq_f (by decide))
  replace b := zz_fw b T (rfl : zz_ent zP_38 30 = (0, za_iload 2 31)) (ze_iload rfl)
  replace b := zz_fw b T (rfl : zz_ent zP_38 31 = (0, za_const (.int (Int32.ofNat 4)) 32)) (ze_const)
  replace b := zz_fw b T (rfl : zz_ent zP_38 32 = (0, za_irem 33)) (ze_irem (by decide) rfl)
  replace b := zz_fw b T (rfl : zz_ent zP_38 33 = (0, za_if_ne 48 36)) (ze_if_ne_t h4)
  replace b := zz_fw b T (rfl : zz_ent zP_38 48 = (0, za_const (.int (Int32.ofNat 1)) 49)) (ze_const)
  replace b := zz_fw b T (rfl : zz_ent zP_38 49 = (0, za_goto 53)) (ze_goto)
  replace b := zz_fw b T (rfl : zz_ent zP_38 53 = (0, za_istore 4 55)) (ze_istore (lv' := [(3, _), (0, _), (1, _), (2, _)]) rfl)
  replace b := zz_fw b T (rfl : zz_ent zP_38 55 = (0, za_aload 0 56)) (ze_aload rfl)
  replace b := zz_fw b T (rfl : zz_ent zP_38 56 = (0, za_iload 3 57)) (ze_iload rfl)
  replace b := zz_fw b T (rfl : zz_ent zP_38 57 = (0, za_iload 3 58)) (ze_iload rfl)
  replace b := zz_fw b T (rfl : zz_ent zP_38 58 = (0, za_if_ne 70 61)) (ze_if_ne_t (by decide))
  replace b := zz_fw b T (rfl : zz_ent zP_38 70 = (0, za_const (.int (Int32.ofNat 0)) 71)) (ze_const)
  replace b := zz_fVi b TK (rfl : zz_ent zP_38 71 = (0, za_callV 0 71 2 74)) (zM_rf10 hG hP hw.1 (zR_has hw zh_171 (by decide) (by decide))) rfl rfl (zz_has_c (zR_has hw zh_171 (by decide) (by decide))) (zz_lb rfl)
  replace b := zz_fw b T (rfl : zz_ent zP_38 74 = (0, za_if_eq 79 77)) (ze_if_eq_f (by decide))
  replace b := zz_fw b T (rfl : zz_ent zP_38 77 = (0, za_const (.int (Int32.ofNat 0)) 78)) (ze_const)
  exact zz_M_B rfl rfl rfl rfl rfl (by decide +kernel) (zz_lb rfl) (zz_lb rfl) (zz_end_i (zr_38.2.1 78 rfl).1) b
theorem zMr_link_d {l : Launch} {D : va_G} {cy : Nat → ClassId} {z0 : Nat} {sp : Nat → Nat} {G : State → Prop} {d : Nat} (hG : zz_GF z0 G) (hP : ∀ U, G U → zz_GD zS zS2 zLg z0 sp U) {w : zz_W} (hw : zR w) {p0 p1 : Int32} (h1 : ¬ ¬ p0 - p0 / Int32.ofNat 4 * Int32.ofNat 4 = 0) (h2 : ¬ p0 < Int32.ofNat 0) (h3 : ¬ Int32.ofNat 200000000 < p0) (h4 : ¬ ¬ p1 - p1 / Int32.ofNat 4 * Int32.ofNat 4 = 0) (h5 : p1 < Int32.ofNat 512 ∨ Int32.ofNat 65536 < p1) : zz_M l zTs D zcl zFK cy z0 sp (zTys cy) G zYN zCN zMQ zRT (d + 2) 38 [.ref 171, .int p0, .int p1] w [.int (Int32.ofNat 0)] (zz_up w 171 (3, 0, 243, (zz_to 64 zc_171 0 (zz_nI (Int32.ofNat 1))))) := by
  have T := zt_38 (l := l) (D := D) (cy := cy) (z0 := z0) (sp := sp) (G := G) (d := (d + 1)) zz_k0_KS hG hP
  have TK := fun (K : zz_K) (h : zz_KS l D zcl zFK cy z0 sp (zTys cy) G zYN (fun y => Cond.code (zYN y) (zCN y) (zMQ y) (zRT y) :: zTs) (d + 1) K) => zt_38 h hG hP
  have b := zz_B_rf (l := l) (Ts := zTs) (D := D) (cl := zcl) (fk := zFK) (cy := cy) (z0 := z0) (sp := sp) (tys := zTys cy) (G := G) (own := "ToolMillModel") (mn := "link") (nL := 5) (cc := prog_14_method_205_code) (d := (d + 1)) ((0, [(0, .ref 171), (1, .int p0), (2, .int p1)], [], w) : zz_F)
  replace b := zz_fw b T (rfl : zz_ent zP_38 0 = (0, za_aload 0 1)) (ze_aload rfl)
  replace b := zz_fw b T (rfl : zz_ent zP_38 1 = (0, za_getI 0 10 4)) (ze_getI (zR_has hw zh_171 (by decide) (by decide)) (by decide) (congrArg Int32.ofNat zv_171_10))
  replace b := zz_fw b T (rfl : zz_ent zP_38 4 = (0, za_if_ne 11 7)) (ze_if_ne_f (by decide))
  replace b := zz_fw b T (rfl : zz_ent zP_38 7 = (0, za_const (.int (Int32.ofNat 1)) 8)) (ze_const)
  replace b := zz_fw b T (rfl : zz_ent zP_38 8 = (0, za_goto 12)) (ze_goto)
  replace b := zz_fw b T (rfl : zz_ent zP_38 12 = (0, za_istore 3 13)) (ze_istore (lv' := [(0, _), (1, _), (2, _)]) rfl)
  replace b := zz_fw b T (rfl : zz_ent zP_38 13 = (0, za_iload 1 14)) (ze_iload rfl)
  replace b := zz_fw b T (rfl : zz_ent zP_38 14 = (0, za_const (.int (Int32.ofNat 4)) 15)) (ze_const)
  replace b := zz_fw b T (rfl : zz_ent zP_38 15 = (0, za_irem 16)) (ze_irem (by decide) rfl)
  replace b := zz_fw b T (rfl : zz_ent zP_38 16 = (0, za_if_ne 48 19)) (ze_if_ne_f h1)
  replace b := zz_fw b T (rfl : zz_ent zP_38 19 = (0, za_iload 1 20)) (ze_iload rfl)
  replace b := zz_fw b T (rfl : zz_ent zP_38 20 = (0, za_const (.int (Int32.ofNat 0)) 21)) (ze_const)
  replace b := zz_fw b T (rfl : zz_ent zP_38 21 = (0, za_const (.int (Int32.ofNat 200000000)) 24)) (ze_const)
  replace b := zz_fSi b TK (rfl : zz_ent zP_38 24 = (0, za_callS 80 3 27)) (zM_in_k hG hP h2 h3) rfl rfl (zz_lb rfl)
  replace b := zz_fw b T (rfl : zz_ent zP_38 27 = (0, za_if_eq 48 30)) (ze_if_eq_f (by decide))
  replace b := zz_fw b T (rfl : zz_ent zP_38 30 = (0, za_iload 2 31)) (ze_iload rfl)
  replace b := zz_fw b T (rfl : zz_ent zP_38 31 = (0, za_const (.int (Int32.ofNat 4)) 32)) (ze_const)
  replace b := zz_fw b T (rfl : zz_ent zP_38 32 = (0, za_irem 33)) (ze_irem (by decide) rfl)
  replace b := zz_fw b T (rfl : zz_ent zP_38 33 = (0, za_if_ne 48 36)) (ze_if_ne_f h4)
  replace b := zz_fw b T (rfl : zz_ent zP_38 36 = (0, za_iload 2 37)) (ze_iload rfl)
  replace b := zz_fw b T (rfl : zz_ent zP_38 37 = (0, za_const (.int (Int32.ofNat 512)) 40)) (ze_const)
  replace b := zz_fw b T (rfl : zz_ent zP_38 40 = (0, za_const (.int (Int32.ofNat 65536)) 42)) (ze_const)
  replace b := zz_fSi b TK (rfl : zz_ent zP_38 42 = (0, za_callS 80 3 45)) (zM_in_n hG hP h5) rfl rfl (zz_lb rfl)
  replace b := zz_fw b T (rfl : zz_ent zP_38 45 = (0, za_if_ne 52 48)) (ze_if_ne_f (by decide))
  replace b := zz_fw b T (rfl : zz_ent zP_38 48 = (0, za_const (.int (Int32.ofNat 1)) 49)) (ze_const)
  replace b := zz_fw b T (rfl : zz_ent zP_38 49 = (0, za_goto 53)) (ze_goto)
  replace b := zz_fw b T (rfl : zz_ent zP_38 53 = (0, za_istore 4 55)) (ze_istore (lv' := [(3, _), (0, _), (1, _), (2, _)]) rfl)
  replace b := zz_fw b T (rfl : zz_ent zP_38 55 = (0, za_aload 0 56)) (ze_aload rfl)
  replace b := zz_fw b T (rfl : zz_ent zP_38 56 = (0, za_iload 3 57)) (ze_iload rfl)
  replace b := zz_fw b T (rfl : zz_ent zP_38 57 = (0, za_iload 3 58)) (ze_iload rfl)
  replace b := zz_fw b T (rfl : zz_ent zP_38 58 = (0, za_if_ne 70 61)) (ze_if_ne_t (by decide))
  replace b := zz_fw b T (rfl : zz_ent zP_38 70 = (0, za_const (.int (Int32.ofNat 0)) 71)) (ze_const)
  replace b := zz_fVi b TK (rfl : zz_ent zP_38 71 = (0, za_callV 0 71 2 74)) (zM_rf10 hG hP hw.1 (zR_has hw zh_171 (by decide) (by decide))) rfl rfl (zz_has_c (zR_has hw zh_171 (by decide) (by decide))) (zz_lb rfl)
  replace b := zz_fw b T (rfl : zz_ent zP_38 74 = (0, za_if_eq 79 77)) (ze_if_eq_f (by decide))
  replace b := zz_fw b T (rfl : zz_ent zP_38 77 = (0, za_const (.int (Int32.ofNat 0)) 78)) (ze_const)
  exact zz_M_B rfl rfl rfl rfl rfl (by decide +kernel) (zz_lb rfl) (zz_lb rfl) (zz_end_i (zr_38.2.1 78 rfl).1) b
theorem zMr_link_e {l : Launch} {D : va_G} {cy : Nat → ClassId} {z0 : Nat} {sp : Nat → Nat} {G : State → Prop} {d : Nat} (hG : zz_GF z0 G) (hP : ∀ U, G U → zz_GD zS zS2 zLg z0 sp U) {w : zz_W} (hw : zR w) {p0 p1 : Int32} (h1 : ¬ ¬ p0 - p0 / Int32.ofNat 4 * Int32.ofNat 4 = 0) (h2 : ¬ p0 < Int32.ofNat 0) (h3 : ¬ Int32.ofNat 200000000 < p0) (h4 : ¬ ¬ p1 - p1 / Int32.ofNat 4 * Int32.ofNat 4 = 0) (h5 : ¬ p1 < Int32.ofNat 512) (h6 : ¬ Int32.ofNat 65536 < p1) : zz_M l zTs D zcl zFK cy z0 sp (zTys cy) G zYN zCN zMQ zRT (d + 2) 38 [.ref 171, .int p0, .int p1] w [.int (Int32.ofNat 0)] (zz_up w 171 (3, 0, 243, (zz_to 64 zc_171 0 (zz_nI (Int32.ofNat 1))))) := by
  have T := zt_38 (l := l) (D := D) (cy := cy) (z0 := z0) (sp := sp) (G := G) (d := (d + 1)) zz_k0_KS hG hP
  have TK := fun (K : zz_K) (h : zz_KS l D zcl zFK cy z0 sp (zTys cy) G zYN (fun y => Cond.code (zYN y) (zCN y) (zMQ y) (zRT y) :: zTs) (d + 1) K) => zt_38 h hG hP
  have b := zz_B_rf (l := l) (Ts := zTs) (D := D) (cl := zcl) (fk := zFK) (cy := cy) (z0 := z0) (sp := sp) (tys := zTys cy) (G := G) (own := "ToolMillModel") (mn := "link") (nL := 5) (cc := prog_14_method_205_code) (d := (d + 1)) ((0, [(0, .ref 171), (1, .int p0), (2, .int p1)], [], w) : zz_F)
  replace b := zz_fw b T (rfl : zz_ent zP_38 0 = (0, za_aload 0 1)) (ze_aload rfl)
  replace b := zz_fw b T (rfl : zz_ent zP_38 1 = (0, za_getI 0 10 4)) (ze_getI (zR_has hw zh_171 (by decide) (by decide)) (by decide) (congrArg Int32.ofNat zv_171_10))
  replace b := zz_fw b T (rfl : zz_ent zP_38 4 = (0, za_if_ne 11 7)) (ze_if_ne_f (by decide))
  replace b := zz_fw b T (rfl : zz_ent zP_38 7 = (0, za_const (.int (Int32.ofNat 1)) 8)) (ze_const)
  replace b := zz_fw b T (rfl : zz_ent zP_38 8 = (0, za_goto 12)) (ze_goto)
  replace b := zz_fw b T (rfl : zz_ent zP_38 12 = (0, za_istore 3 13)) (ze_istore (lv' := [(0, _), (1, _), (2, _)]) rfl)
  replace b := zz_fw b T (rfl : zz_ent zP_38 13 = (0, za_iload 1 14)) (ze_iload rfl)
  replace b := zz_fw b T (rfl : zz_ent zP_38 14 = (0, za_const (.int (Int32.ofNat 4)) 15)) (ze_const)
  replace b := zz_fw b T (rfl : zz_ent zP_38 15 = (0, za_irem 16)) (ze_irem (by decide) rfl)
  replace b := zz_fw b T (rfl : zz_ent zP_38 16 = (0, za_if_ne 48 19)) (ze_if_ne_f h1)
  replace b := zz_fw b T (rfl : zz_ent zP_38 19 = (0, za_iload 1 20)) (ze_iload rfl)
  replace b := zz_fw b T (rfl : zz_ent zP_38 20 = (0, za_const (.int (Int32.ofNat 0)) 21)) (ze_const)
  replace b := zz_fw b T (rfl : zz_ent zP_38 21 = (0, za_const (.int (Int32.ofNat 200000000)) 24)) (ze_const)
  replace b := zz_fSi b TK (rfl : zz_ent zP_38 24 = (0, za_callS 80 3 27)) (zM_in_k hG hP h2 h3) rfl rfl (zz_lb rfl)
  replace b := zz_fw b T (rfl : zz_ent zP_38 27 = (0, za_if_eq 48 30)) (ze_if_eq_f (by decide))
  replace b := zz_fw b T (rfl : zz_ent zP_38 30 = (0, za_iload 2 31)) (ze_iload rfl)
  replace b := zz_fw b T (rfl : zz_ent zP_38 31 = (0, za_const (.int (Int32.ofNat 4)) 32)) (ze_const)
  replace b := zz_fw b T (rfl : zz_ent zP_38 32 = (0, za_irem 33)) (ze_irem (by decide) rfl)
  replace b := zz_fw b T (rfl : zz_ent zP_38 33 = (0, za_if_ne 48 36)) (ze_if_ne_f h4)
  replace b := zz_fw b T (rfl : zz_ent zP_38 36 = (0, za_iload 2 37)) (ze_iload rfl)
  replace b := zz_fw b T (rfl : zz_ent zP_38 37 = (0, za_const (.int (Int32.ofNat 512)) 40)) (ze_const)
  replace b := zz_fw b T (rfl : zz_ent zP_38 40 = (0, za_const (.int (Int32.ofNat 65536)) 42)) (ze_const)
  replace b := zz_fSi b TK (rfl : zz_ent zP_38 42 = (0, za_callS 80 3 45)) (zM_in_k hG hP h5 h6) rfl rfl (zz_lb rfl)
  replace b := zz_fw b T (rfl : zz_ent zP_38 45 = (0, za_if_ne 52 48)) (ze_if_ne_t (by decide))
  replace b := zz_fw b T (rfl : zz_ent zP_38 52 = (0, za_const (.int (Int32.ofNat 0)) 53)) (ze_const)
  replace b := zz_fw b T (rfl : zz_ent zP_38 53 = (0, za_istore 4 55)) (ze_istore (lv' := [(3, _), (0, _), (1, _), (2, _)]) rfl)
  replace b := zz_fw b T (rfl : zz_ent zP_38 55 = (0, za_aload 0 56)) (ze_aload rfl)
  replace b := zz_fw b T (rfl : zz_ent zP_38 56 = (0, za_iload 3 57)) (ze_iload rfl)
  replace b := zz_fw b T (rfl : zz_ent zP_38 57 = (0, za_iload 3 58)) (ze_iload rfl)
  replace b := zz_fw b T (rfl : zz_ent zP_38 58 = (0, za_if_ne 70 61)) (ze_if_ne_t (by decide))
  replace b := zz_fw b T (rfl : zz_ent zP_38 70 = (0, za_const (.int (Int32.ofNat 0)) 71)) (ze_const)
  replace b := zz_fVi b TK (rfl : zz_ent zP_38 71 = (0, za_callV 0 71 2 74)) (zM_rf10 hG hP hw.1 (zR_has hw zh_171 (by decide) (by decide))) rfl rfl (zz_has_c (zR_has hw zh_171 (by decide) (by decide))) (zz_lb rfl)
  replace b := zz_fw b T (rfl : zz_ent zP_38 74 = (0, za_if_eq 79 77)) (ze_if_eq_f (by decide))
  replace b := zz_fw b T (rfl : zz_ent zP_38 77 = (0, za_const (.int (Int32.ofNat 0)) 78)) (ze_const)
  exact zz_M_B rfl rfl rfl rfl rfl (by decide +kernel) (zz_lb rfl) (zz_lb rfl) (zz_end_i (zr_38.2.1 78 rfl).1) b
theorem zMr_link {l : Launch} {D : va_G} {cy : Nat → ClassId} {z0 : Nat} {sp : Nat → Nat} {G : State → Prop} {d : Nat} (hG : zz_GF z0 G) (hP : ∀ U, G U → zz_GD zS zS2 zLg z0 sp U) {w : zz_W} (hw : zR w) {p0 p1 : Int32} : zz_M l zTs D zcl zFK cy z0 sp (zTys cy) G zYN zCN zMQ zRT (d + 2) 38 [.ref 171, .int p0, .int p1] w [.int (Int32.ofNat 0)] (zz_up w 171 (3, 0, 243, zz_to 64 zc_171 0 (zz_nI (Int32.ofNat 1)))) := by
  by_cases h1 : p0 - p0 / Int32.ofNat 4 * Int32.ofNat 4 = 0
  · have h1 := not_not_intro h1
    by_cases h2 : p0 < Int32.ofNat 0
    · exact zMr_link_b hG hP hw h1 (Or.inl h2)
    by_cases h3 : Int32.ofNat 200000000 < p0
    · exact zMr_link_b hG hP hw h1 (Or.inr h3)
    by_cases h4 : p1 - p1 / Int32.ofNat 4 * Int32.ofNat 4 = 0
    · have h4 := not_not_intro h4
      by_cases h5 : p1 < Int32.ofNat 512
      · exact zMr_link_d hG hP hw h1 h2 h3 h4 (Or.inl h5)
      by_cases h6 : Int32.ofNat 65536 < p1
      · exact zMr_link_d hG hP hw h1 h2 h3 h4 (Or.inr h6)
      · exact zMr_link_e hG hP hw h1 h2 h3 h4 h5 h6
    · exact zMr_link_c hG hP hw h1 h2 h3 h4
  · exact zMr_link_a hG hP hw h1
theorem zMr_run {l : Launch} {D : va_G} {cy : Nat → ClassId} {z0 : Nat} {sp : Nat → Nat} {G : State → Prop} {d : Nat} (hG : zz_GF z0 G) (hP : ∀ U, G U → zz_GD zS zS2 zLg z0 sp U) {w : zz_W} (hw : zR w) {p0 : Int32} : zz_M l zTs D zcl zFK cy z0 sp (zTys cy) G zYN zCN zMQ zRT (d + 2) 39 [.ref 171, .int p0] w [.int (Int32.ofNat 0)] (zz_up w 171 (3, 0, 243, (zz_to 64 zc_171 0 (zz_nI (Int32.ofNat 1))))) := by
  have T := zt_39 (l := l) (D := D) (cy := cy) (z0 := z0) (sp := sp) (G := G) (d := (d + 1)) zz_k0_KS hG hP
  have TK := fun (K : zz_K) (h : zz_KS l D zcl zFK cy z0 sp (zTys cy) G zYN (fun y => Cond.code (zYN y) (zCN y) (zMQ y) (zRT y) :: zTs) (d + 1) K) => zt_39 h hG hP
  have b := zz_B_rf (l := l) (Ts := zTs) (D := D) (cl := zcl) (fk := zFK) (cy := cy) (z0 := z0) (sp := sp) (tys := zTys cy) (G := G) (own := "ToolMillModel") (mn := "run") (nL := 4) (cc := prog_14_method_225_code) (d := (d + 1)) ((0, [(0, .ref 171), (1, .int p0)], [], w) : zz_F)
  replace b := zz_fw b T (rfl : zz_ent zP_39 0 = (0, za_aload 0 1)) (ze_aload rfl)
  replace b := zz_fw b T (rfl : zz_ent zP_39 1 = (0, za_getI 0 202 4)) (ze_getI (zR_has hw zh_171 (by decide) (by decide)) (by decide) (congrArg Int32.ofNat zv_171_202))
  replace b := zz_fw b T (rfl : zz_ent zP_39 4 = (0, za_if_eq 14 7)) (ze_if_eq_t (by decide))
  replace b := zz_fw b T (rfl : zz_ent zP_39 14 = (0, za_const (.int (Int32.ofNat 1)) 15)) (ze_const)
  replace b := zz_fw b T (rfl : zz_ent zP_39 15 = (0, za_goto 19)) (ze_goto)
  replace b := zz_fw b T (rfl : zz_ent zP_39 19 = (0, za_istore 2 20)) (ze_istore (lv' := [(0, _), (1, _)]) rfl)
  replace b := zz_fw b T (rfl : zz_ent zP_39 20 = (0, za_aload 0 21)) (ze_aload rfl)
  replace b := zz_fw b T (rfl : zz_ent zP_39 21 = (0, za_iload 2 22)) (ze_iload rfl)
  replace b := zz_fw b T (rfl : zz_ent zP_39 22 = (0, za_iload 2 23)) (ze_iload rfl)
  replace b := zz_fw b T (rfl : zz_ent zP_39 23 = (0, za_if_ne 41 26)) (ze_if_ne_t (by decide))
  replace b := zz_fw b T (rfl : zz_ent zP_39 41 = (0, za_const (.int (Int32.ofNat 0)) 42)) (ze_const)
  replace b := zz_fVi b TK (rfl : zz_ent zP_39 42 = (0, za_callV 0 71 2 45)) (zM_rf10 hG hP hw.1 (zR_has hw zh_171 (by decide) (by decide))) rfl rfl (zz_has_c (zR_has hw zh_171 (by decide) (by decide))) (zz_lb rfl)
  replace b := zz_fw b T (rfl : zz_ent zP_39 45 = (0, za_if_eq 50 48)) (ze_if_eq_f (by decide))
  replace b := zz_fw b T (rfl : zz_ent zP_39 48 = (0, za_const (.int (Int32.ofNat 0)) 49)) (ze_const)
  exact zz_M_B rfl rfl rfl rfl rfl (by decide +kernel) (zz_lb rfl) (zz_lb rfl) (zz_end_i (zr_39.2.1 49 rfl).1) b
theorem zMr_state {l : Launch} {D : va_G} {cy : Nat → ClassId} {z0 : Nat} {sp : Nat → Nat} {G : State → Prop} {d : Nat} (hG : zz_GF z0 G) (hP : ∀ U, G U → zz_GD zS zS2 zLg z0 sp U) {w : zz_W} (hw : zR w) {p0 : Int32} : zz_M l zTs D zcl zFK cy z0 sp (zTys cy) G zYN zCN zMQ zRT (d + 2) 40 [.ref 171, .int p0] w [.int (Int32.ofNat 0)] (zz_up w 171 (3, 0, 243, (zz_to 64 zc_171 0 (zz_nI (Int32.ofNat 1))))) := by
  have T := zt_40 (l := l) (D := D) (cy := cy) (z0 := z0) (sp := sp) (G := G) (d := (d + 1)) zz_k0_KS hG hP
  have TK := fun (K : zz_K) (h : zz_KS l D zcl zFK cy z0 sp (zTys cy) G zYN (fun y => Cond.code (zYN y) (zCN y) (zMQ y) (zRT y) :: zTs) (d + 1) K) => zt_40 h hG hP
  have b := zz_B_rf (l := l) (Ts := zTs) (D := D) (cl := zcl) (fk := zFK) (cy := cy) (z0 := z0) (sp := sp) (tys := zTys cy) (G := G) (own := "ToolMillModel") (mn := "state") (nL := 2) (cc := prog_14_method_226_code) (d := (d + 1)) ((0, [(0, .ref 171), (1, .int p0)], [], w) : zz_F)
  replace b := zz_fw b T (rfl : zz_ent zP_40 0 = (0, za_aload 0 1)) (ze_aload rfl)
  replace b := zz_fw b T (rfl : zz_ent zP_40 1 = (0, za_aload 0 2)) (ze_aload rfl)
  replace b := zz_fw b T (rfl : zz_ent zP_40 2 = (0, za_getI 0 202 5)) (ze_getI (zR_has hw zh_171 (by decide) (by decide)) (by decide) (congrArg Int32.ofNat zv_171_202))
  replace b := zz_fw b T (rfl : zz_ent zP_40 5 = (0, za_if_ne 12 8)) (ze_if_ne_f (by decide))
  replace b := zz_fw b T (rfl : zz_ent zP_40 8 = (0, za_const (.int (Int32.ofNat 1)) 9)) (ze_const)
  replace b := zz_fw b T (rfl : zz_ent zP_40 9 = (0, za_goto 13)) (ze_goto)
  replace b := zz_fw b T (rfl : zz_ent zP_40 13 = (0, za_aload 0 14)) (ze_aload rfl)
  replace b := zz_fw b T (rfl : zz_ent zP_40 14 = (0, za_getI 0 202 17)) (ze_getI (zR_has hw zh_171 (by decide) (by decide)) (by decide) (congrArg Int32.ofNat zv_171_202))
  replace b := zz_fw b T (rfl : zz_ent zP_40 17 = (0, za_if_eq 34 20)) (ze_if_eq_t (by decide))
  replace b := zz_fw b T (rfl : zz_ent zP_40 34 = (0, za_const (.int (Int32.ofNat 0)) 35)) (ze_const)
  replace b := zz_fVi b TK (rfl : zz_ent zP_40 35 = (0, za_callV 0 71 2 38)) (zM_rf10 hG hP hw.1 (zR_has hw zh_171 (by decide) (by decide))) rfl rfl (zz_has_c (zR_has hw zh_171 (by decide) (by decide))) (zz_lb rfl)
  replace b := zz_fw b T (rfl : zz_ent zP_40 38 = (0, za_if_eq 43 41)) (ze_if_eq_f (by decide))
  replace b := zz_fw b T (rfl : zz_ent zP_40 41 = (0, za_const (.int (Int32.ofNat 0)) 42)) (ze_const)
  exact zz_M_B rfl rfl rfl rfl rfl (by decide +kernel) (zz_lb rfl) (zz_lb rfl) (zz_end_i (zr_40.2.1 42 rfl).1) b
theorem zMr_register {l : Launch} {D : va_G} {cy : Nat → ClassId} {z0 : Nat} {sp : Nat → Nat} {G : State → Prop} {d : Nat} (hG : zz_GF z0 G) (hP : ∀ U, G U → zz_GD zS zS2 zLg z0 sp U) {w : zz_W} (hw : zR w) {p0 : Int32} : zz_M l zTs D zcl zFK cy z0 sp (zTys cy) G zYN zCN zMQ zRT (d + 2) 41 [.ref 171, .int p0] w [.int (Int32.ofNat 0)] (zz_up w 171 (3, 0, 243, (zz_to 64 zc_171 0 (zz_nI (Int32.ofNat 1))))) := by
  have T := zt_41 (l := l) (D := D) (cy := cy) (z0 := z0) (sp := sp) (G := G) (d := (d + 1)) zz_k0_KS hG hP
  have TK := fun (K : zz_K) (h : zz_KS l D zcl zFK cy z0 sp (zTys cy) G zYN (fun y => Cond.code (zYN y) (zCN y) (zMQ y) (zRT y) :: zTs) (d + 1) K) => zt_41 h hG hP
  have b := zz_B_rf (l := l) (Ts := zTs) (D := D) (cl := zcl) (fk := zFK) (cy := cy) (z0 := z0) (sp := sp) (tys := zTys cy) (G := G) (own := "ToolMillModel") (mn := "register") (nL := 2) (cc := prog_14_method_227_code) (d := (d + 1)) ((0, [(0, .ref 171), (1, .int p0)], [], w) : zz_F)
  replace b := zz_fw b T (rfl : zz_ent zP_41 0 = (0, za_aload 0 1)) (ze_aload rfl)
  replace b := zz_fw b T (rfl : zz_ent zP_41 1 = (0, za_aload 0 2)) (ze_aload rfl)
  replace b := zz_fw b T (rfl : zz_ent zP_41 2 = (0, za_getI 0 202 5)) (ze_getI (zR_has hw zh_171 (by decide) (by decide)) (by decide) (congrArg Int32.ofNat zv_171_202))
  replace b := zz_fw b T (rfl : zz_ent zP_41 5 = (0, za_if_ne 12 8)) (ze_if_ne_f (by decide))
  replace b := zz_fw b T (rfl : zz_ent zP_41 8 = (0, za_const (.int (Int32.ofNat 1)) 9)) (ze_const)
  replace b := zz_fw b T (rfl : zz_ent zP_41 9 = (0, za_goto 13)) (ze_goto)
  replace b := zz_fw b T (rfl : zz_ent zP_41 13 = (0, za_aload 0 14)) (ze_aload rfl)
  replace b := zz_fw b T (rfl : zz_ent zP_41 14 = (0, za_getI 0 202 17)) (ze_getI (zR_has hw zh_171 (by decide) (by decide)) (by decide) (congrArg Int32.ofNat zv_171_202))
  replace b := zz_fw b T (rfl : zz_ent zP_41 17 = (0, za_if_eq 34 20)) (ze_if_eq_t (by decide))
  replace b := zz_fw b T (rfl : zz_ent zP_41 34 = (0, za_const (.int (Int32.ofNat 0)) 35)) (ze_const)
  replace b := zz_fVi b TK (rfl : zz_ent zP_41 35 = (0, za_callV 0 71 2 38)) (zM_rf10 hG hP hw.1 (zR_has hw zh_171 (by decide) (by decide))) rfl rfl (zz_has_c (zR_has hw zh_171 (by decide) (by decide))) (zz_lb rfl)
  replace b := zz_fw b T (rfl : zz_ent zP_41 38 = (0, za_if_eq 43 41)) (ze_if_eq_f (by decide))
  replace b := zz_fw b T (rfl : zz_ent zP_41 41 = (0, za_const (.int (Int32.ofNat 0)) 42)) (ze_const)
  exact zz_M_B rfl rfl rfl rfl rfl (by decide +kernel) (zz_lb rfl) (zz_lb rfl) (zz_end_i (zr_41.2.1 42 rfl).1) b
theorem zMr_word {l : Launch} {D : va_G} {cy : Nat → ClassId} {z0 : Nat} {sp : Nat → Nat} {G : State → Prop} {d : Nat} (hG : zz_GF z0 G) (hP : ∀ U, G U → zz_GD zS zS2 zLg z0 sp U) {w : zz_W} (hw : zR w) {p0 : Int32} : zz_M l zTs D zcl zFK cy z0 sp (zTys cy) G zYN zCN zMQ zRT (d + 2) 42 [.ref 171, .int p0] w [.int (Int32.ofNat 0)] (zz_up w 171 (3, 0, 243, (zz_to 64 zc_171 0 (zz_nI (Int32.ofNat 1))))) := by
  have T := zt_42 (l := l) (D := D) (cy := cy) (z0 := z0) (sp := sp) (G := G) (d := (d + 1)) zz_k0_KS hG hP
  have TK := fun (K : zz_K) (h : zz_KS l D zcl zFK cy z0 sp (zTys cy) G zYN (fun y => Cond.code (zYN y) (zCN y) (zMQ y) (zRT y) :: zTs) (d + 1) K) => zt_42 h hG hP
  have b := zz_B_rf (l := l) (Ts := zTs) (D := D) (cl := zcl) (fk := zFK) (cy := cy) (z0 := z0) (sp := sp) (tys := zTys cy) (G := G) (own := "ToolMillModel") (mn := "word") (nL := 2) (cc := prog_14_method_228_code) (d := (d + 1)) ((0, [(0, .ref 171), (1, .int p0)], [], w) : zz_F)
  replace b := zz_fw b T (rfl : zz_ent zP_42 0 = (0, za_aload 0 1)) (ze_aload rfl)
  replace b := zz_fw b T (rfl : zz_ent zP_42 1 = (0, za_aload 0 2)) (ze_aload rfl)
  replace b := zz_fw b T (rfl : zz_ent zP_42 2 = (0, za_getI 0 202 5)) (ze_getI (zR_has hw zh_171 (by decide) (by decide)) (by decide) (congrArg Int32.ofNat zv_171_202))
  replace b := zz_fw b T (rfl : zz_ent zP_42 5 = (0, za_if_ne 12 8)) (ze_if_ne_f (by decide))
  replace b := zz_fw b T (rfl : zz_ent zP_42 8 = (0, za_const (.int (Int32.ofNat 1)) 9)) (ze_const)
  replace b := zz_fw b T (rfl : zz_ent zP_42 9 = (0, za_goto 13)) (ze_goto)
  replace b := zz_fw b T (rfl : zz_ent zP_42 13 = (0, za_aload 0 14)) (ze_aload rfl)
  replace b := zz_fw b T (rfl : zz_ent zP_42 14 = (0, za_getI 0 202 17)) (ze_getI (zR_has hw zh_171 (by decide) (by decide)) (by decide) (congrArg Int32.ofNat zv_171_202))
  replace b := zz_fw b T (rfl : zz_ent zP_42 17 = (0, za_if_eq 33 20)) (ze_if_eq_t (by decide))
  replace b := zz_fw b T (rfl : zz_ent zP_42 33 = (0, za_const (.int (Int32.ofNat 0)) 34)) (ze_const)
  replace b := zz_fVi b TK (rfl : zz_ent zP_42 34 = (0, za_callV 0 71 2 37)) (zM_rf10 hG hP hw.1 (zR_has hw zh_171 (by decide) (by decide))) rfl rfl (zz_has_c (zR_has hw zh_171 (by decide) (by decide))) (zz_lb rfl)
  replace b := zz_fw b T (rfl : zz_ent zP_42 37 = (0, za_if_eq 42 40)) (ze_if_eq_f (by decide))
  replace b := zz_fw b T (rfl : zz_ent zP_42 40 = (0, za_const (.int (Int32.ofNat 0)) 41)) (ze_const)
  exact zz_M_B rfl rfl rfl rfl rfl (by decide +kernel) (zz_lb rfl) (zz_lb rfl) (zz_end_i (zr_42.2.1 41 rfl).1) b
theorem zMr_output {l : Launch} {D : va_G} {cy : Nat → ClassId} {z0 : Nat} {sp : Nat → Nat} {G : State → Prop} {d : Nat} (hG : zz_GF z0 G) (hP : ∀ U, G U → zz_GD zS zS2 zLg z0 sp U) {w : zz_W} (hw : zR w) {p0 : Int32} : zz_M l zTs D zcl zFK cy z0 sp (zTys cy) G zYN zCN zMQ zRT (d + 2) 43 [.ref 171, .int p0] w [.int (Int32.ofNat 0)] (zz_up w 171 (3, 0, 243, (zz_to 64 zc_171 0 (zz_nI (Int32.ofNat 1))))) := by
  have T := zt_43 (l := l) (D := D) (cy := cy) (z0 := z0) (sp := sp) (G := G) (d := (d + 1)) zz_k0_KS hG hP
  have TK := fun (K : zz_K) (h : zz_KS l D zcl zFK cy z0 sp (zTys cy) G zYN (fun y => Cond.code (zYN y) (zCN y) (zMQ y) (zRT y) :: zTs) (d + 1) K) => zt_43 h hG hP
  have b := zz_B_rf (l := l) (Ts := zTs) (D := D) (cl := zcl) (fk := zFK) (cy := cy) (z0 := z0) (sp := sp) (tys := zTys cy) (G := G) (own := "ToolMillModel") (mn := "output") (nL := 2) (cc := prog_14_method_229_code) (d := (d + 1)) ((0, [(0, .ref 171), (1, .int p0)], [], w) : zz_F)
  replace b := zz_fw b T (rfl : zz_ent zP_43 0 = (0, za_aload 0 1)) (ze_aload rfl)
  replace b := zz_fw b T (rfl : zz_ent zP_43 1 = (0, za_aload 0 2)) (ze_aload rfl)
  replace b := zz_fw b T (rfl : zz_ent zP_43 2 = (0, za_getI 0 202 5)) (ze_getI (zR_has hw zh_171 (by decide) (by decide)) (by decide) (congrArg Int32.ofNat zv_171_202))
  replace b := zz_fw b T (rfl : zz_ent zP_43 5 = (0, za_if_ne 12 8)) (ze_if_ne_f (by decide))
  replace b := zz_fw b T (rfl : zz_ent zP_43 8 = (0, za_const (.int (Int32.ofNat 1)) 9)) (ze_const)
  replace b := zz_fw b T (rfl : zz_ent zP_43 9 = (0, za_goto 13)) (ze_goto)
  replace b := zz_fw b T (rfl : zz_ent zP_43 13 = (0, za_aload 0 14)) (ze_aload rfl)
  replace b := zz_fw b T (rfl : zz_ent zP_43 14 = (0, za_getI 0 202 17)) (ze_getI (zR_has hw zh_171 (by decide) (by decide)) (by decide) (congrArg Int32.ofNat zv_171_202))
  replace b := zz_fw b T (rfl : zz_ent zP_43 17 = (0, za_if_eq 54 20)) (ze_if_eq_t (by decide))
  replace b := zz_fw b T (rfl : zz_ent zP_43 54 = (0, za_const (.int (Int32.ofNat 0)) 55)) (ze_const)
  replace b := zz_fVi b TK (rfl : zz_ent zP_43 55 = (0, za_callV 0 71 2 58)) (zM_rf10 hG hP hw.1 (zR_has hw zh_171 (by decide) (by decide))) rfl rfl (zz_has_c (zR_has hw zh_171 (by decide) (by decide))) (zz_lb rfl)
  replace b := zz_fw b T (rfl : zz_ent zP_43 58 = (0, za_if_eq 63 61)) (ze_if_eq_f (by decide))
  replace b := zz_fw b T (rfl : zz_ent zP_43 61 = (0, za_const (.int (Int32.ofNat 0)) 62)) (ze_const)
  exact zz_M_B rfl rfl rfl rfl rfl (by decide +kernel) (zz_lb rfl) (zz_lb rfl) (zz_end_i (zr_43.2.1 62 rfl).1) b
theorem zMr_meant {l : Launch} {D : va_G} {cy : Nat → ClassId} {z0 : Nat} {sp : Nat → Nat} {G : State → Prop} {d : Nat} (hG : zz_GF z0 G) (hP : ∀ U, G U → zz_GD zS zS2 zLg z0 sp U) {w : zz_W} (hw : zR w) {p0 : Int32} : zz_M l zTs D zcl zFK cy z0 sp (zTys cy) G zYN zCN zMQ zRT (d + 2) 45 [.ref 171, .int p0] w [.int (Int32.ofNat 0)] (zz_up w 171 (3, 0, 243, (zz_to 64 zc_171 0 (zz_nI (Int32.ofNat 1))))) := by
  have T := zt_45 (l := l) (D := D) (cy := cy) (z0 := z0) (sp := sp) (G := G) (d := (d + 1)) zz_k0_KS hG hP
  have TK := fun (K : zz_K) (h : zz_KS l D zcl zFK cy z0 sp (zTys cy) G zYN (fun y => Cond.code (zYN y) (zCN y) (zMQ y) (zRT y) :: zTs) (d + 1) K) => zt_45 h hG hP
  have b := zz_B_rf (l := l) (Ts := zTs) (D := D) (cl := zcl) (fk := zFK) (cy := cy) (z0 := z0) (sp := sp) (tys := zTys cy) (G := G) (own := "ToolMillModel") (mn := "meant") (nL := 2) (cc := prog_14_method_251_code) (d := (d + 1)) ((0, [(0, .ref 171), (1, .int p0)], [], w) : zz_F)
  replace b := zz_fw b T (rfl : zz_ent zP_45 0 = (0, za_aload 0 1)) (ze_aload rfl)
  replace b := zz_fw b T (rfl : zz_ent zP_45 1 = (0, za_aload 0 2)) (ze_aload rfl)
  replace b := zz_fw b T (rfl : zz_ent zP_45 2 = (0, za_getI 0 224 5)) (ze_getI (zR_has hw zh_171 (by decide) (by decide)) (by decide) (congrArg Int32.ofNat zv_171_224))
  replace b := zz_fw b T (rfl : zz_ent zP_45 5 = (0, za_if_ne 12 8)) (ze_if_ne_f (by decide))
  replace b := zz_fw b T (rfl : zz_ent zP_45 8 = (0, za_const (.int (Int32.ofNat 1)) 9)) (ze_const)
  replace b := zz_fw b T (rfl : zz_ent zP_45 9 = (0, za_goto 13)) (ze_goto)
  replace b := zz_fw b T (rfl : zz_ent zP_45 13 = (0, za_aload 0 14)) (ze_aload rfl)
  replace b := zz_fw b T (rfl : zz_ent zP_45 14 = (0, za_getI 0 224 17)) (ze_getI (zR_has hw zh_171 (by decide) (by decide)) (by decide) (congrArg Int32.ofNat zv_171_224))
  replace b := zz_fw b T (rfl : zz_ent zP_45 17 = (0, za_if_eq 33 20)) (ze_if_eq_t (by decide))
  replace b := zz_fw b T (rfl : zz_ent zP_45 33 = (0, za_const (.int (Int32.ofNat 0)) 34)) (ze_const)
  replace b := zz_fVi b TK (rfl : zz_ent zP_45 34 = (0, za_callV 0 71 2 37)) (zM_rf10 hG hP hw.1 (zR_has hw zh_171 (by decide) (by decide))) rfl rfl (zz_has_c (zR_has hw zh_171 (by decide) (by decide))) (zz_lb rfl)
  replace b := zz_fw b T (rfl : zz_ent zP_45 37 = (0, za_if_eq 42 40)) (ze_if_eq_f (by decide))
  replace b := zz_fw b T (rfl : zz_ent zP_45 40 = (0, za_const (.int (Int32.ofNat 0)) 41)) (ze_const)
  exact zz_M_B rfl rfl rfl rfl rfl (by decide +kernel) (zz_lb rfl) (zz_lb rfl) (zz_end_i (zr_45.2.1 41 rfl).1) b
theorem zMr_said {l : Launch} {D : va_G} {cy : Nat → ClassId} {z0 : Nat} {sp : Nat → Nat} {G : State → Prop} {d : Nat} (hG : zz_GF z0 G) (hP : ∀ U, G U → zz_GD zS zS2 zLg z0 sp U) {w : zz_W} (hw : zR w) {p0 : Int32} : zz_M l zTs D zcl zFK cy z0 sp (zTys cy) G zYN zCN zMQ zRT (d + 2) 46 [.ref 171, .int p0] w [.int (Int32.ofNat 0)] (zz_up w 171 (3, 0, 243, (zz_to 64 zc_171 0 (zz_nI (Int32.ofNat 1))))) := by
  have T := zt_46 (l := l) (D := D) (cy := cy) (z0 := z0) (sp := sp) (G := G) (d := (d + 1)) zz_k0_KS hG hP
  have TK := fun (K : zz_K) (h : zz_KS l D zcl zFK cy z0 sp (zTys cy) G zYN (fun y => Cond.code (zYN y) (zCN y) (zMQ y) (zRT y) :: zTs) (d + 1) K) => zt_46 h hG hP
  have b := zz_B_rf (l := l) (Ts := zTs) (D := D) (cl := zcl) (fk := zFK) (cy := cy) (z0 := z0) (sp := sp) (tys := zTys cy) (G := G) (own := "ToolMillModel") (mn := "said") (nL := 2) (cc := prog_14_method_252_code) (d := (d + 1)) ((0, [(0, .ref 171), (1, .int p0)], [], w) : zz_F)
  replace b := zz_fw b T (rfl : zz_ent zP_46 0 = (0, za_aload 0 1)) (ze_aload rfl)
  replace b := zz_fw b T (rfl : zz_ent zP_46 1 = (0, za_aload 0 2)) (ze_aload rfl)
  replace b := zz_fw b T (rfl : zz_ent zP_46 2 = (0, za_getI 0 224 5)) (ze_getI (zR_has hw zh_171 (by decide) (by decide)) (by decide) (congrArg Int32.ofNat zv_171_224))
  replace b := zz_fw b T (rfl : zz_ent zP_46 5 = (0, za_if_ne 12 8)) (ze_if_ne_f (by decide))
  replace b := zz_fw b T (rfl : zz_ent zP_46 8 = (0, za_const (.int (Int32.ofNat 1)) 9)) (ze_const)
  replace b := zz_fw b T (rfl : zz_ent zP_46 9 = (0, za_goto 13)) (ze_goto)
  replace b := zz_fw b T (rfl : zz_ent zP_46 13 = (0, za_aload 0 14)) (ze_aload rfl)
  replace b := zz_fw b T (rfl : zz_ent zP_46 14 = (0, za_getI 0 224 17)) (ze_getI (zR_has hw zh_171 (by decide) (by decide)) (by decide) (congrArg Int32.ofNat zv_171_224))
  replace b := zz_fw b T (rfl : zz_ent zP_46 17 = (0, za_if_eq 54 20)) (ze_if_eq_t (by decide))
  replace b := zz_fw b T (rfl : zz_ent zP_46 54 = (0, za_const (.int (Int32.ofNat 0)) 55)) (ze_const)
  replace b := zz_fVi b TK (rfl : zz_ent zP_46 55 = (0, za_callV 0 71 2 58)) (zM_rf10 hG hP hw.1 (zR_has hw zh_171 (by decide) (by decide))) rfl rfl (zz_has_c (zR_has hw zh_171 (by decide) (by decide))) (zz_lb rfl)
  replace b := zz_fw b T (rfl : zz_ent zP_46 58 = (0, za_if_eq 63 61)) (ze_if_eq_f (by decide))
  replace b := zz_fw b T (rfl : zz_ent zP_46 61 = (0, za_const (.int (Int32.ofNat 0)) 62)) (ze_const)
  exact zz_M_B rfl rfl rfl rfl rfl (by decide +kernel) (zz_lb rfl) (zz_lb rfl) (zz_end_i (zr_46.2.1 62 rfl).1) b
theorem zM_mw {l : Launch} {D : va_G} {cy : Nat → ClassId} {z0 : Nat} {sp : Nat → Nat} {G : State → Prop} {d : Nat} (hG : zz_GF z0 G) (hP : ∀ U, G U → zz_GD zS zS2 zLg z0 sp U) {w : zz_W} (hw : zR w) : zz_M l zTs D zcl zFK cy z0 sp (zTys cy) G zYN zCN zMQ zRT (d + 1) 83 [.ref 171] w [.int (Int32.ofNat 0)] w := by
  have T := zt_83 (l := l) (D := D) (cy := cy) (z0 := z0) (sp := sp) (G := G) (d := d) zz_k0_KS hG hP
  have TK := fun (K : zz_K) (h : zz_KS l D zcl zFK cy z0 sp (zTys cy) G zYN (fun y => Cond.code (zYN y) (zCN y) (zMQ y) (zRT y) :: zTs) d K) => zt_83 h hG hP
  have b := zz_B_rf (l := l) (Ts := zTs) (D := D) (cl := zcl) (fk := zFK) (cy := cy) (z0 := z0) (sp := sp) (tys := zTys cy) (G := G) (own := "ToolMillModel") (mn := "meansWell") (nL := 7) (cc := prog_14_method_237_code) (d := d) ((0, [(0, .ref 171)], [], w) : zz_F)
  replace b := zz_fw b T (rfl : zz_ent zP_83 0 = (0, za_aload 0 1)) (ze_aload rfl)
  replace b := zz_fw b T (rfl : zz_ent zP_83 1 = (0, za_getI 0 10 4)) (ze_getI (zR_has hw zh_171 (by decide) (by decide)) (by decide) (congrArg Int32.ofNat zv_171_10))
  replace b := zz_fw b T (rfl : zz_ent zP_83 4 = (0, za_if_le 11 7)) (ze_if_le_t (by decide))
  replace b := zz_fw b T (rfl : zz_ent zP_83 11 = (0, za_const (.int (Int32.ofNat 0)) 12)) (ze_const)
  replace b := zz_fw b T (rfl : zz_ent zP_83 12 = (0, za_istore 1 13)) (ze_istore (lv' := [(0, _)]) rfl)
  replace b := zz_fw b T (rfl : zz_ent zP_83 13 = (0, za_const (.int (Int32.ofNat 0)) 14)) (ze_const)
  replace b := zz_fw b T (rfl : zz_ent zP_83 14 = (0, za_istore 2 15)) (ze_istore (lv' := [(1, _), (0, _)]) rfl)
  replace b := zz_fw b T (rfl : zz_ent zP_83 15 = (0, za_iload 2 16)) (ze_iload rfl)
  replace b := zz_fw b T (rfl : zz_ent zP_83 16 = (0, za_aload 0 17)) (ze_aload rfl)
  replace b := zz_fw b T (rfl : zz_ent zP_83 17 = (0, za_getI 0 10 20)) (ze_getI (zR_has hw zh_171 (by decide) (by decide)) (by decide) (congrArg Int32.ofNat zv_171_10))
  replace b := zz_fw b T (rfl : zz_ent zP_83 20 = (0, za_icmp_ge 48 23)) (ze_icmp_ge_t (by decide))
  replace b := zz_fw b T (rfl : zz_ent zP_83 48 = (0, za_const (.int (Int32.ofNat 0)) 49)) (ze_const)
  replace b := zz_fw b T (rfl : zz_ent zP_83 49 = (0, za_istore 2 50)) (ze_istore (lv' := [(1, _), (0, _)]) rfl)
  replace b := zz_fw b T (rfl : zz_ent zP_83 50 = (0, za_iload 2 51)) (ze_iload rfl)
  replace b := zz_fw b T (rfl : zz_ent zP_83 51 = (0, za_aload 0 52)) (ze_aload rfl)
  replace b := zz_fw b T (rfl : zz_ent zP_83 52 = (0, za_getI 0 10 55)) (ze_getI (zR_has hw zh_171 (by decide) (by decide)) (by decide) (congrArg Int32.ofNat zv_171_10))
  replace b := zz_fw b T (rfl : zz_ent zP_83 55 = (0, za_icmp_ge 237 58)) (ze_icmp_ge_t (by decide))
  replace b := zz_fw b T (rfl : zz_ent zP_83 237 = (0, za_iload 1 238)) (ze_iload rfl)
  replace b := zz_fw b T (rfl : zz_ent zP_83 238 = (0, za_if_eq 257 241)) (ze_if_eq_t (by decide))
  replace b := zz_fw b T (rfl : zz_ent zP_83 257 = (0, za_const (.int (Int32.ofNat 4294967295)) 258)) (ze_const)
  replace b := zz_fw b T (rfl : zz_ent zP_83 258 = (0, za_istore 2 259)) (ze_istore (lv' := [(1, _), (0, _)]) rfl)
  replace b := zz_fw b T (rfl : zz_ent zP_83 259 = (0, za_iload 1 260)) (ze_iload rfl)
  replace b := zz_fw b T (rfl : zz_ent zP_83 260 = (0, za_if_eq 281 263)) (ze_if_eq_t (by decide))
  replace b := zz_fw b T (rfl : zz_ent zP_83 281 = (0, za_const (.int (Int32.ofNat 0)) 282)) (ze_const)
  exact zz_M_B rfl rfl rfl rfl rfl (by decide +kernel) (zz_lb rfl) (zz_lb rfl) (zz_end_z (zr_83.2.2.1 282 rfl).1 (by decide)) b
theorem zMr_mean {l : Launch} {D : va_G} {cy : Nat → ClassId} {z0 : Nat} {sp : Nat → Nat} {G : State → Prop} {d : Nat} (hG : zz_GF z0 G) (hP : ∀ U, G U → zz_GD zS zS2 zLg z0 sp U) {w : zz_W} (hw : zR w) {p0 : Int32} : zz_M l zTs D zcl zFK cy z0 sp (zTys cy) G zYN zCN zMQ zRT (d + 2) 44 [.ref 171, .int p0] w [.int (Int32.ofNat 0)] (zz_up w 171 (3, 0, 243, (zz_to 64 zc_171 0 (zz_nI (Int32.ofNat 1))))) := by
  have T := zt_44 (l := l) (D := D) (cy := cy) (z0 := z0) (sp := sp) (G := G) (d := (d + 1)) zz_k0_KS hG hP
  have TK := fun (K : zz_K) (h : zz_KS l D zcl zFK cy z0 sp (zTys cy) G zYN (fun y => Cond.code (zYN y) (zCN y) (zMQ y) (zRT y) :: zTs) (d + 1) K) => zt_44 h hG hP
  have b := zz_B_rf (l := l) (Ts := zTs) (D := D) (cl := zcl) (fk := zFK) (cy := cy) (z0 := z0) (sp := sp) (tys := zTys cy) (G := G) (own := "ToolMillModel") (mn := "mean") (nL := 6) (cc := prog_14_method_250_code) (d := (d + 1)) ((0, [(0, .ref 171), (1, .int p0)], [], w) : zz_F)
  replace b := zz_fw b T (rfl : zz_ent zP_44 0 = (0, za_aload 0 1)) (ze_aload rfl)
  replace b := zz_fVi b TK (rfl : zz_ent zP_44 1 = (0, za_callV 0 83 0 4)) (zM_mw hG hP hw) rfl rfl (zz_has_c (zR_has hw zh_171 (by decide) (by decide))) (zz_lb rfl)
  replace b := zz_fw b T (rfl : zz_ent zP_44 4 = (0, za_istore 2 5)) (ze_istore (lv' := [(0, _), (1, _)]) rfl)
  replace b := zz_fw b T (rfl : zz_ent zP_44 5 = (0, za_aload 0 6)) (ze_aload rfl)
  replace b := zz_fw b T (rfl : zz_ent zP_44 6 = (0, za_iload 2 7)) (ze_iload rfl)
  replace b := zz_fw b T (rfl : zz_ent zP_44 7 = (0, za_if_ne 14 10)) (ze_if_ne_f (by decide))
  replace b := zz_fw b T (rfl : zz_ent zP_44 10 = (0, za_const (.int (Int32.ofNat 1)) 11)) (ze_const)
  replace b := zz_fw b T (rfl : zz_ent zP_44 11 = (0, za_goto 15)) (ze_goto)
  replace b := zz_fw b T (rfl : zz_ent zP_44 15 = (0, za_iload 2 16)) (ze_iload rfl)
  replace b := zz_fw b T (rfl : zz_ent zP_44 16 = (0, za_if_eq 34 19)) (ze_if_eq_t (by decide))
  replace b := zz_fw b T (rfl : zz_ent zP_44 34 = (0, za_const (.int (Int32.ofNat 0)) 35)) (ze_const)
  replace b := zz_fVi b TK (rfl : zz_ent zP_44 35 = (0, za_callV 0 71 2 38)) (zM_rf10 hG hP hw.1 (zR_has hw zh_171 (by decide) (by decide))) rfl rfl (zz_has_c (zR_has hw zh_171 (by decide) (by decide))) (zz_lb rfl)
  replace b := zz_fw b T (rfl : zz_ent zP_44 38 = (0, za_if_eq 43 41)) (ze_if_eq_f (by decide))
  replace b := zz_fw b T (rfl : zz_ent zP_44 41 = (0, za_const (.int (Int32.ofNat 0)) 42)) (ze_const)
  exact zz_M_B rfl rfl rfl rfl rfl (by decide +kernel) (zz_lb rfl) (zz_lb rfl) (zz_end_i (zr_44.2.1 42 rfl).1) b
theorem zMr_listing_n {l : Launch} {D : va_G} {cy : Nat → ClassId} {z0 : Nat} {sp : Nat → Nat} {G : State → Prop} {d : Nat} (hG : zz_GF z0 G) (hP : ∀ U, G U → zz_GD zS zS2 zLg z0 sp U) {w : zz_W} (hw : zR w) {p0 p1 : Int32} (h : ¬ 0 ≤ p1) : zz_M l zTs D zcl zFK cy z0 sp (zTys cy) G zYN zCN zMQ zRT (d + 2) 47 [.ref 171, .int p0, .int p1] w [.int (Int32.ofNat 0)] (zz_up w 171 (3, 0, 243, (zz_to 64 zc_171 0 (zz_nI (Int32.ofNat 1))))) := by
  have T := zt_47 (l := l) (D := D) (cy := cy) (z0 := z0) (sp := sp) (G := G) (d := (d + 1)) zz_k0_KS hG hP
  have TK := fun (K : zz_K) (h : zz_KS l D zcl zFK cy z0 sp (zTys cy) G zYN (fun y => Cond.code (zYN y) (zCN y) (zMQ y) (zRT y) :: zTs) (d + 1) K) => zt_47 h hG hP
  have b := zz_B_rf (l := l) (Ts := zTs) (D := D) (cl := zcl) (fk := zFK) (cy := cy) (z0 := z0) (sp := sp) (tys := zTys cy) (G := G) (own := "ToolMillModel") (mn := "listing") (nL := 4) (cc := prog_14_method_235_code) (d := (d + 1)) ((0, [(0, .ref 171), (1, .int p0), (2, .int p1)], [], w) : zz_F)
  replace b := zz_fw b T (rfl : zz_ent zP_47 0 = (0, za_aload 0 1)) (ze_aload rfl)
  replace b := zz_fw b T (rfl : zz_ent zP_47 1 = (0, za_iload 2 2)) (ze_iload rfl)
  replace b := zz_fw b T (rfl : zz_ent zP_47 2 = (0, za_if_ge 9 5)) (ze_if_ge_f h)
  replace b := zz_fw b T (rfl : zz_ent zP_47 5 = (0, za_const (.int (Int32.ofNat 1)) 6)) (ze_const)
  replace b := zz_fw b T (rfl : zz_ent zP_47 6 = (0, za_goto 10)) (ze_goto)
  replace b := zz_fw b T (rfl : zz_ent zP_47 10 = (0, za_const (.int (Int32.ofNat 0)) 11)) (ze_const)
  replace b := zz_fVi b TK (rfl : zz_ent zP_47 11 = (0, za_callV 0 71 2 14)) (zM_rf10 hG hP hw.1 (zR_has hw zh_171 (by decide) (by decide))) rfl rfl (zz_has_c (zR_has hw zh_171 (by decide) (by decide))) (zz_lb rfl)
  replace b := zz_fw b T (rfl : zz_ent zP_47 14 = (0, za_if_eq 19 17)) (ze_if_eq_f (by decide))
  replace b := zz_fw b T (rfl : zz_ent zP_47 17 = (0, za_const (.int (Int32.ofNat 0)) 18)) (ze_const)
  exact zz_M_B rfl rfl rfl rfl rfl (by decide +kernel) (zz_lb rfl) (zz_lb rfl) (zz_end_i (zr_47.2.1 18 rfl).1) b
theorem zM_unitOf {l : Launch} {D : va_G} {cy : Nat → ClassId} {z0 : Nat} {sp : Nat → Nat} {G : State → Prop} {d : Nat} (hG : zz_GF z0 G) (hP : ∀ U, G U → zz_GD zS zS2 zLg z0 sp U) : zz_M l zTs D zcl zFK cy z0 sp (zTys cy) G zYN zCN zMQ zRT (d + 1) 51 [.ref 0, .int (Int32.ofNat 6)] zW3 [.ref 161] zW3 := by
  have T := zt_51 (l := l) (D := D) (cy := cy) (z0 := z0) (sp := sp) (G := G) (d := d) zz_k0_KS hG hP
  have TK := fun (K : zz_K) (h : zz_KS l D zcl zFK cy z0 sp (zTys cy) G zYN (fun y => Cond.code (zYN y) (zCN y) (zMQ y) (zRT y) :: zTs) d K) => zt_51 h hG hP
  have b := zz_B_rf (l := l) (Ts := zTs) (D := D) (cl := zcl) (fk := zFK) (cy := cy) (z0 := z0) (sp := sp) (tys := zTys cy) (G := G) (own := "ToolMill") (mn := "unitOf") (nL := 2) (cc := prog_1_method_27_code) (d := d) ((0, [(0, .ref 0), (1, .int (Int32.ofNat 6))], [], zW3) : zz_F)
  replace b := zz_fw b T (rfl : zz_ent zP_51 0 = (0, za_iload 1 1)) (ze_iload rfl)
  replace b := zz_fw b T (rfl : zz_ent zP_51 1 = (0, za_const (.int (Int32.ofNat 6)) 3)) (ze_const)
  replace b := zz_fw b T (rfl : zz_ent zP_51 3 = (0, za_icmp_eq 29 6)) (ze_icmp_eq_t (by decide))
  replace b := zz_fw b T (rfl : zz_ent zP_51 29 = (0, za_aload 0 30)) (ze_aload rfl)
  replace b := zz_fw b T (rfl : zz_ent zP_51 30 = (0, za_getA 1 2 33)) (ze_getA zh_0 (by decide) zv_0_2)
  replace b := zz_fw b T (rfl : zz_ent zP_51 33 = (0, za_iload 1 34)) (ze_iload rfl)
  replace b := zz_fw b T (rfl : zz_ent zP_51 34 = (0, za_aldA 4 35)) (ze_aldA zh_2 (by decide) (by decide) zv_2_6)
  exact zz_M_B rfl rfl rfl rfl rfl (by decide +kernel) (zz_lb rfl) (zz_lb rfl) (zz_end_a (zr_51.2.2.2.2.1 35 rfl).1 (Or.inl ⟨_, rfl⟩)) b
theorem zX_unitOf_l {l : Launch} {D : va_G} {cy : Nat → ClassId} {z0 : Nat} {sp : Nat → Nat} {G : State → Prop} {d : Nat} (hG : zz_GF z0 G) (hP : ∀ U, G U → zz_GD zS zS2 zLg z0 sp U) (hl : l.stackTraces = false) (hE : ∀ U, G U → zGX z0 U) {p0 : Int32} (h0 : ¬ p0 = Int32.ofNat 6) (h : p0 < 0) : zz_MX l zTs D zcl zFK cy z0 sp (zTys cy) G zYN zCN zMQ zRT (d + 6) 51 [.ref 0, .int p0] zW3 "java/util/NoSuchElementException" (zz_pu zW3 (3, 16, 0, 0) 6) := by
  have T := zt_51 (l := l) (D := D) (cy := cy) (z0 := z0) (sp := sp) (G := G) (d := (d + 5)) zz_k0_KS hG hP
  have TK := fun (K : zz_K) (h : zz_KS l D zcl zFK cy z0 sp (zTys cy) G zYN (fun y => Cond.code (zYN y) (zCN y) (zMQ y) (zRT y) :: zTs) (d + 5) K) => zt_51 h hG hP
  have b := zz_B_rf (l := l) (Ts := zTs) (D := D) (cl := zcl) (fk := zFK) (cy := cy) (z0 := z0) (sp := sp) (tys := zTys cy) (G := G) (own := "ToolMill") (mn := "unitOf") (nL := 2) (cc := prog_1_method_27_code) (d := (d + 5)) ((0, [(0, .ref 0), (1, .int p0)], [], zW3) : zz_F)
  replace b := zz_fw b T (rfl : zz_ent zP_51 0 = (0, za_iload 1 1)) (ze_iload rfl)
  replace b := zz_fw b T (rfl : zz_ent zP_51 1 = (0, za_const (.int (Int32.ofNat 6)) 3)) (ze_const)
  replace b := zz_fw b T (rfl : zz_ent zP_51 3 = (0, za_icmp_eq 29 6)) (ze_icmp_eq_f h0)
  replace b := zz_fw b T (rfl : zz_ent zP_51 6 = (0, za_iload 1 7)) (ze_iload rfl)
  replace b := zz_fw b T (rfl : zz_ent zP_51 7 = (0, za_if_lt 18 10)) (ze_if_lt_t h)
  exact zz_MX_B rfl rfl rfl rfl (by decide +kernel) (zz_lb rfl) (zz_TX_B b (zth_51_18 hl hP hE (by omega) (zz_lb rfl) zs3 (by decide +kernel)))
theorem zX_unitOf_g {l : Launch} {D : va_G} {cy : Nat → ClassId} {z0 : Nat} {sp : Nat → Nat} {G : State → Prop} {d : Nat} (hG : zz_GF z0 G) (hP : ∀ U, G U → zz_GD zS zS2 zLg z0 sp U) (hl : l.stackTraces = false) (hE : ∀ U, G U → zGX z0 U) {p0 : Int32} (h0 : ¬ p0 = Int32.ofNat 6) (h : ¬ p0 < 0) : zz_MX l zTs D zcl zFK cy z0 sp (zTys cy) G zYN zCN zMQ zRT (d + 6) 51 [.ref 0, .int p0] zW3 "java/util/NoSuchElementException" (zz_pu zW3 (3, 16, 0, 0) 6) := by
  have T := zt_51 (l := l) (D := D) (cy := cy) (z0 := z0) (sp := sp) (G := G) (d := (d + 5)) zz_k0_KS hG hP
  have TK := fun (K : zz_K) (h : zz_KS l D zcl zFK cy z0 sp (zTys cy) G zYN (fun y => Cond.code (zYN y) (zCN y) (zMQ y) (zRT y) :: zTs) (d + 5) K) => zt_51 h hG hP
  have b := zz_B_rf (l := l) (Ts := zTs) (D := D) (cl := zcl) (fk := zFK) (cy := cy) (z0 := z0) (sp := sp) (tys := zTys cy) (G := G) (own := "ToolMill") (mn := "unitOf") (nL := 2) (cc := prog_1_method_27_code) (d := (d + 5)) ((0, [(0, .ref 0), (1, .int p0)], [], zW3) : zz_F)
  replace b := zz_fw b T (rfl : zz_ent zP_51 0 = (0, za_iload 1 1)) (ze_iload rfl)
  replace b := zz_fw b T (rfl : zz_ent zP_51 1 = (0, za_const (.int (Int32.ofNat 6)) 3)) (ze_const)
  replace b := zz_fw b T (rfl : zz_ent zP_51 3 = (0, za_icmp_eq 29 6)) (ze_icmp_eq_f h0)
  replace b := zz_fw b T (rfl : zz_ent zP_51 6 = (0, za_iload 1 7)) (ze_iload rfl)
  replace b := zz_fw b T (rfl : zz_ent zP_51 7 = (0, za_if_lt 18 10)) (ze_if_lt_f h)
  replace b := zz_fw b T (rfl : zz_ent zP_51 10 = (0, za_iload 1 11)) (ze_iload rfl)
  replace b := zz_fw b T (rfl : zz_ent zP_51 11 = (0, za_aload 0 12)) (ze_aload rfl)
  replace b := zz_fw b T (rfl : zz_ent zP_51 12 = (0, za_getI 1 3 15)) (ze_getI zh_0 (by decide) (congrArg Int32.ofNat zv_0_3))
  replace b := zz_fw b T (rfl : zz_ent zP_51 15 = (0, za_icmp_lt 29 18)) (ze_icmp_lt_f h)
  exact zz_MX_B rfl rfl rfl rfl (by decide +kernel) (zz_lb rfl) (zz_TX_B b (zth_51_18 hl hP hE (by omega) (zz_lb rfl) zs3 (by decide +kernel)))
theorem zX_unitOf {l : Launch} {D : va_G} {cy : Nat → ClassId} {z0 : Nat} {sp : Nat → Nat} {G : State → Prop} {d : Nat} (hG : zz_GF z0 G) (hP : ∀ U, G U → zz_GD zS zS2 zLg z0 sp U) (hl : l.stackTraces = false) (hE : ∀ U, G U → zGX z0 U) {p0 : Int32} (h0 : ¬ p0 = Int32.ofNat 6) : zz_MX l zTs D zcl zFK cy z0 sp (zTys cy) G zYN zCN zMQ zRT (d + 6) 51 [.ref 0, .int p0] zW3 "java/util/NoSuchElementException" (zz_pu zW3 (3, 16, 0, 0) 6) := by
  by_cases h : p0 < 0
  · exact zX_unitOf_l hG hP hl hE h0 h
  · exact zX_unitOf_g hG hP hl hE h0 h
theorem zXc_typed_n {l : Launch} {D : va_G} {cy : Nat → ClassId} {z0 : Nat} {sp : Nat → Nat} {G : State → Prop} {d : Nat} (hG : zz_GF z0 G) (hP : ∀ U, G U → zz_GD zS zS2 zLg z0 sp U) (hl : l.stackTraces = false) (hE : ∀ U, G U → zGX z0 U) {p0 p1 : Int32} (h0 : ¬ p0 = Int32.ofNat 6) : zz_MX l zTs D zcl zFK cy z0 sp (zTys cy) G zYN zCN zMQ zRT (d + 7) 11 [.ref 0, .int p0, .int p1] zW3 "java/util/NoSuchElementException" (zz_pu zW3 (3, 16, 0, 0) 6) := by
  have T := zt_11 (l := l) (D := D) (cy := cy) (z0 := z0) (sp := sp) (G := G) (d := (d + 6)) zz_k0_KS hG hP
  have TK := fun (K : zz_K) (h : zz_KS l D zcl zFK cy z0 sp (zTys cy) G zYN (fun y => Cond.code (zYN y) (zCN y) (zMQ y) (zRT y) :: zTs) (d + 6) K) => zt_11 h hG hP
  have b := zz_B_rf (l := l) (Ts := zTs) (D := D) (cl := zcl) (fk := zFK) (cy := cy) (z0 := z0) (sp := sp) (tys := zTys cy) (G := G) (own := "ToolMill") (mn := "typed") (nL := 4) (cc := prog_1_method_8_code) (d := (d + 6)) ((0, [(0, .ref 0), (1, .int p0), (2, .int p1)], [], zW3) : zz_F)
  replace b := zz_fw b T (rfl : zz_ent zP_11 0 = (0, za_aload 0 1)) (ze_aload rfl)
  replace b := zz_fw b T (rfl : zz_ent zP_11 1 = (0, za_iload 1 2)) (ze_iload rfl)
  exact zz_MX_B rfl rfl rfl rfl (by decide +kernel) (zz_lb rfl) (zz_TX_B b (zxc_11_2 (b := 0) (as := [.int p0]) (r := []) hG (zX_unitOf hG hP hl hE h0) rfl (zz_has_c zh_0) (zz_lb rfl)))
theorem zXc_unit_n {l : Launch} {D : va_G} {cy : Nat → ClassId} {z0 : Nat} {sp : Nat → Nat} {G : State → Prop} {d : Nat} (hG : zz_GF z0 G) (hP : ∀ U, G U → zz_GD zS zS2 zLg z0 sp U) (hl : l.stackTraces = false) (hE : ∀ U, G U → zGX z0 U) {p0 p1 : Int32} (h0 : ¬ p0 = Int32.ofNat 6) : zz_MX l zTs D zcl zFK cy z0 sp (zTys cy) G zYN zCN zMQ zRT (d + 7) 12 [.ref 0, .int p0, .int p1] zW3 "java/util/NoSuchElementException" (zz_pu zW3 (3, 16, 0, 0) 6) := by
  have T := zt_12 (l := l) (D := D) (cy := cy) (z0 := z0) (sp := sp) (G := G) (d := (d + 6)) zz_k0_KS hG hP
  have TK := fun (K : zz_K) (h : zz_KS l D zcl zFK cy z0 sp (zTys cy) G zYN (fun y => Cond.code (zYN y) (zCN y) (zMQ y) (zRT y) :: zTs) (d + 6) K) => zt_12 h hG hP
  have b := zz_B_rf (l := l) (Ts := zTs) (D := D) (cl := zcl) (fk := zFK) (cy := cy) (z0 := z0) (sp := sp) (tys := zTys cy) (G := G) (own := "ToolMill") (mn := "unit") (nL := 4) (cc := prog_1_method_9_code) (d := (d + 6)) ((0, [(0, .ref 0), (1, .int p0), (2, .int p1)], [], zW3) : zz_F)
  replace b := zz_fw b T (rfl : zz_ent zP_12 0 = (0, za_aload 0 1)) (ze_aload rfl)
  replace b := zz_fw b T (rfl : zz_ent zP_12 1 = (0, za_iload 1 2)) (ze_iload rfl)
  exact zz_MX_B rfl rfl rfl rfl (by decide +kernel) (zz_lb rfl) (zz_TX_B b (zxc_12_2 (b := 0) (as := [.int p0]) (r := []) hG (zX_unitOf hG hP hl hE h0) rfl (zz_has_c zh_0) (zz_lb rfl)))
theorem zXc_section_n {l : Launch} {D : va_G} {cy : Nat → ClassId} {z0 : Nat} {sp : Nat → Nat} {G : State → Prop} {d : Nat} (hG : zz_GF z0 G) (hP : ∀ U, G U → zz_GD zS zS2 zLg z0 sp U) (hl : l.stackTraces = false) (hE : ∀ U, G U → zGX z0 U) {p0 p1 p2 : Int32} (h0 : ¬ p0 = Int32.ofNat 6) : zz_MX l zTs D zcl zFK cy z0 sp (zTys cy) G zYN zCN zMQ zRT (d + 7) 13 [.ref 0, .int p0, .int p1, .int p2] zW3 "java/util/NoSuchElementException" (zz_pu zW3 (3, 16, 0, 0) 6) := by
  have T := zt_13 (l := l) (D := D) (cy := cy) (z0 := z0) (sp := sp) (G := G) (d := (d + 6)) zz_k0_KS hG hP
  have TK := fun (K : zz_K) (h : zz_KS l D zcl zFK cy z0 sp (zTys cy) G zYN (fun y => Cond.code (zYN y) (zCN y) (zMQ y) (zRT y) :: zTs) (d + 6) K) => zt_13 h hG hP
  have b := zz_B_rf (l := l) (Ts := zTs) (D := D) (cl := zcl) (fk := zFK) (cy := cy) (z0 := z0) (sp := sp) (tys := zTys cy) (G := G) (own := "ToolMill") (mn := "section") (nL := 6) (cc := prog_1_method_10_code) (d := (d + 6)) ((0, [(0, .ref 0), (1, .int p0), (2, .int p1), (3, .int p2)], [], zW3) : zz_F)
  replace b := zz_fw b T (rfl : zz_ent zP_13 0 = (0, za_aload 0 1)) (ze_aload rfl)
  replace b := zz_fw b T (rfl : zz_ent zP_13 1 = (0, za_iload 1 2)) (ze_iload rfl)
  exact zz_MX_B rfl rfl rfl rfl (by decide +kernel) (zz_lb rfl) (zz_TX_B b (zxc_13_2 (b := 0) (as := [.int p0]) (r := []) hG (zX_unitOf hG hP hl hE h0) rfl (zz_has_c zh_0) (zz_lb rfl)))
theorem zXc_byteOf_n {l : Launch} {D : va_G} {cy : Nat → ClassId} {z0 : Nat} {sp : Nat → Nat} {G : State → Prop} {d : Nat} (hG : zz_GF z0 G) (hP : ∀ U, G U → zz_GD zS zS2 zLg z0 sp U) (hl : l.stackTraces = false) (hE : ∀ U, G U → zGX z0 U) {p0 p1 p2 : Int32} (h0 : ¬ p0 = Int32.ofNat 6) : zz_MX l zTs D zcl zFK cy z0 sp (zTys cy) G zYN zCN zMQ zRT (d + 7) 14 [.ref 0, .int p0, .int p1, .int p2] zW3 "java/util/NoSuchElementException" (zz_pu zW3 (3, 16, 0, 0) 6) := by
  have T := zt_14 (l := l) (D := D) (cy := cy) (z0 := z0) (sp := sp) (G := G) (d := (d + 6)) zz_k0_KS hG hP
  have TK := fun (K : zz_K) (h : zz_KS l D zcl zFK cy z0 sp (zTys cy) G zYN (fun y => Cond.code (zYN y) (zCN y) (zMQ y) (zRT y) :: zTs) (d + 6) K) => zt_14 h hG hP
  have b := zz_B_rf (l := l) (Ts := zTs) (D := D) (cl := zcl) (fk := zFK) (cy := cy) (z0 := z0) (sp := sp) (tys := zTys cy) (G := G) (own := "ToolMill") (mn := "byteOf") (nL := 7) (cc := prog_1_method_11_code) (d := (d + 6)) ((0, [(0, .ref 0), (1, .int p0), (2, .int p1), (3, .int p2)], [], zW3) : zz_F)
  replace b := zz_fw b T (rfl : zz_ent zP_14 0 = (0, za_aload 0 1)) (ze_aload rfl)
  replace b := zz_fw b T (rfl : zz_ent zP_14 1 = (0, za_iload 1 2)) (ze_iload rfl)
  exact zz_MX_B rfl rfl rfl rfl (by decide +kernel) (zz_lb rfl) (zz_TX_B b (zxc_14_2 (b := 0) (as := [.int p0]) (r := []) hG (zX_unitOf hG hP hl hE h0) rfl (zz_has_c zh_0) (zz_lb rfl)))
theorem zXc_label_n {l : Launch} {D : va_G} {cy : Nat → ClassId} {z0 : Nat} {sp : Nat → Nat} {G : State → Prop} {d : Nat} (hG : zz_GF z0 G) (hP : ∀ U, G U → zz_GD zS zS2 zLg z0 sp U) (hl : l.stackTraces = false) (hE : ∀ U, G U → zGX z0 U) {p0 p1 p2 : Int32} (h0 : ¬ p0 = Int32.ofNat 6) : zz_MX l zTs D zcl zFK cy z0 sp (zTys cy) G zYN zCN zMQ zRT (d + 7) 15 [.ref 0, .int p0, .int p1, .int p2] zW3 "java/util/NoSuchElementException" (zz_pu zW3 (3, 16, 0, 0) 6) := by
  have T := zt_15 (l := l) (D := D) (cy := cy) (z0 := z0) (sp := sp) (G := G) (d := (d + 6)) zz_k0_KS hG hP
  have TK := fun (K : zz_K) (h : zz_KS l D zcl zFK cy z0 sp (zTys cy) G zYN (fun y => Cond.code (zYN y) (zCN y) (zMQ y) (zRT y) :: zTs) (d + 6) K) => zt_15 h hG hP
  have b := zz_B_rf (l := l) (Ts := zTs) (D := D) (cl := zcl) (fk := zFK) (cy := cy) (z0 := z0) (sp := sp) (tys := zTys cy) (G := G) (own := "ToolMill") (mn := "label") (nL := 6) (cc := prog_1_method_12_code) (d := (d + 6)) ((0, [(0, .ref 0), (1, .int p0), (2, .int p1), (3, .int p2)], [], zW3) : zz_F)
  replace b := zz_fw b T (rfl : zz_ent zP_15 0 = (0, za_aload 0 1)) (ze_aload rfl)
  replace b := zz_fw b T (rfl : zz_ent zP_15 1 = (0, za_iload 1 2)) (ze_iload rfl)
  exact zz_MX_B rfl rfl rfl rfl (by decide +kernel) (zz_lb rfl) (zz_TX_B b (zxc_15_2 (b := 0) (as := [.int p0]) (r := []) hG (zX_unitOf hG hP hl hE h0) rfl (zz_has_c zh_0) (zz_lb rfl)))
theorem zXc_relocation_n {l : Launch} {D : va_G} {cy : Nat → ClassId} {z0 : Nat} {sp : Nat → Nat} {G : State → Prop} {d : Nat} (hG : zz_GF z0 G) (hP : ∀ U, G U → zz_GD zS zS2 zLg z0 sp U) (hl : l.stackTraces = false) (hE : ∀ U, G U → zGX z0 U) {p0 p1 p2 : Int32} (h0 : ¬ p0 = Int32.ofNat 6) : zz_MX l zTs D zcl zFK cy z0 sp (zTys cy) G zYN zCN zMQ zRT (d + 7) 16 [.ref 0, .int p0, .int p1, .int p2] zW3 "java/util/NoSuchElementException" (zz_pu zW3 (3, 16, 0, 0) 6) := by
  have T := zt_16 (l := l) (D := D) (cy := cy) (z0 := z0) (sp := sp) (G := G) (d := (d + 6)) zz_k0_KS hG hP
  have TK := fun (K : zz_K) (h : zz_KS l D zcl zFK cy z0 sp (zTys cy) G zYN (fun y => Cond.code (zYN y) (zCN y) (zMQ y) (zRT y) :: zTs) (d + 6) K) => zt_16 h hG hP
  have b := zz_B_rf (l := l) (Ts := zTs) (D := D) (cl := zcl) (fk := zFK) (cy := cy) (z0 := z0) (sp := sp) (tys := zTys cy) (G := G) (own := "ToolMill") (mn := "relocation") (nL := 6) (cc := prog_1_method_13_code) (d := (d + 6)) ((0, [(0, .ref 0), (1, .int p0), (2, .int p1), (3, .int p2)], [], zW3) : zz_F)
  replace b := zz_fw b T (rfl : zz_ent zP_16 0 = (0, za_aload 0 1)) (ze_aload rfl)
  replace b := zz_fw b T (rfl : zz_ent zP_16 1 = (0, za_iload 1 2)) (ze_iload rfl)
  exact zz_MX_B rfl rfl rfl rfl (by decide +kernel) (zz_lb rfl) (zz_TX_B b (zxc_16_2 (b := 0) (as := [.int p0]) (r := []) hG (zX_unitOf hG hP hl hE h0) rfl (zz_has_c zh_0) (zz_lb rfl)))
theorem zXc_typed_6 {l : Launch} {D : va_G} {cy : Nat → ClassId} {z0 : Nat} {sp : Nat → Nat} {G : State → Prop} {d : Nat} (hG : zz_GF z0 G) (hP : ∀ U, G U → zz_GD zS zS2 zLg z0 sp U) (hl : l.stackTraces = false) (hE : ∀ U, G U → zGX z0 U) {p1 : Int32} : zz_MX l zTs D zcl zFK cy z0 sp (zTys cy) G zYN zCN zMQ zRT (d + 6) 11 [.ref 0, .int (Int32.ofNat 6), .int p1] zW3 "java/util/NoSuchElementException" (zz_pu zW3 (3, 16, 0, 0) 6) := by
  have T := zt_11 (l := l) (D := D) (cy := cy) (z0 := z0) (sp := sp) (G := G) (d := (d + 5)) zz_k0_KS hG hP
  have TK := fun (K : zz_K) (h : zz_KS l D zcl zFK cy z0 sp (zTys cy) G zYN (fun y => Cond.code (zYN y) (zCN y) (zMQ y) (zRT y) :: zTs) (d + 5) K) => zt_11 h hG hP
  have b := zz_B_rf (l := l) (Ts := zTs) (D := D) (cl := zcl) (fk := zFK) (cy := cy) (z0 := z0) (sp := sp) (tys := zTys cy) (G := G) (own := "ToolMill") (mn := "typed") (nL := 4) (cc := prog_1_method_8_code) (d := (d + 5)) ((0, [(0, .ref 0), (1, .int (Int32.ofNat 6)), (2, .int p1)], [], zW3) : zz_F)
  replace b := zz_fw b T (rfl : zz_ent zP_11 0 = (0, za_aload 0 1)) (ze_aload rfl)
  replace b := zz_fw b T (rfl : zz_ent zP_11 1 = (0, za_iload 1 2)) (ze_iload rfl)
  replace b := zz_fVi b TK (rfl : zz_ent zP_11 2 = (0, za_callV 1 51 1 5)) (zM_unitOf hG hP) rfl rfl (zz_has_c zh_0) (zz_lb rfl)
  replace b := zz_fw b T (rfl : zz_ent zP_11 5 = (0, za_astore 3 6)) (ze_astore (lv' := [(0, _), (1, _), (2, _)]) rfl)
  replace b := zz_fw b T (rfl : zz_ent zP_11 6 = (0, za_aload 3 7)) (ze_aload rfl)
  replace b := zz_fw b T (rfl : zz_ent zP_11 7 = (0, za_getI 12 0 10)) (ze_getI zh_161 (by decide) (congrArg Int32.ofNat zv_161_0))
  replace b := zz_fw b T (rfl : zz_ent zP_11 10 = (0, za_if_eq 24 13)) (ze_if_eq_t (by decide))
  exact zz_MX_B rfl rfl rfl rfl (by decide +kernel) (zz_lb rfl) (zz_TX_B b (zth_11_24 hl hP hE (by omega) (zz_lb rfl) zs3 (by decide +kernel)))
theorem zXc_unit_w {l : Launch} {D : va_G} {cy : Nat → ClassId} {z0 : Nat} {sp : Nat → Nat} {G : State → Prop} {d : Nat} (hG : zz_GF z0 G) (hP : ∀ U, G U → zz_GD zS zS2 zLg z0 sp U) (hl : l.stackTraces = false) (hE : ∀ U, G U → zGX z0 U) {p1 : Int32} (h : p1.toInt < 0 ∨ 4 < p1.toInt) : zz_MX l zTs D zcl zFK cy z0 sp (zTys cy) G zYN zCN zMQ zRT (d + 6) 12 [.ref 0, .int (Int32.ofNat 6), .int p1] zW3 "java/lang/IllegalArgumentException" (zz_pu zW3 (3, 14, 0, 0) 6) := by
  have T := zt_12 (l := l) (D := D) (cy := cy) (z0 := z0) (sp := sp) (G := G) (d := (d + 5)) zz_k0_KS hG hP
  have TK := fun (K : zz_K) (h : zz_KS l D zcl zFK cy z0 sp (zTys cy) G zYN (fun y => Cond.code (zYN y) (zCN y) (zMQ y) (zRT y) :: zTs) (d + 5) K) => zt_12 h hG hP
  have b := zz_B_rf (l := l) (Ts := zTs) (D := D) (cl := zcl) (fk := zFK) (cy := cy) (z0 := z0) (sp := sp) (tys := zTys cy) (G := G) (own := "ToolMill") (mn := "unit") (nL := 4) (cc := prog_1_method_9_code) (d := (d + 5)) ((0, [(0, .ref 0), (1, .int (Int32.ofNat 6)), (2, .int p1)], [], zW3) : zz_F)
  replace b := zz_fw b T (rfl : zz_ent zP_12 0 = (0, za_aload 0 1)) (ze_aload rfl)
  replace b := zz_fw b T (rfl : zz_ent zP_12 1 = (0, za_iload 1 2)) (ze_iload rfl)
  replace b := zz_fVi b TK (rfl : zz_ent zP_12 2 = (0, za_callV 1 51 1 5)) (zM_unitOf hG hP) rfl rfl (zz_has_c zh_0) (zz_lb rfl)
  replace b := zz_fw b T (rfl : zz_ent zP_12 5 = (0, za_astore 3 6)) (ze_astore (lv' := [(0, _), (1, _), (2, _)]) rfl)
  replace b := zz_fw b T (rfl : zz_ent zP_12 6 = (0, za_iload 2 7)) (ze_iload rfl)
  replace b := zz_fw b T (rfl : zz_ent zP_12 7 = (0, za_tsw (0) (4) 73 [40, 53, 58, 63, 68])) (ze_tsw_d h)
  exact zz_MX_B rfl rfl rfl rfl (by decide +kernel) (zz_lb rfl) (zz_TX_B b (zth_12_73 hl hP hE (by omega) (zz_lb rfl) zs3 (by decide +kernel)))
theorem zXc_section_i {l : Launch} {D : va_G} {cy : Nat → ClassId} {z0 : Nat} {sp : Nat → Nat} {G : State → Prop} {d : Nat} (hG : zz_GF z0 G) (hP : ∀ U, G U → zz_GD zS zS2 zLg z0 sp U) (hl : l.stackTraces = false) (hE : ∀ U, G U → zGX z0 U) {p1 p2 : Int32} (h : p1 < 0) : zz_MX l zTs D zcl zFK cy z0 sp (zTys cy) G zYN zCN zMQ zRT (d + 6) 13 [.ref 0, .int (Int32.ofNat 6), .int p1, .int p2] zW3 "java/util/NoSuchElementException" (zz_pu zW3 (3, 16, 0, 0) 6) := by
  have T := zt_13 (l := l) (D := D) (cy := cy) (z0 := z0) (sp := sp) (G := G) (d := (d + 5)) zz_k0_KS hG hP
  have TK := fun (K : zz_K) (h : zz_KS l D zcl zFK cy z0 sp (zTys cy) G zYN (fun y => Cond.code (zYN y) (zCN y) (zMQ y) (zRT y) :: zTs) (d + 5) K) => zt_13 h hG hP
  have b := zz_B_rf (l := l) (Ts := zTs) (D := D) (cl := zcl) (fk := zFK) (cy := cy) (z0 := z0) (sp := sp) (tys := zTys cy) (G := G) (own := "ToolMill") (mn := "section") (nL := 6) (cc := prog_1_method_10_code) (d := (d + 5)) ((0, [(0, .ref 0), (1, .int (Int32.ofNat 6)), (2, .int p1), (3, .int p2)], [], zW3) : zz_F)
  replace b := zz_fw b T (rfl : zz_ent zP_13 0 = (0, za_aload 0 1)) (ze_aload rfl)
  replace b := zz_fw b T (rfl : zz_ent zP_13 1 = (0, za_iload 1 2)) (ze_iload rfl)
  replace b := zz_fVi b TK (rfl : zz_ent zP_13 2 = (0, za_callV 1 51 1 5)) (zM_unitOf hG hP) rfl rfl (zz_has_c zh_0) (zz_lb rfl)
  replace b := zz_fw b T (rfl : zz_ent zP_13 5 = (0, za_astore 4 7)) (ze_astore (lv' := [(0, _), (1, _), (2, _), (3, _)]) rfl)
  replace b := zz_fw b T (rfl : zz_ent zP_13 7 = (0, za_iload 2 8)) (ze_iload rfl)
  replace b := zz_fw b T (rfl : zz_ent zP_13 8 = (0, za_if_lt 20 11)) (ze_if_lt_t h)
  exact zz_MX_B rfl rfl rfl rfl (by decide +kernel) (zz_lb rfl) (zz_TX_B b (zth_13_20 hl hP hE (by omega) (zz_lb rfl) zs3 (by decide +kernel)))
theorem zXc_section_j {l : Launch} {D : va_G} {cy : Nat → ClassId} {z0 : Nat} {sp : Nat → Nat} {G : State → Prop} {d : Nat} (hG : zz_GF z0 G) (hP : ∀ U, G U → zz_GD zS zS2 zLg z0 sp U) (hl : l.stackTraces = false) (hE : ∀ U, G U → zGX z0 U) {p1 p2 : Int32} (h1 : ¬ p1 < 0) (h2 : ¬ p1 < (Int32.ofNat 3)) : zz_MX l zTs D zcl zFK cy z0 sp (zTys cy) G zYN zCN zMQ zRT (d + 6) 13 [.ref 0, .int (Int32.ofNat 6), .int p1, .int p2] zW3 "java/util/NoSuchElementException" (zz_pu zW3 (3, 16, 0, 0) 6) := by
  have T := zt_13 (l := l) (D := D) (cy := cy) (z0 := z0) (sp := sp) (G := G) (d := (d + 5)) zz_k0_KS hG hP
  have TK := fun (K : zz_K) (h : zz_KS l D zcl zFK cy z0 sp (zTys cy) G zYN (fun y => Cond.code (zYN y) (zCN y) (zMQ y) (zRT y) :: zTs) (d + 5) K) => zt_13 h hG hP
  have b := zz_B_rf (l := l) (Ts := zTs) (D := D) (cl := zcl) (fk := zFK) (cy := cy) (z0 := z0) (sp := sp) (tys := zTys cy) (G := G) (own := "ToolMill") (mn := "section") (nL := 6) (cc := prog_1_method_10_code) (d := (d + 5)) ((0, [(0, .ref 0), (1, .int (Int32.ofNat 6)), (2, .int p1), (3, .int p2)], [], zW3) : zz_F)
  replace b := zz_fw b T (rfl : zz_ent zP_13 0 = (0, za_aload 0 1)) (ze_aload rfl)
  replace b := zz_fw b T (rfl : zz_ent zP_13 1 = (0, za_iload 1 2)) (ze_iload rfl)
  replace b := zz_fVi b TK (rfl : zz_ent zP_13 2 = (0, za_callV 1 51 1 5)) (zM_unitOf hG hP) rfl rfl (zz_has_c zh_0) (zz_lb rfl)
  replace b := zz_fw b T (rfl : zz_ent zP_13 5 = (0, za_astore 4 7)) (ze_astore (lv' := [(0, _), (1, _), (2, _), (3, _)]) rfl)
  replace b := zz_fw b T (rfl : zz_ent zP_13 7 = (0, za_iload 2 8)) (ze_iload rfl)
  replace b := zz_fw b T (rfl : zz_ent zP_13 8 = (0, za_if_lt 20 11)) (ze_if_lt_f h1)
  replace b := zz_fw b T (rfl : zz_ent zP_13 11 = (0, za_iload 2 12)) (ze_iload rfl)
  replace b := zz_fw b T (rfl : zz_ent zP_13 12 = (0, za_aload 4 14)) (ze_aload rfl)
  replace b := zz_fw b T (rfl : zz_ent zP_13 14 = (0, za_getI 12 6 17)) (ze_getI zh_161 (by decide) (congrArg Int32.ofNat zv_161_6))
  replace b := zz_fw b T (rfl : zz_ent zP_13 17 = (0, za_icmp_lt 30 20)) (ze_icmp_lt_f h2)
  exact zz_MX_B rfl rfl rfl rfl (by decide +kernel) (zz_lb rfl) (zz_TX_B b (zth_13_20 hl hP hE (by omega) (zz_lb rfl) zs3 (by decide +kernel)))
theorem zXc_label_i {l : Launch} {D : va_G} {cy : Nat → ClassId} {z0 : Nat} {sp : Nat → Nat} {G : State → Prop} {d : Nat} (hG : zz_GF z0 G) (hP : ∀ U, G U → zz_GD zS zS2 zLg z0 sp U) (hl : l.stackTraces = false) (hE : ∀ U, G U → zGX z0 U) {p1 p2 : Int32} (h : p1 < 0) : zz_MX l zTs D zcl zFK cy z0 sp (zTys cy) G zYN zCN zMQ zRT (d + 6) 15 [.ref 0, .int (Int32.ofNat 6), .int p1, .int p2] zW3 "java/util/NoSuchElementException" (zz_pu zW3 (3, 16, 0, 0) 6) := by
  have T := zt_15 (l := l) (D := D) (cy := cy) (z0 := z0) (sp := sp) (G := G) (d := (d + 5)) zz_k0_KS hG hP
  have TK := fun (K : zz_K) (h : zz_KS l D zcl zFK cy z0 sp (zTys cy) G zYN (fun y => Cond.code (zYN y) (zCN y) (zMQ y) (zRT y) :: zTs) (d + 5) K) => zt_15 h hG hP
  have b := zz_B_rf (l := l) (Ts := zTs) (D := D) (cl := zcl) (fk := zFK) (cy := cy) (z0 := z0) (sp := sp) (tys := zTys cy) (G := G) (own := "ToolMill") (mn := "label") (nL := 6) (cc := prog_1_method_12_code) (d := (d + 5)) ((0, [(0, .ref 0), (1, .int (Int32.ofNat 6)), (2, .int p1), (3, .int p2)], [], zW3) : zz_F)
  replace b := zz_fw b T (rfl : zz_ent zP_15 0 = (0, za_aload 0 1)) (ze_aload rfl)
  replace b := zz_fw b T (rfl : zz_ent zP_15 1 = (0, za_iload 1 2)) (ze_iload rfl)
  replace b := zz_fVi b TK (rfl : zz_ent zP_15 2 = (0, za_callV 1 51 1 5)) (zM_unitOf hG hP) rfl rfl (zz_has_c zh_0) (zz_lb rfl)
  replace b := zz_fw b T (rfl : zz_ent zP_15 5 = (0, za_astore 4 7)) (ze_astore (lv' := [(0, _), (1, _), (2, _), (3, _)]) rfl)
  replace b := zz_fw b T (rfl : zz_ent zP_15 7 = (0, za_iload 2 8)) (ze_iload rfl)
  replace b := zz_fw b T (rfl : zz_ent zP_15 8 = (0, za_if_lt 20 11)) (ze_if_lt_t h)
  exact zz_MX_B rfl rfl rfl rfl (by decide +kernel) (zz_lb rfl) (zz_TX_B b (zth_15_20 hl hP hE (by omega) (zz_lb rfl) zs3 (by decide +kernel)))
theorem zXc_label_j {l : Launch} {D : va_G} {cy : Nat → ClassId} {z0 : Nat} {sp : Nat → Nat} {G : State → Prop} {d : Nat} (hG : zz_GF z0 G) (hP : ∀ U, G U → zz_GD zS zS2 zLg z0 sp U) (hl : l.stackTraces = false) (hE : ∀ U, G U → zGX z0 U) {p1 p2 : Int32} (h1 : ¬ p1 < 0) (h2 : ¬ p1 < (Int32.ofNat 4)) : zz_MX l zTs D zcl zFK cy z0 sp (zTys cy) G zYN zCN zMQ zRT (d + 6) 15 [.ref 0, .int (Int32.ofNat 6), .int p1, .int p2] zW3 "java/util/NoSuchElementException" (zz_pu zW3 (3, 16, 0, 0) 6) := by
  have T := zt_15 (l := l) (D := D) (cy := cy) (z0 := z0) (sp := sp) (G := G) (d := (d + 5)) zz_k0_KS hG hP
  have TK := fun (K : zz_K) (h : zz_KS l D zcl zFK cy z0 sp (zTys cy) G zYN (fun y => Cond.code (zYN y) (zCN y) (zMQ y) (zRT y) :: zTs) (d + 5) K) => zt_15 h hG hP
  have b := zz_B_rf (l := l) (Ts := zTs) (D := D) (cl := zcl) (fk := zFK) (cy := cy) (z0 := z0) (sp := sp) (tys := zTys cy) (G := G) (own := "ToolMill") (mn := "label") (nL := 6) (cc := prog_1_method_12_code) (d := (d + 5)) ((0, [(0, .ref 0), (1, .int (Int32.ofNat 6)), (2, .int p1), (3, .int p2)], [], zW3) : zz_F)
  replace b := zz_fw b T (rfl : zz_ent zP_15 0 = (0, za_aload 0 1)) (ze_aload rfl)
  replace b := zz_fw b T (rfl : zz_ent zP_15 1 = (0, za_iload 1 2)) (ze_iload rfl)
  replace b := zz_fVi b TK (rfl : zz_ent zP_15 2 = (0, za_callV 1 51 1 5)) (zM_unitOf hG hP) rfl rfl (zz_has_c zh_0) (zz_lb rfl)
  replace b := zz_fw b T (rfl : zz_ent zP_15 5 = (0, za_astore 4 7)) (ze_astore (lv' := [(0, _), (1, _), (2, _), (3, _)]) rfl)
  replace b := zz_fw b T (rfl : zz_ent zP_15 7 = (0, za_iload 2 8)) (ze_iload rfl)
  replace b := zz_fw b T (rfl : zz_ent zP_15 8 = (0, za_if_lt 20 11)) (ze_if_lt_f h1)
  replace b := zz_fw b T (rfl : zz_ent zP_15 11 = (0, za_iload 2 12)) (ze_iload rfl)
  replace b := zz_fw b T (rfl : zz_ent zP_15 12 = (0, za_aload 4 14)) (ze_aload rfl)
  replace b := zz_fw b T (rfl : zz_ent zP_15 14 = (0, za_getI 12 9 17)) (ze_getI zh_161 (by decide) (congrArg Int32.ofNat zv_161_9))
  replace b := zz_fw b T (rfl : zz_ent zP_15 17 = (0, za_icmp_lt 30 20)) (ze_icmp_lt_f h2)
  exact zz_MX_B rfl rfl rfl rfl (by decide +kernel) (zz_lb rfl) (zz_TX_B b (zth_15_20 hl hP hE (by omega) (zz_lb rfl) zs3 (by decide +kernel)))
