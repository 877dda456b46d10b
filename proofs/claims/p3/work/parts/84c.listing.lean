/-! the listing's methods at the law's depth -/
theorem zSL_n_M {l : Launch} {D : va_G} {cy : Nat → ClassId} {z0 : Nat} {sp : Nat → Nat} {G : State → Prop} (hG : zz_GF z0 G) (hP : ∀ U, G U → zz_GD zS zS2 zLg z0 sp U) (hsp : sp 18446744073709551616 = 0) {W0 w : zz_W} {v0 N0 M0 c0 n0 : Nat} (r0 : zBr W0 v0 N0 M0 c0 w) (hn0 : zz_at 64 M0 3 = n0) (h64 : n0 < 64) {p0 : Int32} (hn : ∀ f, ¬ zcK p0 f) {k : Nat} (h2 : k < 2 ^ 31) : ∃ w', zz_M l zTs D zcl zFK cy z0 sp (zTys cy) G zYN zCN zMQ zRT 468 72 [.ref 12, .int p0, .int (Int32.ofNat k)] w [.int (zPk ([46, 119, 111, 114, 100, 32] ++ zdc p0 ++ [10]) k)] w' ∧ zB W0 ([46, 119, 111, 114, 100, 32] ++ zdc p0 ++ [10]) w' := by
  obtain ⟨w1, b, hB⟩ := zS_n (d := 456) (l := l) (D := D) (cy := cy) (sp := sp) (p1 := Int32.ofNat k) hG hP hsp r0 hn0 h64 hn
  refine ⟨w1, ?_, hB⟩
  unfold zPk
  split
  · rename_i hk
    exact zz_M_B (yn := zYN) (cn := zCN) (ml := zMQ) (rt := zRT) (y := 72) (as := [.ref 12, .int p0, .int (Int32.ofNat k)]) rfl rfl rfl rfl rfl (by decide +kernel) (zz_lb rfl) (zz_lb rfl) (zz_end_i (zr_72.2.1 89 rfl).1) (zz_B_tr b (zS_i (d := 456) hG hP hsp hB h2 hk))
  · rename_i hk
    exact zz_M_B (yn := zYN) (cn := zCN) (ml := zMQ) (rt := zRT) (y := 72) (as := [.ref 12, .int p0, .int (Int32.ofNat k)]) rfl rfl rfl rfl rfl (by decide +kernel) (zz_lb rfl) (zz_lb rfl) (zz_end_i (zr_72.2.1 89 rfl).1) (zz_B_tr b (zS_o (d := 456) hG hP hsp hB h2 (by omega)))
theorem zSL_kn {k : Nat} (h : k < 2 ^ 31) : (0 : Int32) ≤ Int32.ofNat k := by
  rw [show (0 : Int32) = Int32.ofNat 0 from rfl, Int32.ofNat_le_iff_le (by decide) h]
  omega
theorem zMcL_n {l : Launch} {D : va_G} {cy : Nat → ClassId} {z0 : Nat} {sp : Nat → Nat} {G : State → Prop} (hG : zz_GF z0 G) (hP : ∀ U, G U → zz_GD zS zS2 zLg z0 sp U) (hsp : sp 18446744073709551616 = 0) {W0 w : zz_W} {v0 N0 M0 c0 n0 : Nat} (r0 : zBr W0 v0 N0 M0 c0 w) (hn0 : zz_at 64 M0 3 = n0) (h64 : n0 < 64) {C0 : zz_C} (h0 : zz_has w 0 (3, 1, C0.2.2.1, C0.2.2.2)) (hf0 : 11 < C0.2.2.1) (h11 : zz_at 64 C0.2.2.2 11 = 13) {p0 : Int32} (hn : ∀ f, ¬ zcK p0 f) {k : Nat} (h2 : k < 2 ^ 31) : ∃ w', zz_M l zTs D zcl zFK cy z0 sp (zTys cy) G zYN zCN zMQ zRT 469 20 [.ref 0, .int p0, .int (Int32.ofNat k)] w [.int (zPk ([46, 119, 111, 114, 100, 32] ++ zdc p0 ++ [10]) k)] w' ∧ zB W0 ([46, 119, 111, 114, 100, 32] ++ zdc p0 ++ [10]) w' := by
  have T := zt_20 (l := l) (D := D) (cy := cy) (z0 := z0) (sp := sp) (G := G) (d := 468) zz_k0_KS hG hP
  have TK := fun (K : zz_K) (h : zz_KS l D zcl zFK cy z0 sp (zTys cy) G zYN (fun y => Cond.code (zYN y) (zCN y) (zMQ y) (zRT y) :: zTs) 468 K) => zt_20 h hG hP
  have b := zz_B_rf (l := l) (Ts := zTs) (D := D) (cl := zcl) (fk := zFK) (cy := cy) (z0 := z0) (sp := sp) (tys := zTys cy) (G := G) (own := "ToolMill") (mn := "listing") (nL := 3) (cc := prog_1_method_21_code) (d := 468) ((0, [(0, .ref 0), (1, .int p0), (2, .int (Int32.ofNat k))], [], w) : zz_F)
  replace b := zz_fw b T (rfl : zz_ent zP_20 0 = (0, za_iload 2 1)) (ze_iload rfl)
  replace b := zz_fw b T (rfl : zz_ent zP_20 1 = (0, za_if_ge 14 4)) (ze_if_ge_t (zSL_kn h2))
  replace b := zz_fw b T (rfl : zz_ent zP_20 14 = (0, za_aload 0 15)) (ze_aload rfl)
  replace b := zz_fw b T (rfl : zz_ent zP_20 15 = (0, za_getA 1 11 18)) (ze_getA h0 hf0 h11)
  replace b := zz_fw b T (rfl : zz_ent zP_20 18 = (0, za_iload 1 19)) (ze_iload rfl)
  replace b := zz_fw b T (rfl : zz_ent zP_20 19 = (0, za_iload 2 20)) (ze_iload rfl)
  obtain ⟨w1, hM1, hB1⟩ := zSL_n_M (l := l) (D := D) (cy := cy) (sp := sp) hG hP hsp r0 hn0 h64 hn h2
  replace b := zz_fVi b TK (rfl : zz_ent zP_20 20 = (0, za_callV 3 72 2 23)) hM1 rfl rfl (zz_has_c (zBr_f12 r0)) (zz_lb rfl)
  have m := zz_M_B (yn := zYN) (cn := zCN) (ml := zMQ) (rt := zRT) (y := 20) (as := [.ref 0, .int p0, .int (Int32.ofNat k)]) rfl rfl rfl rfl rfl (by decide +kernel) (zz_lb rfl) (zz_lb rfl) (zz_end_i (zr_20.2.1 23 rfl).1) b
  exact ⟨_, m, hB1⟩
theorem zSL_y_M {l : Launch} {D : va_G} {cy : Nat → ClassId} {z0 : Nat} {sp : Nat → Nat} {G : State → Prop} (hG : zz_GF z0 G) (hP : ∀ U, G U → zz_GD zS zS2 zLg z0 sp U) (hsp : sp 18446744073709551616 = 0) {W0 w : zz_W} {v0 N0 M0 c0 n0 : Nat} (r0 : zBr W0 v0 N0 M0 c0 w) (hn0 : zz_at 64 M0 3 = n0) (h64 : n0 < 64) {p0 : Int32} {f : Nat} (hf : zcK p0 f) {k : Nat} (h2 : k < 2 ^ 31) : ∃ w', zz_M l zTs D zcl zFK cy z0 sp (zTys cy) G zYN zCN zMQ zRT 468 72 [.ref 12, .int p0, .int (Int32.ofNat k)] w [.int (zPk (zNc f ++ zOp (zFo f) p0 ++ [10]) k)] w' ∧ zB W0 (zNc f ++ zOp (zFo f) p0 ++ [10]) w' := by
  obtain ⟨w1, b, hB⟩ := zS_y (d := 456) (l := l) (D := D) (cy := cy) (sp := sp) (p1 := Int32.ofNat k) hG hP hsp r0 hn0 h64 hf
  refine ⟨w1, ?_, hB⟩
  unfold zPk
  split
  · rename_i hk
    exact zz_M_B (yn := zYN) (cn := zCN) (ml := zMQ) (rt := zRT) (y := 72) (as := [.ref 12, .int p0, .int (Int32.ofNat k)]) rfl rfl rfl rfl rfl (by decide +kernel) (zz_lb rfl) (zz_lb rfl) (zz_end_i (zr_72.2.1 89 rfl).1) (zz_B_tr b (zS_i (d := 456) hG hP hsp hB h2 hk))
  · rename_i hk
    exact zz_M_B (yn := zYN) (cn := zCN) (ml := zMQ) (rt := zRT) (y := 72) (as := [.ref 12, .int p0, .int (Int32.ofNat k)]) rfl rfl rfl rfl rfl (by decide +kernel) (zz_lb rfl) (zz_lb rfl) (zz_end_i (zr_72.2.1 89 rfl).1) (zz_B_tr b (zS_o (d := 456) hG hP hsp hB h2 (by omega)))
theorem zSL_ky {k : Nat} (h : k < 2 ^ 31) : (0 : Int32) ≤ Int32.ofNat k := by
  rw [show (0 : Int32) = Int32.ofNat 0 from rfl, Int32.ofNat_le_iff_le (by decide) h]
  omega
theorem zMcL_y {l : Launch} {D : va_G} {cy : Nat → ClassId} {z0 : Nat} {sp : Nat → Nat} {G : State → Prop} (hG : zz_GF z0 G) (hP : ∀ U, G U → zz_GD zS zS2 zLg z0 sp U) (hsp : sp 18446744073709551616 = 0) {W0 w : zz_W} {v0 N0 M0 c0 n0 : Nat} (r0 : zBr W0 v0 N0 M0 c0 w) (hn0 : zz_at 64 M0 3 = n0) (h64 : n0 < 64) {C0 : zz_C} (h0 : zz_has w 0 (3, 1, C0.2.2.1, C0.2.2.2)) (hf0 : 11 < C0.2.2.1) (h11 : zz_at 64 C0.2.2.2 11 = 13) {p0 : Int32} {f : Nat} (hf : zcK p0 f) {k : Nat} (h2 : k < 2 ^ 31) : ∃ w', zz_M l zTs D zcl zFK cy z0 sp (zTys cy) G zYN zCN zMQ zRT 469 20 [.ref 0, .int p0, .int (Int32.ofNat k)] w [.int (zPk (zNc f ++ zOp (zFo f) p0 ++ [10]) k)] w' ∧ zB W0 (zNc f ++ zOp (zFo f) p0 ++ [10]) w' := by
  have T := zt_20 (l := l) (D := D) (cy := cy) (z0 := z0) (sp := sp) (G := G) (d := 468) zz_k0_KS hG hP
  have TK := fun (K : zz_K) (h : zz_KS l D zcl zFK cy z0 sp (zTys cy) G zYN (fun y => Cond.code (zYN y) (zCN y) (zMQ y) (zRT y) :: zTs) 468 K) => zt_20 h hG hP
  have b := zz_B_rf (l := l) (Ts := zTs) (D := D) (cl := zcl) (fk := zFK) (cy := cy) (z0 := z0) (sp := sp) (tys := zTys cy) (G := G) (own := "ToolMill") (mn := "listing") (nL := 3) (cc := prog_1_method_21_code) (d := 468) ((0, [(0, .ref 0), (1, .int p0), (2, .int (Int32.ofNat k))], [], w) : zz_F)
  replace b := zz_fw b T (rfl : zz_ent zP_20 0 = (0, za_iload 2 1)) (ze_iload rfl)
  replace b := zz_fw b T (rfl : zz_ent zP_20 1 = (0, za_if_ge 14 4)) (ze_if_ge_t (zSL_ky h2))
  replace b := zz_fw b T (rfl : zz_ent zP_20 14 = (0, za_aload 0 15)) (ze_aload rfl)
  replace b := zz_fw b T (rfl : zz_ent zP_20 15 = (0, za_getA 1 11 18)) (ze_getA h0 hf0 h11)
  replace b := zz_fw b T (rfl : zz_ent zP_20 18 = (0, za_iload 1 19)) (ze_iload rfl)
  replace b := zz_fw b T (rfl : zz_ent zP_20 19 = (0, za_iload 2 20)) (ze_iload rfl)
  obtain ⟨w1, hM1, hB1⟩ := zSL_y_M (l := l) (D := D) (cy := cy) (sp := sp) hG hP hsp r0 hn0 h64 hf h2
  replace b := zz_fVi b TK (rfl : zz_ent zP_20 20 = (0, za_callV 3 72 2 23)) hM1 rfl rfl (zz_has_c (zBr_f12 r0)) (zz_lb rfl)
  have m := zz_M_B (yn := zYN) (cn := zCN) (ml := zMQ) (rt := zRT) (y := 20) (as := [.ref 0, .int p0, .int (Int32.ofNat k)]) rfl rfl rfl rfl rfl (by decide +kernel) (zz_lb rfl) (zz_lb rfl) (zz_end_i (zr_20.2.1 23 rfl).1) b
  exact ⟨_, m, hB1⟩
