/-! the law's cases: source, assemble, forget -/
theorem zg6 : (List.range 158).all (fun j => zz_eqC (zz_g zW6 (171 + j)) (zz_g zW3 (171 + j))) = true := by decide +kernel
theorem zg8 : (List.range 158).all (fun j => zz_eqC (zz_g zW8 (171 + j)) (zz_g zW3 (171 + j))) = true := by decide +kernel
theorem zg_all {w : zz_W} (h : (List.range 158).all (fun j => zz_eqC (zz_g w (171 + j)) (zz_g zW3 (171 + j))) = true) (i : Nat) (h1 : 171 ≤ i) (h2 : i < 329) : zz_g w i = zz_g zW3 i := by
  have := zz_eqC_ok (List.all_eq_true.mp h (i - 171) (List.mem_range.mpr (by omega)))
  rw [show 171 + (i - 171) = i by omega] at this
  exact this
theorem zCl_6 : zCl zW6 0 := zCl_c ⟨by decide +kernel, by decide +kernel⟩ (by decide +kernel) (by decide +kernel) (zg_all zg6)
theorem zCl_8 : zCl zW8 0 := zCl_c ⟨by decide +kernel, by decide +kernel⟩ (by decide +kernel) (by decide +kernel) (zg_all zg8)
theorem zWo_6 : zWo zW6 0 (Int32.ofNat 0) = zW6 := zz_eqW_ok (by decide +kernel)
theorem zWo_8 : zWo zW8 0 (Int32.ofNat 0) = zW8 := zz_eqW_ok (by decide +kernel)
theorem zE_67 : zEnd (Int32.ofNat 0) (Int32.ofNat 0) zW6 zW7 := ⟨by decide +kernel, ⟨(zz_g zW7 171).2.2.2, ⟨by decide +kernel, by decide +kernel⟩, ⟨by decide +kernel, by decide, rfl⟩, by decide +kernel⟩, fun _ => ⟨0, ⟨by decide +kernel, by decide, by decide +kernel⟩, by decide +kernel⟩, by decide +kernel, by decide +kernel⟩
theorem zE_89 : zEnd (Int32.ofNat 0) (Int32.ofNat 0) zW8 zW9 := ⟨by decide +kernel, ⟨(zz_g zW9 171).2.2.2, ⟨by decide +kernel, by decide +kernel⟩, ⟨by decide +kernel, by decide, rfl⟩, by decide +kernel⟩, fun _ => ⟨0, ⟨by decide +kernel, by decide, by decide +kernel⟩, by decide +kernel⟩, by decide +kernel, by decide +kernel⟩
theorem zLc_2 {l : Launch} {D : va_G} {cy : Nat → ClassId} {z0 : Nat} {sp : Nat → Nat} {G : State → Prop} (hG : zz_GF z0 G) (hP : ∀ U, G U → zz_GD zS zS2 zLg z0 sp U) (hl : l.stackTraces = false) (hE : ∀ U, G U → zGX z0 U) {mn : String} {xs : Nat → Int32} (hX : ∀ U, G U → va_T .int (sp 999999) 4 (fun j => .int (xs j)) (fun q : Nat => z0 ≤ q) U U.heap) : ∃ w2, zz_B l zTs D zcl zFK cy z0 sp (zTys cy) G "ToolMillLaw" mn 7 code 16 (39, zLv (Int32.ofNat 0), [.int (Int32.ofNat 2)], zW3) (1487, zLv (Int32.ofNat 0), [], w2) ∧ w2.1 ≤ 331 ∧ w2.2.1 ≤ 2300700 := by
  have hH := zHr_802 (d := 15) (l := l) (D := D) (cy := cy) (sp := sp) hG hP zCl_6 (zKS hG hP 15 _ _ _ _ _ zRs1)
  rw [zWo_6] at hH
  have hR := zKS (l := l) (D := D) (cy := cy) (sp := sp) hG hP 16 _ _ _ _ _ zRs2
  obtain ⟨hi, ⟨M, hs, hM, ht⟩, ho, n1, n2⟩ := zE_67
  have hT := zM_th (d := 15) (l := l) (D := D) (cy := cy) (sp := sp) hG hP hs hM ht
  have hi2 := zz_has_c hM
  refine ⟨zW7, ?_, n1, n2⟩
  have b := zz_B_rf (l := l) (Ts := zTs) (D := D) (cl := zcl) (fk := zFK) (cy := cy) (z0 := z0) (sp := sp) (tys := zTys cy) (G := G) (own := "ToolMillLaw") (mn := mn) (nL := 7) (cc := code) (d := 16) ((39, [(4, .int (Int32.ofNat 0)), (3, .ref 328), (2, .ref 171), (1, .ref 0), (0, .ref 1999999)], [.int (Int32.ofNat 2)], zW3) : zz_F)
  replace b := zz_fo b (zlw_39 (K := zz_k0) zz_k0_KS hG hP) (ze_tsw_k (t := 236) (by decide) (by decide))
  replace b := zz_fo b (zlw_236 (K := zz_k0) zz_k0_KS hG hP) (ze_aload rfl)
  replace b := zz_fo b (zlw_237 (K := zz_k0) zz_k0_KS hG hP) (ze_aload rfl)
  replace b := zz_gH b (zlh_238 (rv := [.int (Int32.ofNat 0)]) (r := []) hG hH rfl rfl (zz_lb rfl))
  replace b := zz_fo b (zlw_241 (K := zz_k0) zz_k0_KS hG hP) (ze_istore (lv' := [(4, _), (3, _), (2, _), (1, _), (0, _)]) rfl)
  replace b := zz_fo b (zlw_243 (K := zz_k0) zz_k0_KS hG hP) (ze_aload rfl)
  replace b := zz_gVi b (fun K h => zlw_244 h hG hP) hR rfl rfl hi (zz_lb rfl)
  replace b := zz_fo b (zlw_247 (K := zz_k0) zz_k0_KS hG hP) (ze_istore (lv' := [(5, _), (4, _), (3, _), (2, _), (1, _), (0, _)]) rfl)
  replace b := zz_fo b (zlw_249 (K := zz_k0) zz_k0_KS hG hP) (ze_aload rfl)
  replace b := zz_gVi b (fun K h => zlw_250 h hG hP) hT rfl rfl hi2 (zz_lb rfl)
  replace b := zz_fo b (zlw_253 (K := zz_k0) zz_k0_KS hG hP) (ze_iload rfl)
  replace b := zz_fo b (zlw_255 (K := zz_k0) zz_k0_KS hG hP) (ze_icmp_eq_t rfl)
  replace b := zz_fo b (zlw_260 (K := zz_k0) zz_k0_KS hG hP) (ze_iload rfl)
  obtain ⟨N, hN, hv⟩ := ho rfl
  replace b := zz_fo b (zlw_262 (K := zz_k0) zz_k0_KS hG hP) (ze_if_ne_f (not_not_intro rfl))
  replace b := zz_fo b (zlw_265 (K := zz_k0) zz_k0_KS hG hP) (ze_aload rfl)
  replace b := zz_fo b (zlw_266 (K := zz_k0) zz_k0_KS hG hP) ze_const
  replace b := zz_fo b (zlw_267 (K := zz_k0) zz_k0_KS hG hP) (ze_aldL hN (by decide) (by decide) hv)
  replace b := zz_fo b (zlw_268 (K := zz_k0) zz_k0_KS hG hP) (ze_iload rfl)
  replace b := zz_fo b (zlw_270 (K := zz_k0) zz_k0_KS hG hP) (ze_i2l rfl)
  replace b := zz_fo b (zlw_271 (K := zz_k0) zz_k0_KS hG hP) (ze_lcmp (zl_cmp _))
  replace b := zz_fo b (zlw_272 (K := zz_k0) zz_k0_KS hG hP) (ze_if_eq_t rfl)
  replace b := zz_fo b (zlw_277 (K := zz_k0) zz_k0_KS hG hP) ze_goto
  exact zz_fl (lv' := [(4, .int (Int32.ofNat 0)), (3, .ref 328), (2, .ref 171), (1, .ref 0), (0, .ref 1999999)]) b (zz_mc (List.mem_cons_of_mem _ (List.mem_cons_of_mem _ List.mem_cons_self)) (zz_mc (List.mem_cons_of_mem _ (List.mem_cons_of_mem _ (List.mem_cons_of_mem _ List.mem_cons_self))) (zz_mc (List.mem_cons_of_mem _ (List.mem_cons_of_mem _ (List.mem_cons_of_mem _ (List.mem_cons_of_mem _ List.mem_cons_self)))) (zz_mc (List.mem_cons_of_mem _ (List.mem_cons_of_mem _ (List.mem_cons_of_mem _ (List.mem_cons_of_mem _ (List.mem_cons_of_mem _ List.mem_cons_self))))) (zz_mc (List.mem_cons_of_mem _ (List.mem_cons_of_mem _ (List.mem_cons_of_mem _ (List.mem_cons_of_mem _ (List.mem_cons_of_mem _ (List.mem_cons_of_mem _ List.mem_cons_self)))))) zz_mn)))))
theorem zLc_3 {l : Launch} {D : va_G} {cy : Nat → ClassId} {z0 : Nat} {sp : Nat → Nat} {G : State → Prop} (hG : zz_GF z0 G) (hP : ∀ U, G U → zz_GD zS zS2 zLg z0 sp U) (hl : l.stackTraces = false) (hE : ∀ U, G U → zGX z0 U) {mn : String} {xs : Nat → Int32} (hX : ∀ U, G U → va_T .int (sp 999999) 4 (fun j => .int (xs j)) (fun q : Nat => z0 ≤ q) U U.heap) : ∃ w2, zz_B l zTs D zcl zFK cy z0 sp (zTys cy) G "ToolMillLaw" mn 7 code 16 (39, zLv (Int32.ofNat 0), [.int (Int32.ofNat 3)], zW3) (1487, zLv (Int32.ofNat 0), [], w2) ∧ w2.1 ≤ 331 ∧ w2.2.1 ≤ 2300700 := by
  have hH := zHr_803 (d := 15) (l := l) (D := D) (cy := cy) (sp := sp) hG hP zCl_8 (zKS hG hP 15 _ _ _ _ _ zRa1)
  rw [zWo_8] at hH
  have hR := zKS (l := l) (D := D) (cy := cy) (sp := sp) hG hP 16 _ _ _ _ _ zRa2
  obtain ⟨hi, ⟨M, hs, hM, ht⟩, ho, n1, n2⟩ := zE_89
  have hT := zM_th (d := 15) (l := l) (D := D) (cy := cy) (sp := sp) hG hP hs hM ht
  have hi2 := zz_has_c hM
  refine ⟨zW9, ?_, n1, n2⟩
  have b := zz_B_rf (l := l) (Ts := zTs) (D := D) (cl := zcl) (fk := zFK) (cy := cy) (z0 := z0) (sp := sp) (tys := zTys cy) (G := G) (own := "ToolMillLaw") (mn := mn) (nL := 7) (cc := code) (d := 16) ((39, [(4, .int (Int32.ofNat 0)), (3, .ref 328), (2, .ref 171), (1, .ref 0), (0, .ref 1999999)], [.int (Int32.ofNat 3)], zW3) : zz_F)
  replace b := zz_fo b (zlw_39 (K := zz_k0) zz_k0_KS hG hP) (ze_tsw_k (t := 280) (by decide) (by decide))
  replace b := zz_fo b (zlw_280 (K := zz_k0) zz_k0_KS hG hP) (ze_aload rfl)
  replace b := zz_fo b (zlw_281 (K := zz_k0) zz_k0_KS hG hP) (ze_aload rfl)
  replace b := zz_gH b (zlh_282 (rv := [.int (Int32.ofNat 0)]) (r := []) hG hH rfl rfl (zz_lb rfl))
  replace b := zz_fo b (zlw_285 (K := zz_k0) zz_k0_KS hG hP) (ze_istore (lv' := [(4, _), (3, _), (2, _), (1, _), (0, _)]) rfl)
  replace b := zz_fo b (zlw_287 (K := zz_k0) zz_k0_KS hG hP) (ze_aload rfl)
  replace b := zz_gVi b (fun K h => zlw_288 h hG hP) hR rfl rfl hi (zz_lb rfl)
  replace b := zz_fo b (zlw_291 (K := zz_k0) zz_k0_KS hG hP) (ze_istore (lv' := [(5, _), (4, _), (3, _), (2, _), (1, _), (0, _)]) rfl)
  replace b := zz_fo b (zlw_293 (K := zz_k0) zz_k0_KS hG hP) (ze_aload rfl)
  replace b := zz_gVi b (fun K h => zlw_294 h hG hP) hT rfl rfl hi2 (zz_lb rfl)
  replace b := zz_fo b (zlw_297 (K := zz_k0) zz_k0_KS hG hP) (ze_iload rfl)
  replace b := zz_fo b (zlw_299 (K := zz_k0) zz_k0_KS hG hP) (ze_icmp_eq_t rfl)
  replace b := zz_fo b (zlw_304 (K := zz_k0) zz_k0_KS hG hP) (ze_iload rfl)
  obtain ⟨N, hN, hv⟩ := ho rfl
  replace b := zz_fo b (zlw_306 (K := zz_k0) zz_k0_KS hG hP) (ze_if_ne_f (not_not_intro rfl))
  replace b := zz_fo b (zlw_309 (K := zz_k0) zz_k0_KS hG hP) (ze_aload rfl)
  replace b := zz_fo b (zlw_310 (K := zz_k0) zz_k0_KS hG hP) ze_const
  replace b := zz_fo b (zlw_311 (K := zz_k0) zz_k0_KS hG hP) (ze_aldL hN (by decide) (by decide) hv)
  replace b := zz_fo b (zlw_312 (K := zz_k0) zz_k0_KS hG hP) (ze_iload rfl)
  replace b := zz_fo b (zlw_314 (K := zz_k0) zz_k0_KS hG hP) (ze_i2l rfl)
  replace b := zz_fo b (zlw_315 (K := zz_k0) zz_k0_KS hG hP) (ze_lcmp (zl_cmp _))
  replace b := zz_fo b (zlw_316 (K := zz_k0) zz_k0_KS hG hP) (ze_if_eq_t rfl)
  replace b := zz_fo b (zlw_321 (K := zz_k0) zz_k0_KS hG hP) ze_goto
  exact zz_fl (lv' := [(4, .int (Int32.ofNat 0)), (3, .ref 328), (2, .ref 171), (1, .ref 0), (0, .ref 1999999)]) b (zz_mc (List.mem_cons_of_mem _ (List.mem_cons_of_mem _ List.mem_cons_self)) (zz_mc (List.mem_cons_of_mem _ (List.mem_cons_of_mem _ (List.mem_cons_of_mem _ List.mem_cons_self))) (zz_mc (List.mem_cons_of_mem _ (List.mem_cons_of_mem _ (List.mem_cons_of_mem _ (List.mem_cons_of_mem _ List.mem_cons_self)))) (zz_mc (List.mem_cons_of_mem _ (List.mem_cons_of_mem _ (List.mem_cons_of_mem _ (List.mem_cons_of_mem _ (List.mem_cons_of_mem _ List.mem_cons_self))))) (zz_mc (List.mem_cons_of_mem _ (List.mem_cons_of_mem _ (List.mem_cons_of_mem _ (List.mem_cons_of_mem _ (List.mem_cons_of_mem _ (List.mem_cons_of_mem _ List.mem_cons_self)))))) zz_mn)))))
theorem zLc_4 {l : Launch} {D : va_G} {cy : Nat → ClassId} {z0 : Nat} {sp : Nat → Nat} {G : State → Prop} (hG : zz_GF z0 G) (hP : ∀ U, G U → zz_GD zS zS2 zLg z0 sp U) (hl : l.stackTraces = false) (hE : ∀ U, G U → zGX z0 U) {mn : String} {xs : Nat → Int32} (hX : ∀ U, G U → va_T .int (sp 999999) 4 (fun j => .int (xs j)) (fun q : Nat => z0 ≤ q) U U.heap) : ∃ w2, zz_B l zTs D zcl zFK cy z0 sp (zTys cy) G "ToolMillLaw" mn 7 code 16 (39, zLv (Int32.ofNat 0), [.int (Int32.ofNat 4)], zW3) (1487, zLv (Int32.ofNat 0), [], w2) ∧ w2.1 ≤ 331 ∧ w2.2.1 ≤ 2300700 := by
  have hF1 : zz_M l zTs D zcl zFK cy z0 sp (zTys cy) G zYN zCN zMQ zRT 16 2 [.ref 0] zW3 [] zW4 := zKS (l := l) (D := D) (cy := cy) (sp := sp) hG hP 16 _ _ _ _ _ zRf1
  have hF2 : zz_M l zTs D zcl zFK cy z0 sp (zTys cy) G zYN zCN zMQ zRT 16 3 [.ref 171] zW4 [] zW5 := zKS (l := l) (D := D) (cy := cy) (sp := sp) hG hP 16 _ _ _ _ _ zRf2
  have hi1 : zz_ic zW3 0 1 = true := zz_has_c zh_0
  have hi2 : zz_ic zW4 171 0 = true := by decide +kernel
  have n1 : zW5.1 ≤ 331 := by decide +kernel
  have n2 : zW5.2.1 ≤ 2300700 := by decide +kernel
  refine ⟨zW5, ?_, n1, n2⟩
  have b := zz_B_rf (l := l) (Ts := zTs) (D := D) (cl := zcl) (fk := zFK) (cy := cy) (z0 := z0) (sp := sp) (tys := zTys cy) (G := G) (own := "ToolMillLaw") (mn := mn) (nL := 7) (cc := code) (d := 16) ((39, [(4, .int (Int32.ofNat 0)), (3, .ref 328), (2, .ref 171), (1, .ref 0), (0, .ref 1999999)], [.int (Int32.ofNat 4)], zW3) : zz_F)
  replace b := zz_fo b (zlw_39 (K := zz_k0) zz_k0_KS hG hP) (ze_tsw_k (t := 324) (by decide) (by decide))
  replace b := zz_fo b (zlw_324 (K := zz_k0) zz_k0_KS hG hP) (ze_aload rfl)
  replace b := zz_gVv b (fun K h => zlw_325 h hG hP) hF1 rfl rfl hi1 (zz_lb rfl)
  replace b := zz_fo b (zlw_328 (K := zz_k0) zz_k0_KS hG hP) (ze_aload rfl)
  replace b := zz_gVv b (fun K h => zlw_329 h hG hP) hF2 rfl rfl hi2 (zz_lb rfl)
  replace b := zz_fo b (zlw_332 (K := zz_k0) zz_k0_KS hG hP) ze_goto
  exact zz_fl (lv' := [(4, .int (Int32.ofNat 0)), (3, .ref 328), (2, .ref 171), (1, .ref 0), (0, .ref 1999999)]) b (zz_mc List.mem_cons_self (zz_mc (List.mem_cons_of_mem _ List.mem_cons_self) (zz_mc (List.mem_cons_of_mem _ (List.mem_cons_of_mem _ List.mem_cons_self)) (zz_mc (List.mem_cons_of_mem _ (List.mem_cons_of_mem _ (List.mem_cons_of_mem _ List.mem_cons_self))) (zz_mc (List.mem_cons_of_mem _ (List.mem_cons_of_mem _ (List.mem_cons_of_mem _ (List.mem_cons_of_mem _ List.mem_cons_self)))) zz_mn)))))
