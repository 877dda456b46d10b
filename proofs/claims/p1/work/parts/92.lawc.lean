/-! the law's cases -/
section ZGV
variable {l : Launch} {Ts : List Cond} {D : va_G} {cl : List vw_C} {fk : Nat → Nat → Nat} {cy : Nat → ClassId} {z0 : Nat} {sp : Nat → Nat} {tys : List (ClassId × FieldType)} {G : State → Prop} {own mn : String} {nL : Nat} {cc : ByteArray} {d : Nat} {pc : Nat}
variable {yn : Nat → MethodName} {cn : Nat → ByteArray} {ml : Nat → Nat} {rt : Nat → Option FieldType} {f : zz_F}
theorem zz_gVi {ci y na n r0 : Nat} {lv : List (Nat × Value)} {st as r : List Value} {v : Value} {w w' : zz_W} (b : zz_B l Ts D cl fk cy z0 sp tys G own mn nL cc d f (pc, lv, st, w)) (hO : ∀ K, zz_KS l D cl fk cy z0 sp tys G yn (fun y => Cond.code (yn y) (cn y) (ml y) (rt y) :: Ts) d K → zz_O l Ts D cl fk cy z0 sp tys G own mn nL cc d K pc (za_callV ci y na n))
    (hM : zz_M l Ts D cl fk cy z0 sp tys G yn cn ml rt d y (.ref r0 :: as) w [v] w') (hst : st = as.reverse ++ .ref r0 :: r) (hna : as.length = na) (hb : zz_ic w r0 ci = true) (hr : zz_cs r ≤ 8) : zz_B l Ts D cl fk cy z0 sp tys G own mn nL cc d f (n, lv, v :: r, w') :=
  zz_B_tr b (zz_O_B (hO _ (zz_k1_KS hM)) rfl (ze_callV hst hna hb hr hM.2.1 zz_k1_at))
theorem zz_gVv {ci y na n r0 : Nat} {lv : List (Nat × Value)} {st as r : List Value} {w w' : zz_W} (b : zz_B l Ts D cl fk cy z0 sp tys G own mn nL cc d f (pc, lv, st, w)) (hO : ∀ K, zz_KS l D cl fk cy z0 sp tys G yn (fun y => Cond.code (yn y) (cn y) (ml y) (rt y) :: Ts) d K → zz_O l Ts D cl fk cy z0 sp tys G own mn nL cc d K pc (za_callV ci y na n))
    (hM : zz_M l Ts D cl fk cy z0 sp tys G yn cn ml rt d y (.ref r0 :: as) w [] w') (hst : st = as.reverse ++ .ref r0 :: r) (hna : as.length = na) (hb : zz_ic w r0 ci = true) (hr : zz_cs r ≤ 8) : zz_B l Ts D cl fk cy z0 sp tys G own mn nL cc d f (n, lv, r, w') :=
  zz_B_tr b (zz_O_B (hO _ (zz_k1_KS hM)) rfl (ze_callV hst hna hb hr hM.2.1 zz_k1_at))
theorem zz_gH {n : Nat} {lv : List (Nat × Value)} {st r : List Value} {v : Value} {w w' : zz_W} (b : zz_B l Ts D cl fk cy z0 sp tys G own mn nL cc d f (pc, lv, st, w)) (h : zz_B l Ts D cl fk cy z0 sp tys G own mn nL cc d (pc, lv, st, w) (n, lv, [v] ++ r, w')) : zz_B l Ts D cl fk cy z0 sp tys G own mn nL cc d f (n, lv, v :: r, w') := zz_B_tr b h
end ZGV
theorem zl_kl (xs : Nat → Int32) (j : Nat) (h : j < 4) : zg_el 4 xs 1999999 (zz_nI (Int32.ofNat j)) = some (zz_nI (xs j)) := by
  rw [zz_nI_ofNat (by omega)]
  exact if_pos ⟨rfl, h⟩
theorem zLc_0 {l : Launch} {D : va_G} {cy : Nat → ClassId} {z0 : Nat} {sp : Nat → Nat} {G : State → Prop} (hG : zz_GF z0 G) (hP : ∀ U, G U → zz_GD zS zS2 zLg z0 sp U) (hl : l.stackTraces = false) (hE : ∀ U, G U → zGX z0 U) {mn : String} {xs : Nat → Int32} (hX : ∀ U, G U → va_T .int (sp 999999) 4 (fun j => .int (xs j)) (fun q : Nat => z0 ≤ q) U U.heap) : ∃ w2, zz_B l zTs D zcl zFK cy z0 sp (zTys cy) G "ToolMillLaw" mn 7 code 16 (39, zLv (Int32.ofNat 0), [.int (Int32.ofNat 0)], zW3) (1487, zLv (Int32.ofNat 0), [], w2) ∧ w2.1 ≤ 331 ∧ w2.2.1 ≤ 2300700 := by
  obtain ⟨k, v, w1, w2, hH, hR, hi, ⟨M, hs, hM, ht⟩, ho, n1, n2⟩ := zC_put (l := l) (D := D) (cy := cy) (sp := sp) hG hP hl hE (xs 1)
  have hT := zM_th (d := 15) (l := l) (D := D) (cy := cy) (sp := sp) hG hP hs hM ht
  have hi2 := zz_has_c hM
  refine ⟨w2, ?_, n1, n2⟩
  have b := zz_B_rf (l := l) (Ts := zTs) (D := D) (cl := zcl) (fk := zFK) (cy := cy) (z0 := z0) (sp := sp) (tys := zTys cy) (G := G) (own := "ToolMillLaw") (mn := mn) (nL := 7) (cc := code) (d := 16) ((39, [(4, .int (Int32.ofNat 0)), (3, .ref 328), (2, .ref 171), (1, .ref 0), (0, .ref 1999999)], [.int (Int32.ofNat 0)], zW3) : zz_F)
  replace b := zz_fo b (zlw_39 (K := zz_k0) zz_k0_KS hG hP) (ze_tsw_k (t := 144) (by decide) (by decide))
  replace b := zz_fo b (zlw_144 (K := zz_k0) zz_k0_KS hG hP) (ze_aload rfl)
  replace b := zz_fo b (zlw_145 (K := zz_k0) zz_k0_KS hG hP) (ze_aload rfl)
  replace b := zz_fo b (zlw_146 (K := zz_k0) zz_k0_KS hG hP) (ze_iload rfl)
  replace b := zz_fo b (zlw_148 (K := zz_k0) zz_k0_KS hG hP) ze_const
  replace b := zz_fo b (zlw_149 (K := zz_k0) zz_k0_KS hG hP) (ze_iadd (by decide : _ = Int32.ofNat 1))
  replace b := zz_fo b (zlw_150 (K := zz_k0) (L := 4) (xs := xs) zz_k0_KS hG hP hX (by decide)) (ze_kl (zl_kl xs 1 (by decide)) (zz_nI_of _))
  replace b := zz_fo b (zlw_151 (K := zz_k0) zz_k0_KS hG hP) (ze_aload rfl)
  replace b := zz_gH b (zlh_152 (rv := [.int k]) (r := []) hG hH rfl rfl (zz_lb rfl))
  replace b := zz_fo b (zlw_155 (K := zz_k0) zz_k0_KS hG hP) (ze_istore (lv' := [(4, _), (3, _), (2, _), (1, _), (0, _)]) rfl)
  replace b := zz_fo b (zlw_157 (K := zz_k0) zz_k0_KS hG hP) (ze_aload rfl)
  replace b := zz_fo b (zlw_158 (K := zz_k0) zz_k0_KS hG hP) (ze_aload rfl)
  replace b := zz_fo b (zlw_159 (K := zz_k0) zz_k0_KS hG hP) (ze_iload rfl)
  replace b := zz_fo b (zlw_161 (K := zz_k0) zz_k0_KS hG hP) ze_const
  replace b := zz_fo b (zlw_162 (K := zz_k0) zz_k0_KS hG hP) (ze_iadd (by decide : _ = Int32.ofNat 1))
  replace b := zz_fo b (zlw_163 (K := zz_k0) (L := 4) (xs := xs) zz_k0_KS hG hP hX (by decide)) (ze_kl (zl_kl xs 1 (by decide)) (zz_nI_of _))
  replace b := zz_gVi b (fun K h => zlw_164 h hG hP) hR rfl rfl hi (zz_lb rfl)
  replace b := zz_fo b (zlw_167 (K := zz_k0) zz_k0_KS hG hP) (ze_istore (lv' := [(5, _), (4, _), (3, _), (2, _), (1, _), (0, _)]) rfl)
  replace b := zz_fo b (zlw_169 (K := zz_k0) zz_k0_KS hG hP) (ze_aload rfl)
  replace b := zz_gVi b (fun K h => zlw_170 h hG hP) hT rfl rfl hi2 (zz_lb rfl)
  replace b := zz_fo b (zlw_173 (K := zz_k0) zz_k0_KS hG hP) (ze_iload rfl)
  replace b := zz_fo b (zlw_175 (K := zz_k0) zz_k0_KS hG hP) (ze_icmp_eq_t rfl)
  replace b := zz_fo b (zlw_180 (K := zz_k0) zz_k0_KS hG hP) (ze_iload rfl)
  by_cases hk : k = 0
  case neg =>
    replace b := zz_fo b (zlw_182 (K := zz_k0) zz_k0_KS hG hP) (ze_if_ne_t hk)
    replace b := zz_fo b (zlw_197 (K := zz_k0) zz_k0_KS hG hP) ze_goto
    exact zz_fl (lv' := [(4, .int (Int32.ofNat 0)), (3, .ref 328), (2, .ref 171), (1, .ref 0), (0, .ref 1999999)]) b (zz_mc (List.mem_cons_of_mem _ (List.mem_cons_of_mem _ List.mem_cons_self)) (zz_mc (List.mem_cons_of_mem _ (List.mem_cons_of_mem _ (List.mem_cons_of_mem _ List.mem_cons_self))) (zz_mc (List.mem_cons_of_mem _ (List.mem_cons_of_mem _ (List.mem_cons_of_mem _ (List.mem_cons_of_mem _ List.mem_cons_self)))) (zz_mc (List.mem_cons_of_mem _ (List.mem_cons_of_mem _ (List.mem_cons_of_mem _ (List.mem_cons_of_mem _ (List.mem_cons_of_mem _ List.mem_cons_self))))) (zz_mc (List.mem_cons_of_mem _ (List.mem_cons_of_mem _ (List.mem_cons_of_mem _ (List.mem_cons_of_mem _ (List.mem_cons_of_mem _ (List.mem_cons_of_mem _ List.mem_cons_self)))))) zz_mn)))))
  obtain ⟨N, hN, hv⟩ := ho hk
  replace b := zz_fo b (zlw_182 (K := zz_k0) zz_k0_KS hG hP) (ze_if_ne_f (not_not_intro hk))
  replace b := zz_fo b (zlw_185 (K := zz_k0) zz_k0_KS hG hP) (ze_aload rfl)
  replace b := zz_fo b (zlw_186 (K := zz_k0) zz_k0_KS hG hP) ze_const
  replace b := zz_fo b (zlw_187 (K := zz_k0) zz_k0_KS hG hP) (ze_aldL hN (by decide) (by decide) hv)
  replace b := zz_fo b (zlw_188 (K := zz_k0) zz_k0_KS hG hP) (ze_iload rfl)
  replace b := zz_fo b (zlw_190 (K := zz_k0) zz_k0_KS hG hP) (ze_i2l rfl)
  replace b := zz_fo b (zlw_191 (K := zz_k0) zz_k0_KS hG hP) (ze_lcmp (zl_cmp _))
  replace b := zz_fo b (zlw_192 (K := zz_k0) zz_k0_KS hG hP) (ze_if_eq_t rfl)
  replace b := zz_fo b (zlw_197 (K := zz_k0) zz_k0_KS hG hP) ze_goto
  exact zz_fl (lv' := [(4, .int (Int32.ofNat 0)), (3, .ref 328), (2, .ref 171), (1, .ref 0), (0, .ref 1999999)]) b (zz_mc (List.mem_cons_of_mem _ (List.mem_cons_of_mem _ List.mem_cons_self)) (zz_mc (List.mem_cons_of_mem _ (List.mem_cons_of_mem _ (List.mem_cons_of_mem _ List.mem_cons_self))) (zz_mc (List.mem_cons_of_mem _ (List.mem_cons_of_mem _ (List.mem_cons_of_mem _ (List.mem_cons_of_mem _ List.mem_cons_self)))) (zz_mc (List.mem_cons_of_mem _ (List.mem_cons_of_mem _ (List.mem_cons_of_mem _ (List.mem_cons_of_mem _ (List.mem_cons_of_mem _ List.mem_cons_self))))) (zz_mc (List.mem_cons_of_mem _ (List.mem_cons_of_mem _ (List.mem_cons_of_mem _ (List.mem_cons_of_mem _ (List.mem_cons_of_mem _ (List.mem_cons_of_mem _ List.mem_cons_self)))))) zz_mn)))))
theorem zLc_1 {l : Launch} {D : va_G} {cy : Nat → ClassId} {z0 : Nat} {sp : Nat → Nat} {G : State → Prop} (hG : zz_GF z0 G) (hP : ∀ U, G U → zz_GD zS zS2 zLg z0 sp U) (hl : l.stackTraces = false) (hE : ∀ U, G U → zGX z0 U) {mn : String} {xs : Nat → Int32} (hX : ∀ U, G U → va_T .int (sp 999999) 4 (fun j => .int (xs j)) (fun q : Nat => z0 ≤ q) U U.heap) : ∃ w2, zz_B l zTs D zcl zFK cy z0 sp (zTys cy) G "ToolMillLaw" mn 7 code 16 (39, zLv (Int32.ofNat 0), [.int (Int32.ofNat 1)], zW3) (1487, zLv (Int32.ofNat 0), [], w2) ∧ w2.1 ≤ 331 ∧ w2.2.1 ≤ 2300700 := by
  obtain ⟨k, w1, w2, hH, hR, hi, ⟨M, hs, hM, ht⟩, ho, n1, n2⟩ := zC_end (l := l) (D := D) (cy := cy) (sp := sp) hG hP hl hE (xs 1)
  have hT := zM_th (d := 15) (l := l) (D := D) (cy := cy) (sp := sp) hG hP hs hM ht
  have hi2 := zz_has_c hM
  refine ⟨w2, ?_, n1, n2⟩
  have b := zz_B_rf (l := l) (Ts := zTs) (D := D) (cl := zcl) (fk := zFK) (cy := cy) (z0 := z0) (sp := sp) (tys := zTys cy) (G := G) (own := "ToolMillLaw") (mn := mn) (nL := 7) (cc := code) (d := 16) ((39, [(4, .int (Int32.ofNat 0)), (3, .ref 328), (2, .ref 171), (1, .ref 0), (0, .ref 1999999)], [.int (Int32.ofNat 1)], zW3) : zz_F)
  replace b := zz_fo b (zlw_39 (K := zz_k0) zz_k0_KS hG hP) (ze_tsw_k (t := 200) (by decide) (by decide))
  replace b := zz_fo b (zlw_200 (K := zz_k0) zz_k0_KS hG hP) (ze_aload rfl)
  replace b := zz_fo b (zlw_201 (K := zz_k0) zz_k0_KS hG hP) (ze_aload rfl)
  replace b := zz_fo b (zlw_202 (K := zz_k0) zz_k0_KS hG hP) (ze_iload rfl)
  replace b := zz_fo b (zlw_204 (K := zz_k0) zz_k0_KS hG hP) ze_const
  replace b := zz_fo b (zlw_205 (K := zz_k0) zz_k0_KS hG hP) (ze_iadd (by decide : _ = Int32.ofNat 1))
  replace b := zz_fo b (zlw_206 (K := zz_k0) (L := 4) (xs := xs) zz_k0_KS hG hP hX (by decide)) (ze_kl (zl_kl xs 1 (by decide)) (zz_nI_of _))
  replace b := zz_gH b (zlh_207 (rv := [.int k]) (r := []) hG hH rfl rfl (zz_lb rfl))
  replace b := zz_fo b (zlw_210 (K := zz_k0) zz_k0_KS hG hP) (ze_istore (lv' := [(4, _), (3, _), (2, _), (1, _), (0, _)]) rfl)
  replace b := zz_fo b (zlw_212 (K := zz_k0) zz_k0_KS hG hP) (ze_aload rfl)
  replace b := zz_fo b (zlw_213 (K := zz_k0) zz_k0_KS hG hP) (ze_aload rfl)
  replace b := zz_fo b (zlw_214 (K := zz_k0) zz_k0_KS hG hP) (ze_iload rfl)
  replace b := zz_fo b (zlw_216 (K := zz_k0) zz_k0_KS hG hP) ze_const
  replace b := zz_fo b (zlw_217 (K := zz_k0) zz_k0_KS hG hP) (ze_iadd (by decide : _ = Int32.ofNat 1))
  replace b := zz_fo b (zlw_218 (K := zz_k0) (L := 4) (xs := xs) zz_k0_KS hG hP hX (by decide)) (ze_kl (zl_kl xs 1 (by decide)) (zz_nI_of _))
  replace b := zz_gVv b (fun K h => zlw_219 h hG hP) hR rfl rfl hi (zz_lb rfl)
  replace b := zz_fo b (zlw_222 (K := zz_k0) zz_k0_KS hG hP) (ze_aload rfl)
  replace b := zz_gVi b (fun K h => zlw_223 h hG hP) hT rfl rfl hi2 (zz_lb rfl)
  replace b := zz_fo b (zlw_226 (K := zz_k0) zz_k0_KS hG hP) (ze_iload rfl)
  replace b := zz_fo b (zlw_228 (K := zz_k0) zz_k0_KS hG hP) (ze_icmp_eq_t rfl)
  replace b := zz_fo b (zlw_233 (K := zz_k0) zz_k0_KS hG hP) ze_goto
  exact zz_fl (lv' := [(4, .int (Int32.ofNat 0)), (3, .ref 328), (2, .ref 171), (1, .ref 0), (0, .ref 1999999)]) b (zz_mc (List.mem_cons_of_mem _ List.mem_cons_self) (zz_mc (List.mem_cons_of_mem _ (List.mem_cons_of_mem _ List.mem_cons_self)) (zz_mc (List.mem_cons_of_mem _ (List.mem_cons_of_mem _ (List.mem_cons_of_mem _ List.mem_cons_self))) (zz_mc (List.mem_cons_of_mem _ (List.mem_cons_of_mem _ (List.mem_cons_of_mem _ (List.mem_cons_of_mem _ List.mem_cons_self)))) (zz_mc (List.mem_cons_of_mem _ (List.mem_cons_of_mem _ (List.mem_cons_of_mem _ (List.mem_cons_of_mem _ (List.mem_cons_of_mem _ List.mem_cons_self))))) zz_mn)))))
theorem zLc_5 {l : Launch} {D : va_G} {cy : Nat → ClassId} {z0 : Nat} {sp : Nat → Nat} {G : State → Prop} (hG : zz_GF z0 G) (hP : ∀ U, G U → zz_GD zS zS2 zLg z0 sp U) (hl : l.stackTraces = false) (hE : ∀ U, G U → zGX z0 U) {mn : String} {xs : Nat → Int32} (hX : ∀ U, G U → va_T .int (sp 999999) 4 (fun j => .int (xs j)) (fun q : Nat => z0 ≤ q) U U.heap) : ∃ w2, zz_B l zTs D zcl zFK cy z0 sp (zTys cy) G "ToolMillLaw" mn 7 code 16 (39, zLv (Int32.ofNat 0), [.int (Int32.ofNat 5)], zW3) (1487, zLv (Int32.ofNat 0), [], w2) ∧ w2.1 ≤ 331 ∧ w2.2.1 ≤ 2300700 := by
  obtain ⟨k, v, w1, w2, hH, hR, hi, ⟨M, hs, hM, ht⟩, ho, n1, n2⟩ := zC_fault (l := l) (D := D) (cy := cy) (sp := sp) hG hP hl hE (xs 1)
  have hT := zM_th (d := 15) (l := l) (D := D) (cy := cy) (sp := sp) hG hP hs hM ht
  have hi2 := zz_has_c hM
  refine ⟨w2, ?_, n1, n2⟩
  have b := zz_B_rf (l := l) (Ts := zTs) (D := D) (cl := zcl) (fk := zFK) (cy := cy) (z0 := z0) (sp := sp) (tys := zTys cy) (G := G) (own := "ToolMillLaw") (mn := mn) (nL := 7) (cc := code) (d := 16) ((39, [(4, .int (Int32.ofNat 0)), (3, .ref 328), (2, .ref 171), (1, .ref 0), (0, .ref 1999999)], [.int (Int32.ofNat 5)], zW3) : zz_F)
  replace b := zz_fo b (zlw_39 (K := zz_k0) zz_k0_KS hG hP) (ze_tsw_k (t := 335) (by decide) (by decide))
  replace b := zz_fo b (zlw_335 (K := zz_k0) zz_k0_KS hG hP) (ze_aload rfl)
  replace b := zz_fo b (zlw_336 (K := zz_k0) zz_k0_KS hG hP) (ze_aload rfl)
  replace b := zz_fo b (zlw_337 (K := zz_k0) zz_k0_KS hG hP) (ze_iload rfl)
  replace b := zz_fo b (zlw_339 (K := zz_k0) zz_k0_KS hG hP) ze_const
  replace b := zz_fo b (zlw_340 (K := zz_k0) zz_k0_KS hG hP) (ze_iadd (by decide : _ = Int32.ofNat 1))
  replace b := zz_fo b (zlw_341 (K := zz_k0) (L := 4) (xs := xs) zz_k0_KS hG hP hX (by decide)) (ze_kl (zl_kl xs 1 (by decide)) (zz_nI_of _))
  replace b := zz_fo b (zlw_342 (K := zz_k0) zz_k0_KS hG hP) (ze_aload rfl)
  replace b := zz_gH b (zlh_343 (rv := [.int k]) (r := []) hG hH rfl rfl (zz_lb rfl))
  replace b := zz_fo b (zlw_346 (K := zz_k0) zz_k0_KS hG hP) (ze_istore (lv' := [(4, _), (3, _), (2, _), (1, _), (0, _)]) rfl)
  replace b := zz_fo b (zlw_348 (K := zz_k0) zz_k0_KS hG hP) (ze_aload rfl)
  replace b := zz_fo b (zlw_349 (K := zz_k0) zz_k0_KS hG hP) (ze_aload rfl)
  replace b := zz_fo b (zlw_350 (K := zz_k0) zz_k0_KS hG hP) (ze_iload rfl)
  replace b := zz_fo b (zlw_352 (K := zz_k0) zz_k0_KS hG hP) ze_const
  replace b := zz_fo b (zlw_353 (K := zz_k0) zz_k0_KS hG hP) (ze_iadd (by decide : _ = Int32.ofNat 1))
  replace b := zz_fo b (zlw_354 (K := zz_k0) (L := 4) (xs := xs) zz_k0_KS hG hP hX (by decide)) (ze_kl (zl_kl xs 1 (by decide)) (zz_nI_of _))
  replace b := zz_gVi b (fun K h => zlw_355 h hG hP) hR rfl rfl hi (zz_lb rfl)
  replace b := zz_fo b (zlw_358 (K := zz_k0) zz_k0_KS hG hP) (ze_istore (lv' := [(5, _), (4, _), (3, _), (2, _), (1, _), (0, _)]) rfl)
  replace b := zz_fo b (zlw_360 (K := zz_k0) zz_k0_KS hG hP) (ze_aload rfl)
  replace b := zz_gVi b (fun K h => zlw_361 h hG hP) hT rfl rfl hi2 (zz_lb rfl)
  replace b := zz_fo b (zlw_364 (K := zz_k0) zz_k0_KS hG hP) (ze_iload rfl)
  replace b := zz_fo b (zlw_366 (K := zz_k0) zz_k0_KS hG hP) (ze_icmp_eq_t rfl)
  replace b := zz_fo b (zlw_371 (K := zz_k0) zz_k0_KS hG hP) (ze_iload rfl)
  by_cases hk : k = 0
  case neg =>
    replace b := zz_fo b (zlw_373 (K := zz_k0) zz_k0_KS hG hP) (ze_if_ne_t hk)
    replace b := zz_fo b (zlw_388 (K := zz_k0) zz_k0_KS hG hP) ze_goto
    exact zz_fl (lv' := [(4, .int (Int32.ofNat 0)), (3, .ref 328), (2, .ref 171), (1, .ref 0), (0, .ref 1999999)]) b (zz_mc (List.mem_cons_of_mem _ (List.mem_cons_of_mem _ List.mem_cons_self)) (zz_mc (List.mem_cons_of_mem _ (List.mem_cons_of_mem _ (List.mem_cons_of_mem _ List.mem_cons_self))) (zz_mc (List.mem_cons_of_mem _ (List.mem_cons_of_mem _ (List.mem_cons_of_mem _ (List.mem_cons_of_mem _ List.mem_cons_self)))) (zz_mc (List.mem_cons_of_mem _ (List.mem_cons_of_mem _ (List.mem_cons_of_mem _ (List.mem_cons_of_mem _ (List.mem_cons_of_mem _ List.mem_cons_self))))) (zz_mc (List.mem_cons_of_mem _ (List.mem_cons_of_mem _ (List.mem_cons_of_mem _ (List.mem_cons_of_mem _ (List.mem_cons_of_mem _ (List.mem_cons_of_mem _ List.mem_cons_self)))))) zz_mn)))))
  obtain ⟨N, hN, hv⟩ := ho hk
  replace b := zz_fo b (zlw_373 (K := zz_k0) zz_k0_KS hG hP) (ze_if_ne_f (not_not_intro hk))
  replace b := zz_fo b (zlw_376 (K := zz_k0) zz_k0_KS hG hP) (ze_aload rfl)
  replace b := zz_fo b (zlw_377 (K := zz_k0) zz_k0_KS hG hP) ze_const
  replace b := zz_fo b (zlw_378 (K := zz_k0) zz_k0_KS hG hP) (ze_aldL hN (by decide) (by decide) hv)
  replace b := zz_fo b (zlw_379 (K := zz_k0) zz_k0_KS hG hP) (ze_iload rfl)
  replace b := zz_fo b (zlw_381 (K := zz_k0) zz_k0_KS hG hP) (ze_i2l rfl)
  replace b := zz_fo b (zlw_382 (K := zz_k0) zz_k0_KS hG hP) (ze_lcmp (zl_cmp _))
  replace b := zz_fo b (zlw_383 (K := zz_k0) zz_k0_KS hG hP) (ze_if_eq_t rfl)
  replace b := zz_fo b (zlw_388 (K := zz_k0) zz_k0_KS hG hP) ze_goto
  exact zz_fl (lv' := [(4, .int (Int32.ofNat 0)), (3, .ref 328), (2, .ref 171), (1, .ref 0), (0, .ref 1999999)]) b (zz_mc (List.mem_cons_of_mem _ (List.mem_cons_of_mem _ List.mem_cons_self)) (zz_mc (List.mem_cons_of_mem _ (List.mem_cons_of_mem _ (List.mem_cons_of_mem _ List.mem_cons_self))) (zz_mc (List.mem_cons_of_mem _ (List.mem_cons_of_mem _ (List.mem_cons_of_mem _ (List.mem_cons_of_mem _ List.mem_cons_self)))) (zz_mc (List.mem_cons_of_mem _ (List.mem_cons_of_mem _ (List.mem_cons_of_mem _ (List.mem_cons_of_mem _ (List.mem_cons_of_mem _ List.mem_cons_self))))) (zz_mc (List.mem_cons_of_mem _ (List.mem_cons_of_mem _ (List.mem_cons_of_mem _ (List.mem_cons_of_mem _ (List.mem_cons_of_mem _ (List.mem_cons_of_mem _ List.mem_cons_self)))))) zz_mn)))))
theorem zLc_6 {l : Launch} {D : va_G} {cy : Nat → ClassId} {z0 : Nat} {sp : Nat → Nat} {G : State → Prop} (hG : zz_GF z0 G) (hP : ∀ U, G U → zz_GD zS zS2 zLg z0 sp U) (hl : l.stackTraces = false) (hE : ∀ U, G U → zGX z0 U) {mn : String} {xs : Nat → Int32} (hX : ∀ U, G U → va_T .int (sp 999999) 4 (fun j => .int (xs j)) (fun q : Nat => z0 ≤ q) U U.heap) : ∃ w2, zz_B l zTs D zcl zFK cy z0 sp (zTys cy) G "ToolMillLaw" mn 7 code 16 (39, zLv (Int32.ofNat 0), [.int (Int32.ofNat 6)], zW3) (1487, zLv (Int32.ofNat 0), [], w2) ∧ w2.1 ≤ 331 ∧ w2.2.1 ≤ 2300700 := by
  obtain ⟨w1, w2, hH, hR, hi, ⟨M, hs, hM, ht⟩, ho, n1, n2⟩ := zC_typed (l := l) (D := D) (cy := cy) (sp := sp) hG hP hl hE (xs 1) (xs 2)
  have hT := zM_th (d := 15) (l := l) (D := D) (cy := cy) (sp := sp) hG hP hs hM ht
  have hi2 := zz_has_c hM
  refine ⟨w2, ?_, n1, n2⟩
  have b := zz_B_rf (l := l) (Ts := zTs) (D := D) (cl := zcl) (fk := zFK) (cy := cy) (z0 := z0) (sp := sp) (tys := zTys cy) (G := G) (own := "ToolMillLaw") (mn := mn) (nL := 7) (cc := code) (d := 16) ((39, [(4, .int (Int32.ofNat 0)), (3, .ref 328), (2, .ref 171), (1, .ref 0), (0, .ref 1999999)], [.int (Int32.ofNat 6)], zW3) : zz_F)
  replace b := zz_fo b (zlw_39 (K := zz_k0) zz_k0_KS hG hP) (ze_tsw_k (t := 391) (by decide) (by decide))
  replace b := zz_fo b (zlw_391 (K := zz_k0) zz_k0_KS hG hP) (ze_aload rfl)
  replace b := zz_fo b (zlw_392 (K := zz_k0) zz_k0_KS hG hP) (ze_aload rfl)
  replace b := zz_fo b (zlw_393 (K := zz_k0) zz_k0_KS hG hP) (ze_iload rfl)
  replace b := zz_fo b (zlw_395 (K := zz_k0) zz_k0_KS hG hP) ze_const
  replace b := zz_fo b (zlw_396 (K := zz_k0) zz_k0_KS hG hP) (ze_iadd (by decide : _ = Int32.ofNat 1))
  replace b := zz_fo b (zlw_397 (K := zz_k0) (L := 4) (xs := xs) zz_k0_KS hG hP hX (by decide)) (ze_kl (zl_kl xs 1 (by decide)) (zz_nI_of _))
  replace b := zz_fo b (zlw_398 (K := zz_k0) zz_k0_KS hG hP) (ze_aload rfl)
  replace b := zz_fo b (zlw_399 (K := zz_k0) zz_k0_KS hG hP) (ze_iload rfl)
  replace b := zz_fo b (zlw_401 (K := zz_k0) zz_k0_KS hG hP) ze_const
  replace b := zz_fo b (zlw_402 (K := zz_k0) zz_k0_KS hG hP) (ze_iadd (by decide : _ = Int32.ofNat 2))
  replace b := zz_fo b (zlw_403 (K := zz_k0) (L := 4) (xs := xs) zz_k0_KS hG hP hX (by decide)) (ze_kl (zl_kl xs 2 (by decide)) (zz_nI_of _))
  replace b := zz_fo b (zlw_404 (K := zz_k0) zz_k0_KS hG hP) (ze_aload rfl)
  replace b := zz_gH b (zlh_405 (rv := [.int (Int32.ofNat 1)]) (r := []) hG hH rfl rfl (zz_lb rfl))
  replace b := zz_fo b (zlw_408 (K := zz_k0) zz_k0_KS hG hP) (ze_istore (lv' := [(4, _), (3, _), (2, _), (1, _), (0, _)]) rfl)
  replace b := zz_fo b (zlw_410 (K := zz_k0) zz_k0_KS hG hP) (ze_aload rfl)
  replace b := zz_fo b (zlw_411 (K := zz_k0) zz_k0_KS hG hP) (ze_aload rfl)
  replace b := zz_fo b (zlw_412 (K := zz_k0) zz_k0_KS hG hP) (ze_iload rfl)
  replace b := zz_fo b (zlw_414 (K := zz_k0) zz_k0_KS hG hP) ze_const
  replace b := zz_fo b (zlw_415 (K := zz_k0) zz_k0_KS hG hP) (ze_iadd (by decide : _ = Int32.ofNat 1))
  replace b := zz_fo b (zlw_416 (K := zz_k0) (L := 4) (xs := xs) zz_k0_KS hG hP hX (by decide)) (ze_kl (zl_kl xs 1 (by decide)) (zz_nI_of _))
  replace b := zz_fo b (zlw_417 (K := zz_k0) zz_k0_KS hG hP) (ze_aload rfl)
  replace b := zz_fo b (zlw_418 (K := zz_k0) zz_k0_KS hG hP) (ze_iload rfl)
  replace b := zz_fo b (zlw_420 (K := zz_k0) zz_k0_KS hG hP) ze_const
  replace b := zz_fo b (zlw_421 (K := zz_k0) zz_k0_KS hG hP) (ze_iadd (by decide : _ = Int32.ofNat 2))
  replace b := zz_fo b (zlw_422 (K := zz_k0) (L := 4) (xs := xs) zz_k0_KS hG hP hX (by decide)) (ze_kl (zl_kl xs 2 (by decide)) (zz_nI_of _))
  replace b := zz_gVi b (fun K h => zlw_423 h hG hP) hR rfl rfl hi (zz_lb rfl)
  replace b := zz_fo b (zlw_426 (K := zz_k0) zz_k0_KS hG hP) (ze_istore (lv' := [(5, _), (4, _), (3, _), (2, _), (1, _), (0, _)]) rfl)
  replace b := zz_fo b (zlw_428 (K := zz_k0) zz_k0_KS hG hP) (ze_aload rfl)
  replace b := zz_gVi b (fun K h => zlw_429 h hG hP) hT rfl rfl hi2 (zz_lb rfl)
  replace b := zz_fo b (zlw_432 (K := zz_k0) zz_k0_KS hG hP) (ze_iload rfl)
  replace b := zz_fo b (zlw_434 (K := zz_k0) zz_k0_KS hG hP) (ze_icmp_eq_t rfl)
  replace b := zz_fo b (zlw_439 (K := zz_k0) zz_k0_KS hG hP) (ze_iload rfl)
  replace b := zz_fo b (zlw_441 (K := zz_k0) zz_k0_KS hG hP) (ze_if_ne_t (by decide))
  replace b := zz_fo b (zlw_456 (K := zz_k0) zz_k0_KS hG hP) ze_goto
  exact zz_fl (lv' := [(4, .int (Int32.ofNat 0)), (3, .ref 328), (2, .ref 171), (1, .ref 0), (0, .ref 1999999)]) b (zz_mc (List.mem_cons_of_mem _ (List.mem_cons_of_mem _ List.mem_cons_self)) (zz_mc (List.mem_cons_of_mem _ (List.mem_cons_of_mem _ (List.mem_cons_of_mem _ List.mem_cons_self))) (zz_mc (List.mem_cons_of_mem _ (List.mem_cons_of_mem _ (List.mem_cons_of_mem _ (List.mem_cons_of_mem _ List.mem_cons_self)))) (zz_mc (List.mem_cons_of_mem _ (List.mem_cons_of_mem _ (List.mem_cons_of_mem _ (List.mem_cons_of_mem _ (List.mem_cons_of_mem _ List.mem_cons_self))))) (zz_mc (List.mem_cons_of_mem _ (List.mem_cons_of_mem _ (List.mem_cons_of_mem _ (List.mem_cons_of_mem _ (List.mem_cons_of_mem _ (List.mem_cons_of_mem _ List.mem_cons_self)))))) zz_mn)))))
theorem zLc_7 {l : Launch} {D : va_G} {cy : Nat → ClassId} {z0 : Nat} {sp : Nat → Nat} {G : State → Prop} (hG : zz_GF z0 G) (hP : ∀ U, G U → zz_GD zS zS2 zLg z0 sp U) (hl : l.stackTraces = false) (hE : ∀ U, G U → zGX z0 U) {mn : String} {xs : Nat → Int32} (hX : ∀ U, G U → va_T .int (sp 999999) 4 (fun j => .int (xs j)) (fun q : Nat => z0 ≤ q) U U.heap) : ∃ w2, zz_B l zTs D zcl zFK cy z0 sp (zTys cy) G "ToolMillLaw" mn 7 code 16 (39, zLv (Int32.ofNat 0), [.int (Int32.ofNat 7)], zW3) (1487, zLv (Int32.ofNat 0), [], w2) ∧ w2.1 ≤ 331 ∧ w2.2.1 ≤ 2300700 := by
  obtain ⟨k, v, w1, w2, hH, hR, hi, ⟨M, hs, hM, ht⟩, ho, n1, n2⟩ := zC_unit (l := l) (D := D) (cy := cy) (sp := sp) hG hP hl hE (xs 1) (xs 2)
  have hT := zM_th (d := 15) (l := l) (D := D) (cy := cy) (sp := sp) hG hP hs hM ht
  have hi2 := zz_has_c hM
  refine ⟨w2, ?_, n1, n2⟩
  have b := zz_B_rf (l := l) (Ts := zTs) (D := D) (cl := zcl) (fk := zFK) (cy := cy) (z0 := z0) (sp := sp) (tys := zTys cy) (G := G) (own := "ToolMillLaw") (mn := mn) (nL := 7) (cc := code) (d := 16) ((39, [(4, .int (Int32.ofNat 0)), (3, .ref 328), (2, .ref 171), (1, .ref 0), (0, .ref 1999999)], [.int (Int32.ofNat 7)], zW3) : zz_F)
  replace b := zz_fo b (zlw_39 (K := zz_k0) zz_k0_KS hG hP) (ze_tsw_k (t := 459) (by decide) (by decide))
  replace b := zz_fo b (zlw_459 (K := zz_k0) zz_k0_KS hG hP) (ze_aload rfl)
  replace b := zz_fo b (zlw_460 (K := zz_k0) zz_k0_KS hG hP) (ze_aload rfl)
  replace b := zz_fo b (zlw_461 (K := zz_k0) zz_k0_KS hG hP) (ze_iload rfl)
  replace b := zz_fo b (zlw_463 (K := zz_k0) zz_k0_KS hG hP) ze_const
  replace b := zz_fo b (zlw_464 (K := zz_k0) zz_k0_KS hG hP) (ze_iadd (by decide : _ = Int32.ofNat 1))
  replace b := zz_fo b (zlw_465 (K := zz_k0) (L := 4) (xs := xs) zz_k0_KS hG hP hX (by decide)) (ze_kl (zl_kl xs 1 (by decide)) (zz_nI_of _))
  replace b := zz_fo b (zlw_466 (K := zz_k0) zz_k0_KS hG hP) (ze_aload rfl)
  replace b := zz_fo b (zlw_467 (K := zz_k0) zz_k0_KS hG hP) (ze_iload rfl)
  replace b := zz_fo b (zlw_469 (K := zz_k0) zz_k0_KS hG hP) ze_const
  replace b := zz_fo b (zlw_470 (K := zz_k0) zz_k0_KS hG hP) (ze_iadd (by decide : _ = Int32.ofNat 2))
  replace b := zz_fo b (zlw_471 (K := zz_k0) (L := 4) (xs := xs) zz_k0_KS hG hP hX (by decide)) (ze_kl (zl_kl xs 2 (by decide)) (zz_nI_of _))
  replace b := zz_fo b (zlw_472 (K := zz_k0) zz_k0_KS hG hP) (ze_aload rfl)
  replace b := zz_gH b (zlh_473 (rv := [.int k]) (r := []) hG hH rfl rfl (zz_lb rfl))
  replace b := zz_fo b (zlw_476 (K := zz_k0) zz_k0_KS hG hP) (ze_istore (lv' := [(4, _), (3, _), (2, _), (1, _), (0, _)]) rfl)
  replace b := zz_fo b (zlw_478 (K := zz_k0) zz_k0_KS hG hP) (ze_aload rfl)
  replace b := zz_fo b (zlw_479 (K := zz_k0) zz_k0_KS hG hP) (ze_aload rfl)
  replace b := zz_fo b (zlw_480 (K := zz_k0) zz_k0_KS hG hP) (ze_iload rfl)
  replace b := zz_fo b (zlw_482 (K := zz_k0) zz_k0_KS hG hP) ze_const
  replace b := zz_fo b (zlw_483 (K := zz_k0) zz_k0_KS hG hP) (ze_iadd (by decide : _ = Int32.ofNat 1))
  replace b := zz_fo b (zlw_484 (K := zz_k0) (L := 4) (xs := xs) zz_k0_KS hG hP hX (by decide)) (ze_kl (zl_kl xs 1 (by decide)) (zz_nI_of _))
  replace b := zz_fo b (zlw_485 (K := zz_k0) zz_k0_KS hG hP) (ze_aload rfl)
  replace b := zz_fo b (zlw_486 (K := zz_k0) zz_k0_KS hG hP) (ze_iload rfl)
  replace b := zz_fo b (zlw_488 (K := zz_k0) zz_k0_KS hG hP) ze_const
  replace b := zz_fo b (zlw_489 (K := zz_k0) zz_k0_KS hG hP) (ze_iadd (by decide : _ = Int32.ofNat 2))
  replace b := zz_fo b (zlw_490 (K := zz_k0) (L := 4) (xs := xs) zz_k0_KS hG hP hX (by decide)) (ze_kl (zl_kl xs 2 (by decide)) (zz_nI_of _))
  replace b := zz_gVi b (fun K h => zlw_491 h hG hP) hR rfl rfl hi (zz_lb rfl)
  replace b := zz_fo b (zlw_494 (K := zz_k0) zz_k0_KS hG hP) (ze_istore (lv' := [(5, _), (4, _), (3, _), (2, _), (1, _), (0, _)]) rfl)
  replace b := zz_fo b (zlw_496 (K := zz_k0) zz_k0_KS hG hP) (ze_aload rfl)
  replace b := zz_gVi b (fun K h => zlw_497 h hG hP) hT rfl rfl hi2 (zz_lb rfl)
  replace b := zz_fo b (zlw_500 (K := zz_k0) zz_k0_KS hG hP) (ze_iload rfl)
  replace b := zz_fo b (zlw_502 (K := zz_k0) zz_k0_KS hG hP) (ze_icmp_eq_t rfl)
  replace b := zz_fo b (zlw_507 (K := zz_k0) zz_k0_KS hG hP) (ze_iload rfl)
  by_cases hk : k = 0
  case neg =>
    replace b := zz_fo b (zlw_509 (K := zz_k0) zz_k0_KS hG hP) (ze_if_ne_t hk)
    replace b := zz_fo b (zlw_524 (K := zz_k0) zz_k0_KS hG hP) ze_goto
    exact zz_fl (lv' := [(4, .int (Int32.ofNat 0)), (3, .ref 328), (2, .ref 171), (1, .ref 0), (0, .ref 1999999)]) b (zz_mc (List.mem_cons_of_mem _ (List.mem_cons_of_mem _ List.mem_cons_self)) (zz_mc (List.mem_cons_of_mem _ (List.mem_cons_of_mem _ (List.mem_cons_of_mem _ List.mem_cons_self))) (zz_mc (List.mem_cons_of_mem _ (List.mem_cons_of_mem _ (List.mem_cons_of_mem _ (List.mem_cons_of_mem _ List.mem_cons_self)))) (zz_mc (List.mem_cons_of_mem _ (List.mem_cons_of_mem _ (List.mem_cons_of_mem _ (List.mem_cons_of_mem _ (List.mem_cons_of_mem _ List.mem_cons_self))))) (zz_mc (List.mem_cons_of_mem _ (List.mem_cons_of_mem _ (List.mem_cons_of_mem _ (List.mem_cons_of_mem _ (List.mem_cons_of_mem _ (List.mem_cons_of_mem _ List.mem_cons_self)))))) zz_mn)))))
  obtain ⟨N, hN, hv⟩ := ho hk
  replace b := zz_fo b (zlw_509 (K := zz_k0) zz_k0_KS hG hP) (ze_if_ne_f (not_not_intro hk))
  replace b := zz_fo b (zlw_512 (K := zz_k0) zz_k0_KS hG hP) (ze_aload rfl)
  replace b := zz_fo b (zlw_513 (K := zz_k0) zz_k0_KS hG hP) ze_const
  replace b := zz_fo b (zlw_514 (K := zz_k0) zz_k0_KS hG hP) (ze_aldL hN (by decide) (by decide) hv)
  replace b := zz_fo b (zlw_515 (K := zz_k0) zz_k0_KS hG hP) (ze_iload rfl)
  replace b := zz_fo b (zlw_517 (K := zz_k0) zz_k0_KS hG hP) (ze_i2l rfl)
  replace b := zz_fo b (zlw_518 (K := zz_k0) zz_k0_KS hG hP) (ze_lcmp (zl_cmp _))
  replace b := zz_fo b (zlw_519 (K := zz_k0) zz_k0_KS hG hP) (ze_if_eq_t rfl)
  replace b := zz_fo b (zlw_524 (K := zz_k0) zz_k0_KS hG hP) ze_goto
  exact zz_fl (lv' := [(4, .int (Int32.ofNat 0)), (3, .ref 328), (2, .ref 171), (1, .ref 0), (0, .ref 1999999)]) b (zz_mc (List.mem_cons_of_mem _ (List.mem_cons_of_mem _ List.mem_cons_self)) (zz_mc (List.mem_cons_of_mem _ (List.mem_cons_of_mem _ (List.mem_cons_of_mem _ List.mem_cons_self))) (zz_mc (List.mem_cons_of_mem _ (List.mem_cons_of_mem _ (List.mem_cons_of_mem _ (List.mem_cons_of_mem _ List.mem_cons_self)))) (zz_mc (List.mem_cons_of_mem _ (List.mem_cons_of_mem _ (List.mem_cons_of_mem _ (List.mem_cons_of_mem _ (List.mem_cons_of_mem _ List.mem_cons_self))))) (zz_mc (List.mem_cons_of_mem _ (List.mem_cons_of_mem _ (List.mem_cons_of_mem _ (List.mem_cons_of_mem _ (List.mem_cons_of_mem _ (List.mem_cons_of_mem _ List.mem_cons_self)))))) zz_mn)))))
theorem zLc_8 {l : Launch} {D : va_G} {cy : Nat → ClassId} {z0 : Nat} {sp : Nat → Nat} {G : State → Prop} (hG : zz_GF z0 G) (hP : ∀ U, G U → zz_GD zS zS2 zLg z0 sp U) (hl : l.stackTraces = false) (hE : ∀ U, G U → zGX z0 U) {mn : String} {xs : Nat → Int32} (hX : ∀ U, G U → va_T .int (sp 999999) 4 (fun j => .int (xs j)) (fun q : Nat => z0 ≤ q) U U.heap) : ∃ w2, zz_B l zTs D zcl zFK cy z0 sp (zTys cy) G "ToolMillLaw" mn 7 code 16 (39, zLv (Int32.ofNat 0), [.int (Int32.ofNat 8)], zW3) (1487, zLv (Int32.ofNat 0), [], w2) ∧ w2.1 ≤ 331 ∧ w2.2.1 ≤ 2300700 := by
  obtain ⟨k, v, w1, w2, hH, hR, hi, ⟨M, hs, hM, ht⟩, ho, n1, n2⟩ := zC_section (l := l) (D := D) (cy := cy) (sp := sp) hG hP hl hE (xs 1) (xs 2) (xs 3)
  have hT := zM_th (d := 15) (l := l) (D := D) (cy := cy) (sp := sp) hG hP hs hM ht
  have hi2 := zz_has_c hM
  refine ⟨w2, ?_, n1, n2⟩
  have b := zz_B_rf (l := l) (Ts := zTs) (D := D) (cl := zcl) (fk := zFK) (cy := cy) (z0 := z0) (sp := sp) (tys := zTys cy) (G := G) (own := "ToolMillLaw") (mn := mn) (nL := 7) (cc := code) (d := 16) ((39, [(4, .int (Int32.ofNat 0)), (3, .ref 328), (2, .ref 171), (1, .ref 0), (0, .ref 1999999)], [.int (Int32.ofNat 8)], zW3) : zz_F)
  replace b := zz_fo b (zlw_39 (K := zz_k0) zz_k0_KS hG hP) (ze_tsw_k (t := 527) (by decide) (by decide))
  replace b := zz_fo b (zlw_527 (K := zz_k0) zz_k0_KS hG hP) (ze_aload rfl)
  replace b := zz_fo b (zlw_528 (K := zz_k0) zz_k0_KS hG hP) (ze_aload rfl)
  replace b := zz_fo b (zlw_529 (K := zz_k0) zz_k0_KS hG hP) (ze_iload rfl)
  replace b := zz_fo b (zlw_531 (K := zz_k0) zz_k0_KS hG hP) ze_const
  replace b := zz_fo b (zlw_532 (K := zz_k0) zz_k0_KS hG hP) (ze_iadd (by decide : _ = Int32.ofNat 1))
  replace b := zz_fo b (zlw_533 (K := zz_k0) (L := 4) (xs := xs) zz_k0_KS hG hP hX (by decide)) (ze_kl (zl_kl xs 1 (by decide)) (zz_nI_of _))
  replace b := zz_fo b (zlw_534 (K := zz_k0) zz_k0_KS hG hP) (ze_aload rfl)
  replace b := zz_fo b (zlw_535 (K := zz_k0) zz_k0_KS hG hP) (ze_iload rfl)
  replace b := zz_fo b (zlw_537 (K := zz_k0) zz_k0_KS hG hP) ze_const
  replace b := zz_fo b (zlw_538 (K := zz_k0) zz_k0_KS hG hP) (ze_iadd (by decide : _ = Int32.ofNat 2))
  replace b := zz_fo b (zlw_539 (K := zz_k0) (L := 4) (xs := xs) zz_k0_KS hG hP hX (by decide)) (ze_kl (zl_kl xs 2 (by decide)) (zz_nI_of _))
  replace b := zz_fo b (zlw_540 (K := zz_k0) zz_k0_KS hG hP) (ze_aload rfl)
  replace b := zz_fo b (zlw_541 (K := zz_k0) zz_k0_KS hG hP) (ze_iload rfl)
  replace b := zz_fo b (zlw_543 (K := zz_k0) zz_k0_KS hG hP) ze_const
  replace b := zz_fo b (zlw_544 (K := zz_k0) zz_k0_KS hG hP) (ze_iadd (by decide : _ = Int32.ofNat 3))
  replace b := zz_fo b (zlw_545 (K := zz_k0) (L := 4) (xs := xs) zz_k0_KS hG hP hX (by decide)) (ze_kl (zl_kl xs 3 (by decide)) (zz_nI_of _))
  replace b := zz_fo b (zlw_546 (K := zz_k0) zz_k0_KS hG hP) (ze_aload rfl)
  replace b := zz_gH b (zlh_547 (rv := [.int k]) (r := []) hG hH rfl rfl (zz_lb rfl))
  replace b := zz_fo b (zlw_550 (K := zz_k0) zz_k0_KS hG hP) (ze_istore (lv' := [(4, _), (3, _), (2, _), (1, _), (0, _)]) rfl)
  replace b := zz_fo b (zlw_552 (K := zz_k0) zz_k0_KS hG hP) (ze_aload rfl)
  replace b := zz_fo b (zlw_553 (K := zz_k0) zz_k0_KS hG hP) (ze_aload rfl)
  replace b := zz_fo b (zlw_554 (K := zz_k0) zz_k0_KS hG hP) (ze_iload rfl)
  replace b := zz_fo b (zlw_556 (K := zz_k0) zz_k0_KS hG hP) ze_const
  replace b := zz_fo b (zlw_557 (K := zz_k0) zz_k0_KS hG hP) (ze_iadd (by decide : _ = Int32.ofNat 1))
  replace b := zz_fo b (zlw_558 (K := zz_k0) (L := 4) (xs := xs) zz_k0_KS hG hP hX (by decide)) (ze_kl (zl_kl xs 1 (by decide)) (zz_nI_of _))
  replace b := zz_fo b (zlw_559 (K := zz_k0) zz_k0_KS hG hP) (ze_aload rfl)
  replace b := zz_fo b (zlw_560 (K := zz_k0) zz_k0_KS hG hP) (ze_iload rfl)
  replace b := zz_fo b (zlw_562 (K := zz_k0) zz_k0_KS hG hP) ze_const
  replace b := zz_fo b (zlw_563 (K := zz_k0) zz_k0_KS hG hP) (ze_iadd (by decide : _ = Int32.ofNat 2))
  replace b := zz_fo b (zlw_564 (K := zz_k0) (L := 4) (xs := xs) zz_k0_KS hG hP hX (by decide)) (ze_kl (zl_kl xs 2 (by decide)) (zz_nI_of _))
  replace b := zz_fo b (zlw_565 (K := zz_k0) zz_k0_KS hG hP) (ze_aload rfl)
  replace b := zz_fo b (zlw_566 (K := zz_k0) zz_k0_KS hG hP) (ze_iload rfl)
  replace b := zz_fo b (zlw_568 (K := zz_k0) zz_k0_KS hG hP) ze_const
  replace b := zz_fo b (zlw_569 (K := zz_k0) zz_k0_KS hG hP) (ze_iadd (by decide : _ = Int32.ofNat 3))
  replace b := zz_fo b (zlw_570 (K := zz_k0) (L := 4) (xs := xs) zz_k0_KS hG hP hX (by decide)) (ze_kl (zl_kl xs 3 (by decide)) (zz_nI_of _))
  replace b := zz_gVi b (fun K h => zlw_571 h hG hP) hR rfl rfl hi (zz_lb rfl)
  replace b := zz_fo b (zlw_574 (K := zz_k0) zz_k0_KS hG hP) (ze_istore (lv' := [(5, _), (4, _), (3, _), (2, _), (1, _), (0, _)]) rfl)
  replace b := zz_fo b (zlw_576 (K := zz_k0) zz_k0_KS hG hP) (ze_aload rfl)
  replace b := zz_gVi b (fun K h => zlw_577 h hG hP) hT rfl rfl hi2 (zz_lb rfl)
  replace b := zz_fo b (zlw_580 (K := zz_k0) zz_k0_KS hG hP) (ze_iload rfl)
  replace b := zz_fo b (zlw_582 (K := zz_k0) zz_k0_KS hG hP) (ze_icmp_eq_t rfl)
  replace b := zz_fo b (zlw_587 (K := zz_k0) zz_k0_KS hG hP) (ze_iload rfl)
  by_cases hk : k = 0
  case neg =>
    replace b := zz_fo b (zlw_589 (K := zz_k0) zz_k0_KS hG hP) (ze_if_ne_t hk)
    replace b := zz_fo b (zlw_604 (K := zz_k0) zz_k0_KS hG hP) ze_goto
    exact zz_fl (lv' := [(4, .int (Int32.ofNat 0)), (3, .ref 328), (2, .ref 171), (1, .ref 0), (0, .ref 1999999)]) b (zz_mc (List.mem_cons_of_mem _ (List.mem_cons_of_mem _ List.mem_cons_self)) (zz_mc (List.mem_cons_of_mem _ (List.mem_cons_of_mem _ (List.mem_cons_of_mem _ List.mem_cons_self))) (zz_mc (List.mem_cons_of_mem _ (List.mem_cons_of_mem _ (List.mem_cons_of_mem _ (List.mem_cons_of_mem _ List.mem_cons_self)))) (zz_mc (List.mem_cons_of_mem _ (List.mem_cons_of_mem _ (List.mem_cons_of_mem _ (List.mem_cons_of_mem _ (List.mem_cons_of_mem _ List.mem_cons_self))))) (zz_mc (List.mem_cons_of_mem _ (List.mem_cons_of_mem _ (List.mem_cons_of_mem _ (List.mem_cons_of_mem _ (List.mem_cons_of_mem _ (List.mem_cons_of_mem _ List.mem_cons_self)))))) zz_mn)))))
  obtain ⟨N, hN, hv⟩ := ho hk
  replace b := zz_fo b (zlw_589 (K := zz_k0) zz_k0_KS hG hP) (ze_if_ne_f (not_not_intro hk))
  replace b := zz_fo b (zlw_592 (K := zz_k0) zz_k0_KS hG hP) (ze_aload rfl)
  replace b := zz_fo b (zlw_593 (K := zz_k0) zz_k0_KS hG hP) ze_const
  replace b := zz_fo b (zlw_594 (K := zz_k0) zz_k0_KS hG hP) (ze_aldL hN (by decide) (by decide) hv)
  replace b := zz_fo b (zlw_595 (K := zz_k0) zz_k0_KS hG hP) (ze_iload rfl)
  replace b := zz_fo b (zlw_597 (K := zz_k0) zz_k0_KS hG hP) (ze_i2l rfl)
  replace b := zz_fo b (zlw_598 (K := zz_k0) zz_k0_KS hG hP) (ze_lcmp (zl_cmp _))
  replace b := zz_fo b (zlw_599 (K := zz_k0) zz_k0_KS hG hP) (ze_if_eq_t rfl)
  replace b := zz_fo b (zlw_604 (K := zz_k0) zz_k0_KS hG hP) ze_goto
  exact zz_fl (lv' := [(4, .int (Int32.ofNat 0)), (3, .ref 328), (2, .ref 171), (1, .ref 0), (0, .ref 1999999)]) b (zz_mc (List.mem_cons_of_mem _ (List.mem_cons_of_mem _ List.mem_cons_self)) (zz_mc (List.mem_cons_of_mem _ (List.mem_cons_of_mem _ (List.mem_cons_of_mem _ List.mem_cons_self))) (zz_mc (List.mem_cons_of_mem _ (List.mem_cons_of_mem _ (List.mem_cons_of_mem _ (List.mem_cons_of_mem _ List.mem_cons_self)))) (zz_mc (List.mem_cons_of_mem _ (List.mem_cons_of_mem _ (List.mem_cons_of_mem _ (List.mem_cons_of_mem _ (List.mem_cons_of_mem _ List.mem_cons_self))))) (zz_mc (List.mem_cons_of_mem _ (List.mem_cons_of_mem _ (List.mem_cons_of_mem _ (List.mem_cons_of_mem _ (List.mem_cons_of_mem _ (List.mem_cons_of_mem _ List.mem_cons_self)))))) zz_mn)))))
theorem zLc_9 {l : Launch} {D : va_G} {cy : Nat → ClassId} {z0 : Nat} {sp : Nat → Nat} {G : State → Prop} (hG : zz_GF z0 G) (hP : ∀ U, G U → zz_GD zS zS2 zLg z0 sp U) (hl : l.stackTraces = false) (hE : ∀ U, G U → zGX z0 U) {mn : String} {xs : Nat → Int32} (hX : ∀ U, G U → va_T .int (sp 999999) 4 (fun j => .int (xs j)) (fun q : Nat => z0 ≤ q) U U.heap) : ∃ w2, zz_B l zTs D zcl zFK cy z0 sp (zTys cy) G "ToolMillLaw" mn 7 code 16 (39, zLv (Int32.ofNat 0), [.int (Int32.ofNat 9)], zW3) (1487, zLv (Int32.ofNat 0), [], w2) ∧ w2.1 ≤ 331 ∧ w2.2.1 ≤ 2300700 := by
  obtain ⟨k, v, w1, w2, hH, hR, hi, ⟨M, hs, hM, ht⟩, ho, n1, n2⟩ := zC_byteOf (l := l) (D := D) (cy := cy) (sp := sp) hG hP hl hE (xs 1) (xs 2) (xs 3)
  have hT := zM_th (d := 15) (l := l) (D := D) (cy := cy) (sp := sp) hG hP hs hM ht
  have hi2 := zz_has_c hM
  refine ⟨w2, ?_, n1, n2⟩
  have b := zz_B_rf (l := l) (Ts := zTs) (D := D) (cl := zcl) (fk := zFK) (cy := cy) (z0 := z0) (sp := sp) (tys := zTys cy) (G := G) (own := "ToolMillLaw") (mn := mn) (nL := 7) (cc := code) (d := 16) ((39, [(4, .int (Int32.ofNat 0)), (3, .ref 328), (2, .ref 171), (1, .ref 0), (0, .ref 1999999)], [.int (Int32.ofNat 9)], zW3) : zz_F)
  replace b := zz_fo b (zlw_39 (K := zz_k0) zz_k0_KS hG hP) (ze_tsw_k (t := 607) (by decide) (by decide))
  replace b := zz_fo b (zlw_607 (K := zz_k0) zz_k0_KS hG hP) (ze_aload rfl)
  replace b := zz_fo b (zlw_608 (K := zz_k0) zz_k0_KS hG hP) (ze_aload rfl)
  replace b := zz_fo b (zlw_609 (K := zz_k0) zz_k0_KS hG hP) (ze_iload rfl)
  replace b := zz_fo b (zlw_611 (K := zz_k0) zz_k0_KS hG hP) ze_const
  replace b := zz_fo b (zlw_612 (K := zz_k0) zz_k0_KS hG hP) (ze_iadd (by decide : _ = Int32.ofNat 1))
  replace b := zz_fo b (zlw_613 (K := zz_k0) (L := 4) (xs := xs) zz_k0_KS hG hP hX (by decide)) (ze_kl (zl_kl xs 1 (by decide)) (zz_nI_of _))
  replace b := zz_fo b (zlw_614 (K := zz_k0) zz_k0_KS hG hP) (ze_aload rfl)
  replace b := zz_fo b (zlw_615 (K := zz_k0) zz_k0_KS hG hP) (ze_iload rfl)
  replace b := zz_fo b (zlw_617 (K := zz_k0) zz_k0_KS hG hP) ze_const
  replace b := zz_fo b (zlw_618 (K := zz_k0) zz_k0_KS hG hP) (ze_iadd (by decide : _ = Int32.ofNat 2))
  replace b := zz_fo b (zlw_619 (K := zz_k0) (L := 4) (xs := xs) zz_k0_KS hG hP hX (by decide)) (ze_kl (zl_kl xs 2 (by decide)) (zz_nI_of _))
  replace b := zz_fo b (zlw_620 (K := zz_k0) zz_k0_KS hG hP) (ze_aload rfl)
  replace b := zz_fo b (zlw_621 (K := zz_k0) zz_k0_KS hG hP) (ze_iload rfl)
  replace b := zz_fo b (zlw_623 (K := zz_k0) zz_k0_KS hG hP) ze_const
  replace b := zz_fo b (zlw_624 (K := zz_k0) zz_k0_KS hG hP) (ze_iadd (by decide : _ = Int32.ofNat 3))
  replace b := zz_fo b (zlw_625 (K := zz_k0) (L := 4) (xs := xs) zz_k0_KS hG hP hX (by decide)) (ze_kl (zl_kl xs 3 (by decide)) (zz_nI_of _))
  replace b := zz_fo b (zlw_626 (K := zz_k0) zz_k0_KS hG hP) (ze_aload rfl)
  replace b := zz_gH b (zlh_627 (rv := [.int k]) (r := []) hG hH rfl rfl (zz_lb rfl))
  replace b := zz_fo b (zlw_630 (K := zz_k0) zz_k0_KS hG hP) (ze_istore (lv' := [(4, _), (3, _), (2, _), (1, _), (0, _)]) rfl)
  replace b := zz_fo b (zlw_632 (K := zz_k0) zz_k0_KS hG hP) (ze_aload rfl)
  replace b := zz_fo b (zlw_633 (K := zz_k0) zz_k0_KS hG hP) (ze_aload rfl)
  replace b := zz_fo b (zlw_634 (K := zz_k0) zz_k0_KS hG hP) (ze_iload rfl)
  replace b := zz_fo b (zlw_636 (K := zz_k0) zz_k0_KS hG hP) ze_const
  replace b := zz_fo b (zlw_637 (K := zz_k0) zz_k0_KS hG hP) (ze_iadd (by decide : _ = Int32.ofNat 1))
  replace b := zz_fo b (zlw_638 (K := zz_k0) (L := 4) (xs := xs) zz_k0_KS hG hP hX (by decide)) (ze_kl (zl_kl xs 1 (by decide)) (zz_nI_of _))
  replace b := zz_fo b (zlw_639 (K := zz_k0) zz_k0_KS hG hP) (ze_aload rfl)
  replace b := zz_fo b (zlw_640 (K := zz_k0) zz_k0_KS hG hP) (ze_iload rfl)
  replace b := zz_fo b (zlw_642 (K := zz_k0) zz_k0_KS hG hP) ze_const
  replace b := zz_fo b (zlw_643 (K := zz_k0) zz_k0_KS hG hP) (ze_iadd (by decide : _ = Int32.ofNat 2))
  replace b := zz_fo b (zlw_644 (K := zz_k0) (L := 4) (xs := xs) zz_k0_KS hG hP hX (by decide)) (ze_kl (zl_kl xs 2 (by decide)) (zz_nI_of _))
  replace b := zz_fo b (zlw_645 (K := zz_k0) zz_k0_KS hG hP) (ze_aload rfl)
  replace b := zz_fo b (zlw_646 (K := zz_k0) zz_k0_KS hG hP) (ze_iload rfl)
  replace b := zz_fo b (zlw_648 (K := zz_k0) zz_k0_KS hG hP) ze_const
  replace b := zz_fo b (zlw_649 (K := zz_k0) zz_k0_KS hG hP) (ze_iadd (by decide : _ = Int32.ofNat 3))
  replace b := zz_fo b (zlw_650 (K := zz_k0) (L := 4) (xs := xs) zz_k0_KS hG hP hX (by decide)) (ze_kl (zl_kl xs 3 (by decide)) (zz_nI_of _))
  replace b := zz_gVi b (fun K h => zlw_651 h hG hP) hR rfl rfl hi (zz_lb rfl)
  replace b := zz_fo b (zlw_654 (K := zz_k0) zz_k0_KS hG hP) (ze_istore (lv' := [(5, _), (4, _), (3, _), (2, _), (1, _), (0, _)]) rfl)
  replace b := zz_fo b (zlw_656 (K := zz_k0) zz_k0_KS hG hP) (ze_aload rfl)
  replace b := zz_gVi b (fun K h => zlw_657 h hG hP) hT rfl rfl hi2 (zz_lb rfl)
  replace b := zz_fo b (zlw_660 (K := zz_k0) zz_k0_KS hG hP) (ze_iload rfl)
  replace b := zz_fo b (zlw_662 (K := zz_k0) zz_k0_KS hG hP) (ze_icmp_eq_t rfl)
  replace b := zz_fo b (zlw_667 (K := zz_k0) zz_k0_KS hG hP) (ze_iload rfl)
  by_cases hk : k = 0
  case neg =>
    replace b := zz_fo b (zlw_669 (K := zz_k0) zz_k0_KS hG hP) (ze_if_ne_t hk)
    replace b := zz_fo b (zlw_684 (K := zz_k0) zz_k0_KS hG hP) ze_goto
    exact zz_fl (lv' := [(4, .int (Int32.ofNat 0)), (3, .ref 328), (2, .ref 171), (1, .ref 0), (0, .ref 1999999)]) b (zz_mc (List.mem_cons_of_mem _ (List.mem_cons_of_mem _ List.mem_cons_self)) (zz_mc (List.mem_cons_of_mem _ (List.mem_cons_of_mem _ (List.mem_cons_of_mem _ List.mem_cons_self))) (zz_mc (List.mem_cons_of_mem _ (List.mem_cons_of_mem _ (List.mem_cons_of_mem _ (List.mem_cons_of_mem _ List.mem_cons_self)))) (zz_mc (List.mem_cons_of_mem _ (List.mem_cons_of_mem _ (List.mem_cons_of_mem _ (List.mem_cons_of_mem _ (List.mem_cons_of_mem _ List.mem_cons_self))))) (zz_mc (List.mem_cons_of_mem _ (List.mem_cons_of_mem _ (List.mem_cons_of_mem _ (List.mem_cons_of_mem _ (List.mem_cons_of_mem _ (List.mem_cons_of_mem _ List.mem_cons_self)))))) zz_mn)))))
  obtain ⟨N, hN, hv⟩ := ho hk
  replace b := zz_fo b (zlw_669 (K := zz_k0) zz_k0_KS hG hP) (ze_if_ne_f (not_not_intro hk))
  replace b := zz_fo b (zlw_672 (K := zz_k0) zz_k0_KS hG hP) (ze_aload rfl)
  replace b := zz_fo b (zlw_673 (K := zz_k0) zz_k0_KS hG hP) ze_const
  replace b := zz_fo b (zlw_674 (K := zz_k0) zz_k0_KS hG hP) (ze_aldL hN (by decide) (by decide) hv)
  replace b := zz_fo b (zlw_675 (K := zz_k0) zz_k0_KS hG hP) (ze_iload rfl)
  replace b := zz_fo b (zlw_677 (K := zz_k0) zz_k0_KS hG hP) (ze_i2l rfl)
  replace b := zz_fo b (zlw_678 (K := zz_k0) zz_k0_KS hG hP) (ze_lcmp (zl_cmp _))
  replace b := zz_fo b (zlw_679 (K := zz_k0) zz_k0_KS hG hP) (ze_if_eq_t rfl)
  replace b := zz_fo b (zlw_684 (K := zz_k0) zz_k0_KS hG hP) ze_goto
  exact zz_fl (lv' := [(4, .int (Int32.ofNat 0)), (3, .ref 328), (2, .ref 171), (1, .ref 0), (0, .ref 1999999)]) b (zz_mc (List.mem_cons_of_mem _ (List.mem_cons_of_mem _ List.mem_cons_self)) (zz_mc (List.mem_cons_of_mem _ (List.mem_cons_of_mem _ (List.mem_cons_of_mem _ List.mem_cons_self))) (zz_mc (List.mem_cons_of_mem _ (List.mem_cons_of_mem _ (List.mem_cons_of_mem _ (List.mem_cons_of_mem _ List.mem_cons_self)))) (zz_mc (List.mem_cons_of_mem _ (List.mem_cons_of_mem _ (List.mem_cons_of_mem _ (List.mem_cons_of_mem _ (List.mem_cons_of_mem _ List.mem_cons_self))))) (zz_mc (List.mem_cons_of_mem _ (List.mem_cons_of_mem _ (List.mem_cons_of_mem _ (List.mem_cons_of_mem _ (List.mem_cons_of_mem _ (List.mem_cons_of_mem _ List.mem_cons_self)))))) zz_mn)))))
theorem zLc_10 {l : Launch} {D : va_G} {cy : Nat → ClassId} {z0 : Nat} {sp : Nat → Nat} {G : State → Prop} (hG : zz_GF z0 G) (hP : ∀ U, G U → zz_GD zS zS2 zLg z0 sp U) (hl : l.stackTraces = false) (hE : ∀ U, G U → zGX z0 U) {mn : String} {xs : Nat → Int32} (hX : ∀ U, G U → va_T .int (sp 999999) 4 (fun j => .int (xs j)) (fun q : Nat => z0 ≤ q) U U.heap) : ∃ w2, zz_B l zTs D zcl zFK cy z0 sp (zTys cy) G "ToolMillLaw" mn 7 code 16 (39, zLv (Int32.ofNat 0), [.int (Int32.ofNat 10)], zW3) (1487, zLv (Int32.ofNat 0), [], w2) ∧ w2.1 ≤ 331 ∧ w2.2.1 ≤ 2300700 := by
  obtain ⟨k, v, w1, w2, hH, hR, hi, ⟨M, hs, hM, ht⟩, ho, n1, n2⟩ := zC_label (l := l) (D := D) (cy := cy) (sp := sp) hG hP hl hE (xs 1) (xs 2) (xs 3)
  have hT := zM_th (d := 15) (l := l) (D := D) (cy := cy) (sp := sp) hG hP hs hM ht
  have hi2 := zz_has_c hM
  refine ⟨w2, ?_, n1, n2⟩
  have b := zz_B_rf (l := l) (Ts := zTs) (D := D) (cl := zcl) (fk := zFK) (cy := cy) (z0 := z0) (sp := sp) (tys := zTys cy) (G := G) (own := "ToolMillLaw") (mn := mn) (nL := 7) (cc := code) (d := 16) ((39, [(4, .int (Int32.ofNat 0)), (3, .ref 328), (2, .ref 171), (1, .ref 0), (0, .ref 1999999)], [.int (Int32.ofNat 10)], zW3) : zz_F)
  replace b := zz_fo b (zlw_39 (K := zz_k0) zz_k0_KS hG hP) (ze_tsw_k (t := 687) (by decide) (by decide))
  replace b := zz_fo b (zlw_687 (K := zz_k0) zz_k0_KS hG hP) (ze_aload rfl)
  replace b := zz_fo b (zlw_688 (K := zz_k0) zz_k0_KS hG hP) (ze_aload rfl)
  replace b := zz_fo b (zlw_689 (K := zz_k0) zz_k0_KS hG hP) (ze_iload rfl)
  replace b := zz_fo b (zlw_691 (K := zz_k0) zz_k0_KS hG hP) ze_const
  replace b := zz_fo b (zlw_692 (K := zz_k0) zz_k0_KS hG hP) (ze_iadd (by decide : _ = Int32.ofNat 1))
  replace b := zz_fo b (zlw_693 (K := zz_k0) (L := 4) (xs := xs) zz_k0_KS hG hP hX (by decide)) (ze_kl (zl_kl xs 1 (by decide)) (zz_nI_of _))
  replace b := zz_fo b (zlw_694 (K := zz_k0) zz_k0_KS hG hP) (ze_aload rfl)
  replace b := zz_fo b (zlw_695 (K := zz_k0) zz_k0_KS hG hP) (ze_iload rfl)
  replace b := zz_fo b (zlw_697 (K := zz_k0) zz_k0_KS hG hP) ze_const
  replace b := zz_fo b (zlw_698 (K := zz_k0) zz_k0_KS hG hP) (ze_iadd (by decide : _ = Int32.ofNat 2))
  replace b := zz_fo b (zlw_699 (K := zz_k0) (L := 4) (xs := xs) zz_k0_KS hG hP hX (by decide)) (ze_kl (zl_kl xs 2 (by decide)) (zz_nI_of _))
  replace b := zz_fo b (zlw_700 (K := zz_k0) zz_k0_KS hG hP) (ze_aload rfl)
  replace b := zz_fo b (zlw_701 (K := zz_k0) zz_k0_KS hG hP) (ze_iload rfl)
  replace b := zz_fo b (zlw_703 (K := zz_k0) zz_k0_KS hG hP) ze_const
  replace b := zz_fo b (zlw_704 (K := zz_k0) zz_k0_KS hG hP) (ze_iadd (by decide : _ = Int32.ofNat 3))
  replace b := zz_fo b (zlw_705 (K := zz_k0) (L := 4) (xs := xs) zz_k0_KS hG hP hX (by decide)) (ze_kl (zl_kl xs 3 (by decide)) (zz_nI_of _))
  replace b := zz_fo b (zlw_706 (K := zz_k0) zz_k0_KS hG hP) (ze_aload rfl)
  replace b := zz_gH b (zlh_707 (rv := [.int k]) (r := []) hG hH rfl rfl (zz_lb rfl))
  replace b := zz_fo b (zlw_710 (K := zz_k0) zz_k0_KS hG hP) (ze_istore (lv' := [(4, _), (3, _), (2, _), (1, _), (0, _)]) rfl)
  replace b := zz_fo b (zlw_712 (K := zz_k0) zz_k0_KS hG hP) (ze_aload rfl)
  replace b := zz_fo b (zlw_713 (K := zz_k0) zz_k0_KS hG hP) (ze_aload rfl)
  replace b := zz_fo b (zlw_714 (K := zz_k0) zz_k0_KS hG hP) (ze_iload rfl)
  replace b := zz_fo b (zlw_716 (K := zz_k0) zz_k0_KS hG hP) ze_const
  replace b := zz_fo b (zlw_717 (K := zz_k0) zz_k0_KS hG hP) (ze_iadd (by decide : _ = Int32.ofNat 1))
  replace b := zz_fo b (zlw_718 (K := zz_k0) (L := 4) (xs := xs) zz_k0_KS hG hP hX (by decide)) (ze_kl (zl_kl xs 1 (by decide)) (zz_nI_of _))
  replace b := zz_fo b (zlw_719 (K := zz_k0) zz_k0_KS hG hP) (ze_aload rfl)
  replace b := zz_fo b (zlw_720 (K := zz_k0) zz_k0_KS hG hP) (ze_iload rfl)
  replace b := zz_fo b (zlw_722 (K := zz_k0) zz_k0_KS hG hP) ze_const
  replace b := zz_fo b (zlw_723 (K := zz_k0) zz_k0_KS hG hP) (ze_iadd (by decide : _ = Int32.ofNat 2))
  replace b := zz_fo b (zlw_724 (K := zz_k0) (L := 4) (xs := xs) zz_k0_KS hG hP hX (by decide)) (ze_kl (zl_kl xs 2 (by decide)) (zz_nI_of _))
  replace b := zz_fo b (zlw_725 (K := zz_k0) zz_k0_KS hG hP) (ze_aload rfl)
  replace b := zz_fo b (zlw_726 (K := zz_k0) zz_k0_KS hG hP) (ze_iload rfl)
  replace b := zz_fo b (zlw_728 (K := zz_k0) zz_k0_KS hG hP) ze_const
  replace b := zz_fo b (zlw_729 (K := zz_k0) zz_k0_KS hG hP) (ze_iadd (by decide : _ = Int32.ofNat 3))
  replace b := zz_fo b (zlw_730 (K := zz_k0) (L := 4) (xs := xs) zz_k0_KS hG hP hX (by decide)) (ze_kl (zl_kl xs 3 (by decide)) (zz_nI_of _))
  replace b := zz_gVi b (fun K h => zlw_731 h hG hP) hR rfl rfl hi (zz_lb rfl)
  replace b := zz_fo b (zlw_734 (K := zz_k0) zz_k0_KS hG hP) (ze_istore (lv' := [(5, _), (4, _), (3, _), (2, _), (1, _), (0, _)]) rfl)
  replace b := zz_fo b (zlw_736 (K := zz_k0) zz_k0_KS hG hP) (ze_aload rfl)
  replace b := zz_gVi b (fun K h => zlw_737 h hG hP) hT rfl rfl hi2 (zz_lb rfl)
  replace b := zz_fo b (zlw_740 (K := zz_k0) zz_k0_KS hG hP) (ze_iload rfl)
  replace b := zz_fo b (zlw_742 (K := zz_k0) zz_k0_KS hG hP) (ze_icmp_eq_t rfl)
  replace b := zz_fo b (zlw_747 (K := zz_k0) zz_k0_KS hG hP) (ze_iload rfl)
  by_cases hk : k = 0
  case neg =>
    replace b := zz_fo b (zlw_749 (K := zz_k0) zz_k0_KS hG hP) (ze_if_ne_t hk)
    replace b := zz_fo b (zlw_764 (K := zz_k0) zz_k0_KS hG hP) ze_goto
    exact zz_fl (lv' := [(4, .int (Int32.ofNat 0)), (3, .ref 328), (2, .ref 171), (1, .ref 0), (0, .ref 1999999)]) b (zz_mc (List.mem_cons_of_mem _ (List.mem_cons_of_mem _ List.mem_cons_self)) (zz_mc (List.mem_cons_of_mem _ (List.mem_cons_of_mem _ (List.mem_cons_of_mem _ List.mem_cons_self))) (zz_mc (List.mem_cons_of_mem _ (List.mem_cons_of_mem _ (List.mem_cons_of_mem _ (List.mem_cons_of_mem _ List.mem_cons_self)))) (zz_mc (List.mem_cons_of_mem _ (List.mem_cons_of_mem _ (List.mem_cons_of_mem _ (List.mem_cons_of_mem _ (List.mem_cons_of_mem _ List.mem_cons_self))))) (zz_mc (List.mem_cons_of_mem _ (List.mem_cons_of_mem _ (List.mem_cons_of_mem _ (List.mem_cons_of_mem _ (List.mem_cons_of_mem _ (List.mem_cons_of_mem _ List.mem_cons_self)))))) zz_mn)))))
  obtain ⟨N, hN, hv⟩ := ho hk
  replace b := zz_fo b (zlw_749 (K := zz_k0) zz_k0_KS hG hP) (ze_if_ne_f (not_not_intro hk))
  replace b := zz_fo b (zlw_752 (K := zz_k0) zz_k0_KS hG hP) (ze_aload rfl)
  replace b := zz_fo b (zlw_753 (K := zz_k0) zz_k0_KS hG hP) ze_const
  replace b := zz_fo b (zlw_754 (K := zz_k0) zz_k0_KS hG hP) (ze_aldL hN (by decide) (by decide) hv)
  replace b := zz_fo b (zlw_755 (K := zz_k0) zz_k0_KS hG hP) (ze_iload rfl)
  replace b := zz_fo b (zlw_757 (K := zz_k0) zz_k0_KS hG hP) (ze_i2l rfl)
  replace b := zz_fo b (zlw_758 (K := zz_k0) zz_k0_KS hG hP) (ze_lcmp (zl_cmp _))
  replace b := zz_fo b (zlw_759 (K := zz_k0) zz_k0_KS hG hP) (ze_if_eq_t rfl)
  replace b := zz_fo b (zlw_764 (K := zz_k0) zz_k0_KS hG hP) ze_goto
  exact zz_fl (lv' := [(4, .int (Int32.ofNat 0)), (3, .ref 328), (2, .ref 171), (1, .ref 0), (0, .ref 1999999)]) b (zz_mc (List.mem_cons_of_mem _ (List.mem_cons_of_mem _ List.mem_cons_self)) (zz_mc (List.mem_cons_of_mem _ (List.mem_cons_of_mem _ (List.mem_cons_of_mem _ List.mem_cons_self))) (zz_mc (List.mem_cons_of_mem _ (List.mem_cons_of_mem _ (List.mem_cons_of_mem _ (List.mem_cons_of_mem _ List.mem_cons_self)))) (zz_mc (List.mem_cons_of_mem _ (List.mem_cons_of_mem _ (List.mem_cons_of_mem _ (List.mem_cons_of_mem _ (List.mem_cons_of_mem _ List.mem_cons_self))))) (zz_mc (List.mem_cons_of_mem _ (List.mem_cons_of_mem _ (List.mem_cons_of_mem _ (List.mem_cons_of_mem _ (List.mem_cons_of_mem _ (List.mem_cons_of_mem _ List.mem_cons_self)))))) zz_mn)))))
theorem zLc_11 {l : Launch} {D : va_G} {cy : Nat → ClassId} {z0 : Nat} {sp : Nat → Nat} {G : State → Prop} (hG : zz_GF z0 G) (hP : ∀ U, G U → zz_GD zS zS2 zLg z0 sp U) (hl : l.stackTraces = false) (hE : ∀ U, G U → zGX z0 U) {mn : String} {xs : Nat → Int32} (hX : ∀ U, G U → va_T .int (sp 999999) 4 (fun j => .int (xs j)) (fun q : Nat => z0 ≤ q) U U.heap) : ∃ w2, zz_B l zTs D zcl zFK cy z0 sp (zTys cy) G "ToolMillLaw" mn 7 code 16 (39, zLv (Int32.ofNat 0), [.int (Int32.ofNat 11)], zW3) (1487, zLv (Int32.ofNat 0), [], w2) ∧ w2.1 ≤ 331 ∧ w2.2.1 ≤ 2300700 := by
  obtain ⟨k, v, w1, w2, hH, hR, hi, ⟨M, hs, hM, ht⟩, ho, n1, n2⟩ := zC_relocation (l := l) (D := D) (cy := cy) (sp := sp) hG hP hl hE (xs 1) (xs 2) (xs 3)
  have hT := zM_th (d := 15) (l := l) (D := D) (cy := cy) (sp := sp) hG hP hs hM ht
  have hi2 := zz_has_c hM
  refine ⟨w2, ?_, n1, n2⟩
  have b := zz_B_rf (l := l) (Ts := zTs) (D := D) (cl := zcl) (fk := zFK) (cy := cy) (z0 := z0) (sp := sp) (tys := zTys cy) (G := G) (own := "ToolMillLaw") (mn := mn) (nL := 7) (cc := code) (d := 16) ((39, [(4, .int (Int32.ofNat 0)), (3, .ref 328), (2, .ref 171), (1, .ref 0), (0, .ref 1999999)], [.int (Int32.ofNat 11)], zW3) : zz_F)
  replace b := zz_fo b (zlw_39 (K := zz_k0) zz_k0_KS hG hP) (ze_tsw_k (t := 767) (by decide) (by decide))
  replace b := zz_fo b (zlw_767 (K := zz_k0) zz_k0_KS hG hP) (ze_aload rfl)
  replace b := zz_fo b (zlw_768 (K := zz_k0) zz_k0_KS hG hP) (ze_aload rfl)
  replace b := zz_fo b (zlw_769 (K := zz_k0) zz_k0_KS hG hP) (ze_iload rfl)
  replace b := zz_fo b (zlw_771 (K := zz_k0) zz_k0_KS hG hP) ze_const
  replace b := zz_fo b (zlw_772 (K := zz_k0) zz_k0_KS hG hP) (ze_iadd (by decide : _ = Int32.ofNat 1))
  replace b := zz_fo b (zlw_773 (K := zz_k0) (L := 4) (xs := xs) zz_k0_KS hG hP hX (by decide)) (ze_kl (zl_kl xs 1 (by decide)) (zz_nI_of _))
  replace b := zz_fo b (zlw_774 (K := zz_k0) zz_k0_KS hG hP) (ze_aload rfl)
  replace b := zz_fo b (zlw_775 (K := zz_k0) zz_k0_KS hG hP) (ze_iload rfl)
  replace b := zz_fo b (zlw_777 (K := zz_k0) zz_k0_KS hG hP) ze_const
  replace b := zz_fo b (zlw_778 (K := zz_k0) zz_k0_KS hG hP) (ze_iadd (by decide : _ = Int32.ofNat 2))
  replace b := zz_fo b (zlw_779 (K := zz_k0) (L := 4) (xs := xs) zz_k0_KS hG hP hX (by decide)) (ze_kl (zl_kl xs 2 (by decide)) (zz_nI_of _))
  replace b := zz_fo b (zlw_780 (K := zz_k0) zz_k0_KS hG hP) (ze_aload rfl)
  replace b := zz_fo b (zlw_781 (K := zz_k0) zz_k0_KS hG hP) (ze_iload rfl)
  replace b := zz_fo b (zlw_783 (K := zz_k0) zz_k0_KS hG hP) ze_const
  replace b := zz_fo b (zlw_784 (K := zz_k0) zz_k0_KS hG hP) (ze_iadd (by decide : _ = Int32.ofNat 3))
  replace b := zz_fo b (zlw_785 (K := zz_k0) (L := 4) (xs := xs) zz_k0_KS hG hP hX (by decide)) (ze_kl (zl_kl xs 3 (by decide)) (zz_nI_of _))
  replace b := zz_fo b (zlw_786 (K := zz_k0) zz_k0_KS hG hP) (ze_aload rfl)
  replace b := zz_gH b (zlh_787 (rv := [.int k]) (r := []) hG hH rfl rfl (zz_lb rfl))
  replace b := zz_fo b (zlw_790 (K := zz_k0) zz_k0_KS hG hP) (ze_istore (lv' := [(4, _), (3, _), (2, _), (1, _), (0, _)]) rfl)
  replace b := zz_fo b (zlw_792 (K := zz_k0) zz_k0_KS hG hP) (ze_aload rfl)
  replace b := zz_fo b (zlw_793 (K := zz_k0) zz_k0_KS hG hP) (ze_aload rfl)
  replace b := zz_fo b (zlw_794 (K := zz_k0) zz_k0_KS hG hP) (ze_iload rfl)
  replace b := zz_fo b (zlw_796 (K := zz_k0) zz_k0_KS hG hP) ze_const
  replace b := zz_fo b (zlw_797 (K := zz_k0) zz_k0_KS hG hP) (ze_iadd (by decide : _ = Int32.ofNat 1))
  replace b := zz_fo b (zlw_798 (K := zz_k0) (L := 4) (xs := xs) zz_k0_KS hG hP hX (by decide)) (ze_kl (zl_kl xs 1 (by decide)) (zz_nI_of _))
  replace b := zz_fo b (zlw_799 (K := zz_k0) zz_k0_KS hG hP) (ze_aload rfl)
  replace b := zz_fo b (zlw_800 (K := zz_k0) zz_k0_KS hG hP) (ze_iload rfl)
  replace b := zz_fo b (zlw_802 (K := zz_k0) zz_k0_KS hG hP) ze_const
  replace b := zz_fo b (zlw_803 (K := zz_k0) zz_k0_KS hG hP) (ze_iadd (by decide : _ = Int32.ofNat 2))
  replace b := zz_fo b (zlw_804 (K := zz_k0) (L := 4) (xs := xs) zz_k0_KS hG hP hX (by decide)) (ze_kl (zl_kl xs 2 (by decide)) (zz_nI_of _))
  replace b := zz_fo b (zlw_805 (K := zz_k0) zz_k0_KS hG hP) (ze_aload rfl)
  replace b := zz_fo b (zlw_806 (K := zz_k0) zz_k0_KS hG hP) (ze_iload rfl)
  replace b := zz_fo b (zlw_808 (K := zz_k0) zz_k0_KS hG hP) ze_const
  replace b := zz_fo b (zlw_809 (K := zz_k0) zz_k0_KS hG hP) (ze_iadd (by decide : _ = Int32.ofNat 3))
  replace b := zz_fo b (zlw_810 (K := zz_k0) (L := 4) (xs := xs) zz_k0_KS hG hP hX (by decide)) (ze_kl (zl_kl xs 3 (by decide)) (zz_nI_of _))
  replace b := zz_gVi b (fun K h => zlw_811 h hG hP) hR rfl rfl hi (zz_lb rfl)
  replace b := zz_fo b (zlw_814 (K := zz_k0) zz_k0_KS hG hP) (ze_istore (lv' := [(5, _), (4, _), (3, _), (2, _), (1, _), (0, _)]) rfl)
  replace b := zz_fo b (zlw_816 (K := zz_k0) zz_k0_KS hG hP) (ze_aload rfl)
  replace b := zz_gVi b (fun K h => zlw_817 h hG hP) hT rfl rfl hi2 (zz_lb rfl)
  replace b := zz_fo b (zlw_820 (K := zz_k0) zz_k0_KS hG hP) (ze_iload rfl)
  replace b := zz_fo b (zlw_822 (K := zz_k0) zz_k0_KS hG hP) (ze_icmp_eq_t rfl)
  replace b := zz_fo b (zlw_827 (K := zz_k0) zz_k0_KS hG hP) (ze_iload rfl)
  by_cases hk : k = 0
  case neg =>
    replace b := zz_fo b (zlw_829 (K := zz_k0) zz_k0_KS hG hP) (ze_if_ne_t hk)
    replace b := zz_fo b (zlw_844 (K := zz_k0) zz_k0_KS hG hP) ze_goto
    exact zz_fl (lv' := [(4, .int (Int32.ofNat 0)), (3, .ref 328), (2, .ref 171), (1, .ref 0), (0, .ref 1999999)]) b (zz_mc (List.mem_cons_of_mem _ (List.mem_cons_of_mem _ List.mem_cons_self)) (zz_mc (List.mem_cons_of_mem _ (List.mem_cons_of_mem _ (List.mem_cons_of_mem _ List.mem_cons_self))) (zz_mc (List.mem_cons_of_mem _ (List.mem_cons_of_mem _ (List.mem_cons_of_mem _ (List.mem_cons_of_mem _ List.mem_cons_self)))) (zz_mc (List.mem_cons_of_mem _ (List.mem_cons_of_mem _ (List.mem_cons_of_mem _ (List.mem_cons_of_mem _ (List.mem_cons_of_mem _ List.mem_cons_self))))) (zz_mc (List.mem_cons_of_mem _ (List.mem_cons_of_mem _ (List.mem_cons_of_mem _ (List.mem_cons_of_mem _ (List.mem_cons_of_mem _ (List.mem_cons_of_mem _ List.mem_cons_self)))))) zz_mn)))))
  obtain ⟨N, hN, hv⟩ := ho hk
  replace b := zz_fo b (zlw_829 (K := zz_k0) zz_k0_KS hG hP) (ze_if_ne_f (not_not_intro hk))
  replace b := zz_fo b (zlw_832 (K := zz_k0) zz_k0_KS hG hP) (ze_aload rfl)
  replace b := zz_fo b (zlw_833 (K := zz_k0) zz_k0_KS hG hP) ze_const
  replace b := zz_fo b (zlw_834 (K := zz_k0) zz_k0_KS hG hP) (ze_aldL hN (by decide) (by decide) hv)
  replace b := zz_fo b (zlw_835 (K := zz_k0) zz_k0_KS hG hP) (ze_iload rfl)
  replace b := zz_fo b (zlw_837 (K := zz_k0) zz_k0_KS hG hP) (ze_i2l rfl)
  replace b := zz_fo b (zlw_838 (K := zz_k0) zz_k0_KS hG hP) (ze_lcmp (zl_cmp _))
  replace b := zz_fo b (zlw_839 (K := zz_k0) zz_k0_KS hG hP) (ze_if_eq_t rfl)
  replace b := zz_fo b (zlw_844 (K := zz_k0) zz_k0_KS hG hP) ze_goto
  exact zz_fl (lv' := [(4, .int (Int32.ofNat 0)), (3, .ref 328), (2, .ref 171), (1, .ref 0), (0, .ref 1999999)]) b (zz_mc (List.mem_cons_of_mem _ (List.mem_cons_of_mem _ List.mem_cons_self)) (zz_mc (List.mem_cons_of_mem _ (List.mem_cons_of_mem _ (List.mem_cons_of_mem _ List.mem_cons_self))) (zz_mc (List.mem_cons_of_mem _ (List.mem_cons_of_mem _ (List.mem_cons_of_mem _ (List.mem_cons_of_mem _ List.mem_cons_self)))) (zz_mc (List.mem_cons_of_mem _ (List.mem_cons_of_mem _ (List.mem_cons_of_mem _ (List.mem_cons_of_mem _ (List.mem_cons_of_mem _ List.mem_cons_self))))) (zz_mc (List.mem_cons_of_mem _ (List.mem_cons_of_mem _ (List.mem_cons_of_mem _ (List.mem_cons_of_mem _ (List.mem_cons_of_mem _ (List.mem_cons_of_mem _ List.mem_cons_self)))))) zz_mn)))))
theorem zLc_12 {l : Launch} {D : va_G} {cy : Nat → ClassId} {z0 : Nat} {sp : Nat → Nat} {G : State → Prop} (hG : zz_GF z0 G) (hP : ∀ U, G U → zz_GD zS zS2 zLg z0 sp U) (hl : l.stackTraces = false) (hE : ∀ U, G U → zGX z0 U) {mn : String} {xs : Nat → Int32} (hX : ∀ U, G U → va_T .int (sp 999999) 4 (fun j => .int (xs j)) (fun q : Nat => z0 ≤ q) U U.heap) : ∃ w2, zz_B l zTs D zcl zFK cy z0 sp (zTys cy) G "ToolMillLaw" mn 7 code 16 (39, zLv (Int32.ofNat 0), [.int (Int32.ofNat 12)], zW3) (1487, zLv (Int32.ofNat 0), [], w2) ∧ w2.1 ≤ 331 ∧ w2.2.1 ≤ 2300700 := by
  obtain ⟨k, v, w1, w2, hH, hR, hi, ⟨M, hs, hM, ht⟩, ho, n1, n2⟩ := zC_input (l := l) (D := D) (cy := cy) (sp := sp) hG hP hl hE (xs 1)
  have hT := zM_th (d := 15) (l := l) (D := D) (cy := cy) (sp := sp) hG hP hs hM ht
  have hi2 := zz_has_c hM
  refine ⟨w2, ?_, n1, n2⟩
  have b := zz_B_rf (l := l) (Ts := zTs) (D := D) (cl := zcl) (fk := zFK) (cy := cy) (z0 := z0) (sp := sp) (tys := zTys cy) (G := G) (own := "ToolMillLaw") (mn := mn) (nL := 7) (cc := code) (d := 16) ((39, [(4, .int (Int32.ofNat 0)), (3, .ref 328), (2, .ref 171), (1, .ref 0), (0, .ref 1999999)], [.int (Int32.ofNat 12)], zW3) : zz_F)
  replace b := zz_fo b (zlw_39 (K := zz_k0) zz_k0_KS hG hP) (ze_tsw_k (t := 847) (by decide) (by decide))
  replace b := zz_fo b (zlw_847 (K := zz_k0) zz_k0_KS hG hP) (ze_aload rfl)
  replace b := zz_fo b (zlw_848 (K := zz_k0) zz_k0_KS hG hP) (ze_aload rfl)
  replace b := zz_fo b (zlw_849 (K := zz_k0) zz_k0_KS hG hP) (ze_iload rfl)
  replace b := zz_fo b (zlw_851 (K := zz_k0) zz_k0_KS hG hP) ze_const
  replace b := zz_fo b (zlw_852 (K := zz_k0) zz_k0_KS hG hP) (ze_iadd (by decide : _ = Int32.ofNat 1))
  replace b := zz_fo b (zlw_853 (K := zz_k0) (L := 4) (xs := xs) zz_k0_KS hG hP hX (by decide)) (ze_kl (zl_kl xs 1 (by decide)) (zz_nI_of _))
  replace b := zz_fo b (zlw_854 (K := zz_k0) zz_k0_KS hG hP) (ze_aload rfl)
  replace b := zz_gH b (zlh_855 (rv := [.int k]) (r := []) hG hH rfl rfl (zz_lb rfl))
  replace b := zz_fo b (zlw_858 (K := zz_k0) zz_k0_KS hG hP) (ze_istore (lv' := [(4, _), (3, _), (2, _), (1, _), (0, _)]) rfl)
  replace b := zz_fo b (zlw_860 (K := zz_k0) zz_k0_KS hG hP) (ze_aload rfl)
  replace b := zz_fo b (zlw_861 (K := zz_k0) zz_k0_KS hG hP) (ze_aload rfl)
  replace b := zz_fo b (zlw_862 (K := zz_k0) zz_k0_KS hG hP) (ze_iload rfl)
  replace b := zz_fo b (zlw_864 (K := zz_k0) zz_k0_KS hG hP) ze_const
  replace b := zz_fo b (zlw_865 (K := zz_k0) zz_k0_KS hG hP) (ze_iadd (by decide : _ = Int32.ofNat 1))
  replace b := zz_fo b (zlw_866 (K := zz_k0) (L := 4) (xs := xs) zz_k0_KS hG hP hX (by decide)) (ze_kl (zl_kl xs 1 (by decide)) (zz_nI_of _))
  replace b := zz_gVi b (fun K h => zlw_867 h hG hP) hR rfl rfl hi (zz_lb rfl)
  replace b := zz_fo b (zlw_870 (K := zz_k0) zz_k0_KS hG hP) (ze_istore (lv' := [(5, _), (4, _), (3, _), (2, _), (1, _), (0, _)]) rfl)
  replace b := zz_fo b (zlw_872 (K := zz_k0) zz_k0_KS hG hP) (ze_aload rfl)
  replace b := zz_gVi b (fun K h => zlw_873 h hG hP) hT rfl rfl hi2 (zz_lb rfl)
  replace b := zz_fo b (zlw_876 (K := zz_k0) zz_k0_KS hG hP) (ze_iload rfl)
  replace b := zz_fo b (zlw_878 (K := zz_k0) zz_k0_KS hG hP) (ze_icmp_eq_t rfl)
  replace b := zz_fo b (zlw_883 (K := zz_k0) zz_k0_KS hG hP) (ze_iload rfl)
  by_cases hk : k = 0
  case neg =>
    replace b := zz_fo b (zlw_885 (K := zz_k0) zz_k0_KS hG hP) (ze_if_ne_t hk)
    replace b := zz_fo b (zlw_900 (K := zz_k0) zz_k0_KS hG hP) ze_goto
    exact zz_fl (lv' := [(4, .int (Int32.ofNat 0)), (3, .ref 328), (2, .ref 171), (1, .ref 0), (0, .ref 1999999)]) b (zz_mc (List.mem_cons_of_mem _ (List.mem_cons_of_mem _ List.mem_cons_self)) (zz_mc (List.mem_cons_of_mem _ (List.mem_cons_of_mem _ (List.mem_cons_of_mem _ List.mem_cons_self))) (zz_mc (List.mem_cons_of_mem _ (List.mem_cons_of_mem _ (List.mem_cons_of_mem _ (List.mem_cons_of_mem _ List.mem_cons_self)))) (zz_mc (List.mem_cons_of_mem _ (List.mem_cons_of_mem _ (List.mem_cons_of_mem _ (List.mem_cons_of_mem _ (List.mem_cons_of_mem _ List.mem_cons_self))))) (zz_mc (List.mem_cons_of_mem _ (List.mem_cons_of_mem _ (List.mem_cons_of_mem _ (List.mem_cons_of_mem _ (List.mem_cons_of_mem _ (List.mem_cons_of_mem _ List.mem_cons_self)))))) zz_mn)))))
  obtain ⟨N, hN, hv⟩ := ho hk
  replace b := zz_fo b (zlw_885 (K := zz_k0) zz_k0_KS hG hP) (ze_if_ne_f (not_not_intro hk))
  replace b := zz_fo b (zlw_888 (K := zz_k0) zz_k0_KS hG hP) (ze_aload rfl)
  replace b := zz_fo b (zlw_889 (K := zz_k0) zz_k0_KS hG hP) ze_const
  replace b := zz_fo b (zlw_890 (K := zz_k0) zz_k0_KS hG hP) (ze_aldL hN (by decide) (by decide) hv)
  replace b := zz_fo b (zlw_891 (K := zz_k0) zz_k0_KS hG hP) (ze_iload rfl)
  replace b := zz_fo b (zlw_893 (K := zz_k0) zz_k0_KS hG hP) (ze_i2l rfl)
  replace b := zz_fo b (zlw_894 (K := zz_k0) zz_k0_KS hG hP) (ze_lcmp (zl_cmp _))
  replace b := zz_fo b (zlw_895 (K := zz_k0) zz_k0_KS hG hP) (ze_if_eq_t rfl)
  replace b := zz_fo b (zlw_900 (K := zz_k0) zz_k0_KS hG hP) ze_goto
  exact zz_fl (lv' := [(4, .int (Int32.ofNat 0)), (3, .ref 328), (2, .ref 171), (1, .ref 0), (0, .ref 1999999)]) b (zz_mc (List.mem_cons_of_mem _ (List.mem_cons_of_mem _ List.mem_cons_self)) (zz_mc (List.mem_cons_of_mem _ (List.mem_cons_of_mem _ (List.mem_cons_of_mem _ List.mem_cons_self))) (zz_mc (List.mem_cons_of_mem _ (List.mem_cons_of_mem _ (List.mem_cons_of_mem _ (List.mem_cons_of_mem _ List.mem_cons_self)))) (zz_mc (List.mem_cons_of_mem _ (List.mem_cons_of_mem _ (List.mem_cons_of_mem _ (List.mem_cons_of_mem _ (List.mem_cons_of_mem _ List.mem_cons_self))))) (zz_mc (List.mem_cons_of_mem _ (List.mem_cons_of_mem _ (List.mem_cons_of_mem _ (List.mem_cons_of_mem _ (List.mem_cons_of_mem _ (List.mem_cons_of_mem _ List.mem_cons_self)))))) zz_mn)))))
theorem zLc_13 {l : Launch} {D : va_G} {cy : Nat → ClassId} {z0 : Nat} {sp : Nat → Nat} {G : State → Prop} (hG : zz_GF z0 G) (hP : ∀ U, G U → zz_GD zS zS2 zLg z0 sp U) (hl : l.stackTraces = false) (hE : ∀ U, G U → zGX z0 U) {mn : String} {xs : Nat → Int32} (hX : ∀ U, G U → va_T .int (sp 999999) 4 (fun j => .int (xs j)) (fun q : Nat => z0 ≤ q) U U.heap) : ∃ w2, zz_B l zTs D zcl zFK cy z0 sp (zTys cy) G "ToolMillLaw" mn 7 code 16 (39, zLv (Int32.ofNat 0), [.int (Int32.ofNat 13)], zW3) (1487, zLv (Int32.ofNat 0), [], w2) ∧ w2.1 ≤ 331 ∧ w2.2.1 ≤ 2300700 := by
  obtain ⟨w1, w2, hH, hR, hi, ⟨M, hs, hM, ht⟩, ho, n1, n2⟩ := zC_link (l := l) (D := D) (cy := cy) (sp := sp) hG hP hl hE (xs 1) (xs 2)
  have hT := zM_th (d := 15) (l := l) (D := D) (cy := cy) (sp := sp) hG hP hs hM ht
  have hi2 := zz_has_c hM
  refine ⟨w2, ?_, n1, n2⟩
  have b := zz_B_rf (l := l) (Ts := zTs) (D := D) (cl := zcl) (fk := zFK) (cy := cy) (z0 := z0) (sp := sp) (tys := zTys cy) (G := G) (own := "ToolMillLaw") (mn := mn) (nL := 7) (cc := code) (d := 16) ((39, [(4, .int (Int32.ofNat 0)), (3, .ref 328), (2, .ref 171), (1, .ref 0), (0, .ref 1999999)], [.int (Int32.ofNat 13)], zW3) : zz_F)
  replace b := zz_fo b (zlw_39 (K := zz_k0) zz_k0_KS hG hP) (ze_tsw_k (t := 903) (by decide) (by decide))
  replace b := zz_fo b (zlw_903 (K := zz_k0) zz_k0_KS hG hP) (ze_aload rfl)
  replace b := zz_fo b (zlw_904 (K := zz_k0) zz_k0_KS hG hP) (ze_aload rfl)
  replace b := zz_fo b (zlw_905 (K := zz_k0) zz_k0_KS hG hP) (ze_iload rfl)
  replace b := zz_fo b (zlw_907 (K := zz_k0) zz_k0_KS hG hP) ze_const
  replace b := zz_fo b (zlw_908 (K := zz_k0) zz_k0_KS hG hP) (ze_iadd (by decide : _ = Int32.ofNat 1))
  replace b := zz_fo b (zlw_909 (K := zz_k0) (L := 4) (xs := xs) zz_k0_KS hG hP hX (by decide)) (ze_kl (zl_kl xs 1 (by decide)) (zz_nI_of _))
  replace b := zz_fo b (zlw_910 (K := zz_k0) zz_k0_KS hG hP) (ze_aload rfl)
  replace b := zz_fo b (zlw_911 (K := zz_k0) zz_k0_KS hG hP) (ze_iload rfl)
  replace b := zz_fo b (zlw_913 (K := zz_k0) zz_k0_KS hG hP) ze_const
  replace b := zz_fo b (zlw_914 (K := zz_k0) zz_k0_KS hG hP) (ze_iadd (by decide : _ = Int32.ofNat 2))
  replace b := zz_fo b (zlw_915 (K := zz_k0) (L := 4) (xs := xs) zz_k0_KS hG hP hX (by decide)) (ze_kl (zl_kl xs 2 (by decide)) (zz_nI_of _))
  replace b := zz_fo b (zlw_916 (K := zz_k0) zz_k0_KS hG hP) (ze_aload rfl)
  replace b := zz_gH b (zlh_917 (rv := [.int (Int32.ofNat 1)]) (r := []) hG hH rfl rfl (zz_lb rfl))
  replace b := zz_fo b (zlw_920 (K := zz_k0) zz_k0_KS hG hP) (ze_istore (lv' := [(4, _), (3, _), (2, _), (1, _), (0, _)]) rfl)
  replace b := zz_fo b (zlw_922 (K := zz_k0) zz_k0_KS hG hP) (ze_aload rfl)
  replace b := zz_fo b (zlw_923 (K := zz_k0) zz_k0_KS hG hP) (ze_aload rfl)
  replace b := zz_fo b (zlw_924 (K := zz_k0) zz_k0_KS hG hP) (ze_iload rfl)
  replace b := zz_fo b (zlw_926 (K := zz_k0) zz_k0_KS hG hP) ze_const
  replace b := zz_fo b (zlw_927 (K := zz_k0) zz_k0_KS hG hP) (ze_iadd (by decide : _ = Int32.ofNat 1))
  replace b := zz_fo b (zlw_928 (K := zz_k0) (L := 4) (xs := xs) zz_k0_KS hG hP hX (by decide)) (ze_kl (zl_kl xs 1 (by decide)) (zz_nI_of _))
  replace b := zz_fo b (zlw_929 (K := zz_k0) zz_k0_KS hG hP) (ze_aload rfl)
  replace b := zz_fo b (zlw_930 (K := zz_k0) zz_k0_KS hG hP) (ze_iload rfl)
  replace b := zz_fo b (zlw_932 (K := zz_k0) zz_k0_KS hG hP) ze_const
  replace b := zz_fo b (zlw_933 (K := zz_k0) zz_k0_KS hG hP) (ze_iadd (by decide : _ = Int32.ofNat 2))
  replace b := zz_fo b (zlw_934 (K := zz_k0) (L := 4) (xs := xs) zz_k0_KS hG hP hX (by decide)) (ze_kl (zl_kl xs 2 (by decide)) (zz_nI_of _))
  replace b := zz_gVi b (fun K h => zlw_935 h hG hP) hR rfl rfl hi (zz_lb rfl)
  replace b := zz_fo b (zlw_938 (K := zz_k0) zz_k0_KS hG hP) (ze_istore (lv' := [(5, _), (4, _), (3, _), (2, _), (1, _), (0, _)]) rfl)
  replace b := zz_fo b (zlw_940 (K := zz_k0) zz_k0_KS hG hP) (ze_aload rfl)
  replace b := zz_gVi b (fun K h => zlw_941 h hG hP) hT rfl rfl hi2 (zz_lb rfl)
  replace b := zz_fo b (zlw_944 (K := zz_k0) zz_k0_KS hG hP) (ze_iload rfl)
  replace b := zz_fo b (zlw_946 (K := zz_k0) zz_k0_KS hG hP) (ze_icmp_eq_t rfl)
  replace b := zz_fo b (zlw_951 (K := zz_k0) zz_k0_KS hG hP) (ze_iload rfl)
  replace b := zz_fo b (zlw_953 (K := zz_k0) zz_k0_KS hG hP) (ze_if_ne_t (by decide))
  replace b := zz_fo b (zlw_968 (K := zz_k0) zz_k0_KS hG hP) ze_goto
  exact zz_fl (lv' := [(4, .int (Int32.ofNat 0)), (3, .ref 328), (2, .ref 171), (1, .ref 0), (0, .ref 1999999)]) b (zz_mc (List.mem_cons_of_mem _ (List.mem_cons_of_mem _ List.mem_cons_self)) (zz_mc (List.mem_cons_of_mem _ (List.mem_cons_of_mem _ (List.mem_cons_of_mem _ List.mem_cons_self))) (zz_mc (List.mem_cons_of_mem _ (List.mem_cons_of_mem _ (List.mem_cons_of_mem _ (List.mem_cons_of_mem _ List.mem_cons_self)))) (zz_mc (List.mem_cons_of_mem _ (List.mem_cons_of_mem _ (List.mem_cons_of_mem _ (List.mem_cons_of_mem _ (List.mem_cons_of_mem _ List.mem_cons_self))))) (zz_mc (List.mem_cons_of_mem _ (List.mem_cons_of_mem _ (List.mem_cons_of_mem _ (List.mem_cons_of_mem _ (List.mem_cons_of_mem _ (List.mem_cons_of_mem _ List.mem_cons_self)))))) zz_mn)))))
theorem zLc_14 {l : Launch} {D : va_G} {cy : Nat → ClassId} {z0 : Nat} {sp : Nat → Nat} {G : State → Prop} (hG : zz_GF z0 G) (hP : ∀ U, G U → zz_GD zS zS2 zLg z0 sp U) (hl : l.stackTraces = false) (hE : ∀ U, G U → zGX z0 U) {mn : String} {xs : Nat → Int32} (hX : ∀ U, G U → va_T .int (sp 999999) 4 (fun j => .int (xs j)) (fun q : Nat => z0 ≤ q) U U.heap) : ∃ w2, zz_B l zTs D zcl zFK cy z0 sp (zTys cy) G "ToolMillLaw" mn 7 code 16 (39, zLv (Int32.ofNat 0), [.int (Int32.ofNat 14)], zW3) (1487, zLv (Int32.ofNat 0), [], w2) ∧ w2.1 ≤ 331 ∧ w2.2.1 ≤ 2300700 := by
  obtain ⟨w1, w2, hH, hR, hi, ⟨M, hs, hM, ht⟩, ho, n1, n2⟩ := zC_run (l := l) (D := D) (cy := cy) (sp := sp) hG hP hl hE (xs 1)
  have hT := zM_th (d := 15) (l := l) (D := D) (cy := cy) (sp := sp) hG hP hs hM ht
  have hi2 := zz_has_c hM
  refine ⟨w2, ?_, n1, n2⟩
  have b := zz_B_rf (l := l) (Ts := zTs) (D := D) (cl := zcl) (fk := zFK) (cy := cy) (z0 := z0) (sp := sp) (tys := zTys cy) (G := G) (own := "ToolMillLaw") (mn := mn) (nL := 7) (cc := code) (d := 16) ((39, [(4, .int (Int32.ofNat 0)), (3, .ref 328), (2, .ref 171), (1, .ref 0), (0, .ref 1999999)], [.int (Int32.ofNat 14)], zW3) : zz_F)
  replace b := zz_fo b (zlw_39 (K := zz_k0) zz_k0_KS hG hP) (ze_tsw_k (t := 971) (by decide) (by decide))
  replace b := zz_fo b (zlw_971 (K := zz_k0) zz_k0_KS hG hP) (ze_aload rfl)
  replace b := zz_fo b (zlw_972 (K := zz_k0) zz_k0_KS hG hP) (ze_aload rfl)
  replace b := zz_fo b (zlw_973 (K := zz_k0) zz_k0_KS hG hP) (ze_iload rfl)
  replace b := zz_fo b (zlw_975 (K := zz_k0) zz_k0_KS hG hP) ze_const
  replace b := zz_fo b (zlw_976 (K := zz_k0) zz_k0_KS hG hP) (ze_iadd (by decide : _ = Int32.ofNat 1))
  replace b := zz_fo b (zlw_977 (K := zz_k0) (L := 4) (xs := xs) zz_k0_KS hG hP hX (by decide)) (ze_kl (zl_kl xs 1 (by decide)) (zz_nI_of _))
  replace b := zz_fo b (zlw_978 (K := zz_k0) zz_k0_KS hG hP) (ze_aload rfl)
  replace b := zz_gH b (zlh_979 (rv := [.int (Int32.ofNat 1)]) (r := []) hG hH rfl rfl (zz_lb rfl))
  replace b := zz_fo b (zlw_982 (K := zz_k0) zz_k0_KS hG hP) (ze_istore (lv' := [(4, _), (3, _), (2, _), (1, _), (0, _)]) rfl)
  replace b := zz_fo b (zlw_984 (K := zz_k0) zz_k0_KS hG hP) (ze_aload rfl)
  replace b := zz_fo b (zlw_985 (K := zz_k0) zz_k0_KS hG hP) (ze_aload rfl)
  replace b := zz_fo b (zlw_986 (K := zz_k0) zz_k0_KS hG hP) (ze_iload rfl)
  replace b := zz_fo b (zlw_988 (K := zz_k0) zz_k0_KS hG hP) ze_const
  replace b := zz_fo b (zlw_989 (K := zz_k0) zz_k0_KS hG hP) (ze_iadd (by decide : _ = Int32.ofNat 1))
  replace b := zz_fo b (zlw_990 (K := zz_k0) (L := 4) (xs := xs) zz_k0_KS hG hP hX (by decide)) (ze_kl (zl_kl xs 1 (by decide)) (zz_nI_of _))
  replace b := zz_gVi b (fun K h => zlw_991 h hG hP) hR rfl rfl hi (zz_lb rfl)
  replace b := zz_fo b (zlw_994 (K := zz_k0) zz_k0_KS hG hP) (ze_istore (lv' := [(5, _), (4, _), (3, _), (2, _), (1, _), (0, _)]) rfl)
  replace b := zz_fo b (zlw_996 (K := zz_k0) zz_k0_KS hG hP) (ze_aload rfl)
  replace b := zz_gVi b (fun K h => zlw_997 h hG hP) hT rfl rfl hi2 (zz_lb rfl)
  replace b := zz_fo b (zlw_1000 (K := zz_k0) zz_k0_KS hG hP) (ze_iload rfl)
  replace b := zz_fo b (zlw_1002 (K := zz_k0) zz_k0_KS hG hP) (ze_icmp_eq_t rfl)
  replace b := zz_fo b (zlw_1007 (K := zz_k0) zz_k0_KS hG hP) (ze_iload rfl)
  replace b := zz_fo b (zlw_1009 (K := zz_k0) zz_k0_KS hG hP) (ze_if_ne_t (by decide))
  replace b := zz_fo b (zlw_1024 (K := zz_k0) zz_k0_KS hG hP) ze_goto
  exact zz_fl (lv' := [(4, .int (Int32.ofNat 0)), (3, .ref 328), (2, .ref 171), (1, .ref 0), (0, .ref 1999999)]) b (zz_mc (List.mem_cons_of_mem _ (List.mem_cons_of_mem _ List.mem_cons_self)) (zz_mc (List.mem_cons_of_mem _ (List.mem_cons_of_mem _ (List.mem_cons_of_mem _ List.mem_cons_self))) (zz_mc (List.mem_cons_of_mem _ (List.mem_cons_of_mem _ (List.mem_cons_of_mem _ (List.mem_cons_of_mem _ List.mem_cons_self)))) (zz_mc (List.mem_cons_of_mem _ (List.mem_cons_of_mem _ (List.mem_cons_of_mem _ (List.mem_cons_of_mem _ (List.mem_cons_of_mem _ List.mem_cons_self))))) (zz_mc (List.mem_cons_of_mem _ (List.mem_cons_of_mem _ (List.mem_cons_of_mem _ (List.mem_cons_of_mem _ (List.mem_cons_of_mem _ (List.mem_cons_of_mem _ List.mem_cons_self)))))) zz_mn)))))
theorem zLc_15 {l : Launch} {D : va_G} {cy : Nat → ClassId} {z0 : Nat} {sp : Nat → Nat} {G : State → Prop} (hG : zz_GF z0 G) (hP : ∀ U, G U → zz_GD zS zS2 zLg z0 sp U) (hl : l.stackTraces = false) (hE : ∀ U, G U → zGX z0 U) {mn : String} {xs : Nat → Int32} (hX : ∀ U, G U → va_T .int (sp 999999) 4 (fun j => .int (xs j)) (fun q : Nat => z0 ≤ q) U U.heap) : ∃ w2, zz_B l zTs D zcl zFK cy z0 sp (zTys cy) G "ToolMillLaw" mn 7 code 16 (39, zLv (Int32.ofNat 0), [.int (Int32.ofNat 15)], zW3) (1487, zLv (Int32.ofNat 0), [], w2) ∧ w2.1 ≤ 331 ∧ w2.2.1 ≤ 2300700 := by
  obtain ⟨w1, w2, hH, hR, hi, ⟨M, hs, hM, ht⟩, ho, n1, n2⟩ := zC_state (l := l) (D := D) (cy := cy) (sp := sp) hG hP hl hE (xs 1)
  have hT := zM_th (d := 15) (l := l) (D := D) (cy := cy) (sp := sp) hG hP hs hM ht
  have hi2 := zz_has_c hM
  refine ⟨w2, ?_, n1, n2⟩
  have b := zz_B_rf (l := l) (Ts := zTs) (D := D) (cl := zcl) (fk := zFK) (cy := cy) (z0 := z0) (sp := sp) (tys := zTys cy) (G := G) (own := "ToolMillLaw") (mn := mn) (nL := 7) (cc := code) (d := 16) ((39, [(4, .int (Int32.ofNat 0)), (3, .ref 328), (2, .ref 171), (1, .ref 0), (0, .ref 1999999)], [.int (Int32.ofNat 15)], zW3) : zz_F)
  replace b := zz_fo b (zlw_39 (K := zz_k0) zz_k0_KS hG hP) (ze_tsw_k (t := 1027) (by decide) (by decide))
  replace b := zz_fo b (zlw_1027 (K := zz_k0) zz_k0_KS hG hP) (ze_aload rfl)
  replace b := zz_fo b (zlw_1028 (K := zz_k0) zz_k0_KS hG hP) (ze_aload rfl)
  replace b := zz_fo b (zlw_1029 (K := zz_k0) zz_k0_KS hG hP) (ze_iload rfl)
  replace b := zz_fo b (zlw_1031 (K := zz_k0) zz_k0_KS hG hP) ze_const
  replace b := zz_fo b (zlw_1032 (K := zz_k0) zz_k0_KS hG hP) (ze_iadd (by decide : _ = Int32.ofNat 1))
  replace b := zz_fo b (zlw_1033 (K := zz_k0) (L := 4) (xs := xs) zz_k0_KS hG hP hX (by decide)) (ze_kl (zl_kl xs 1 (by decide)) (zz_nI_of _))
  replace b := zz_fo b (zlw_1034 (K := zz_k0) zz_k0_KS hG hP) (ze_aload rfl)
  replace b := zz_gH b (zlh_1035 (rv := [.int (Int32.ofNat 1)]) (r := []) hG hH rfl rfl (zz_lb rfl))
  replace b := zz_fo b (zlw_1038 (K := zz_k0) zz_k0_KS hG hP) (ze_istore (lv' := [(4, _), (3, _), (2, _), (1, _), (0, _)]) rfl)
  replace b := zz_fo b (zlw_1040 (K := zz_k0) zz_k0_KS hG hP) (ze_aload rfl)
  replace b := zz_fo b (zlw_1041 (K := zz_k0) zz_k0_KS hG hP) (ze_aload rfl)
  replace b := zz_fo b (zlw_1042 (K := zz_k0) zz_k0_KS hG hP) (ze_iload rfl)
  replace b := zz_fo b (zlw_1044 (K := zz_k0) zz_k0_KS hG hP) ze_const
  replace b := zz_fo b (zlw_1045 (K := zz_k0) zz_k0_KS hG hP) (ze_iadd (by decide : _ = Int32.ofNat 1))
  replace b := zz_fo b (zlw_1046 (K := zz_k0) (L := 4) (xs := xs) zz_k0_KS hG hP hX (by decide)) (ze_kl (zl_kl xs 1 (by decide)) (zz_nI_of _))
  replace b := zz_gVi b (fun K h => zlw_1047 h hG hP) hR rfl rfl hi (zz_lb rfl)
  replace b := zz_fo b (zlw_1050 (K := zz_k0) zz_k0_KS hG hP) (ze_istore (lv' := [(5, _), (4, _), (3, _), (2, _), (1, _), (0, _)]) rfl)
  replace b := zz_fo b (zlw_1052 (K := zz_k0) zz_k0_KS hG hP) (ze_aload rfl)
  replace b := zz_gVi b (fun K h => zlw_1053 h hG hP) hT rfl rfl hi2 (zz_lb rfl)
  replace b := zz_fo b (zlw_1056 (K := zz_k0) zz_k0_KS hG hP) (ze_iload rfl)
  replace b := zz_fo b (zlw_1058 (K := zz_k0) zz_k0_KS hG hP) (ze_icmp_eq_t rfl)
  replace b := zz_fo b (zlw_1063 (K := zz_k0) zz_k0_KS hG hP) (ze_iload rfl)
  replace b := zz_fo b (zlw_1065 (K := zz_k0) zz_k0_KS hG hP) (ze_if_ne_t (by decide))
  replace b := zz_fo b (zlw_1080 (K := zz_k0) zz_k0_KS hG hP) ze_goto
  exact zz_fl (lv' := [(4, .int (Int32.ofNat 0)), (3, .ref 328), (2, .ref 171), (1, .ref 0), (0, .ref 1999999)]) b (zz_mc (List.mem_cons_of_mem _ (List.mem_cons_of_mem _ List.mem_cons_self)) (zz_mc (List.mem_cons_of_mem _ (List.mem_cons_of_mem _ (List.mem_cons_of_mem _ List.mem_cons_self))) (zz_mc (List.mem_cons_of_mem _ (List.mem_cons_of_mem _ (List.mem_cons_of_mem _ (List.mem_cons_of_mem _ List.mem_cons_self)))) (zz_mc (List.mem_cons_of_mem _ (List.mem_cons_of_mem _ (List.mem_cons_of_mem _ (List.mem_cons_of_mem _ (List.mem_cons_of_mem _ List.mem_cons_self))))) (zz_mc (List.mem_cons_of_mem _ (List.mem_cons_of_mem _ (List.mem_cons_of_mem _ (List.mem_cons_of_mem _ (List.mem_cons_of_mem _ (List.mem_cons_of_mem _ List.mem_cons_self)))))) zz_mn)))))
theorem zLc_16 {l : Launch} {D : va_G} {cy : Nat → ClassId} {z0 : Nat} {sp : Nat → Nat} {G : State → Prop} (hG : zz_GF z0 G) (hP : ∀ U, G U → zz_GD zS zS2 zLg z0 sp U) (hl : l.stackTraces = false) (hE : ∀ U, G U → zGX z0 U) {mn : String} {xs : Nat → Int32} (hX : ∀ U, G U → va_T .int (sp 999999) 4 (fun j => .int (xs j)) (fun q : Nat => z0 ≤ q) U U.heap) : ∃ w2, zz_B l zTs D zcl zFK cy z0 sp (zTys cy) G "ToolMillLaw" mn 7 code 16 (39, zLv (Int32.ofNat 0), [.int (Int32.ofNat 16)], zW3) (1487, zLv (Int32.ofNat 0), [], w2) ∧ w2.1 ≤ 331 ∧ w2.2.1 ≤ 2300700 := by
  obtain ⟨w1, w2, hH, hR, hi, ⟨M, hs, hM, ht⟩, ho, n1, n2⟩ := zC_register (l := l) (D := D) (cy := cy) (sp := sp) hG hP hl hE (xs 1)
  have hT := zM_th (d := 15) (l := l) (D := D) (cy := cy) (sp := sp) hG hP hs hM ht
  have hi2 := zz_has_c hM
  refine ⟨w2, ?_, n1, n2⟩
  have b := zz_B_rf (l := l) (Ts := zTs) (D := D) (cl := zcl) (fk := zFK) (cy := cy) (z0 := z0) (sp := sp) (tys := zTys cy) (G := G) (own := "ToolMillLaw") (mn := mn) (nL := 7) (cc := code) (d := 16) ((39, [(4, .int (Int32.ofNat 0)), (3, .ref 328), (2, .ref 171), (1, .ref 0), (0, .ref 1999999)], [.int (Int32.ofNat 16)], zW3) : zz_F)
  replace b := zz_fo b (zlw_39 (K := zz_k0) zz_k0_KS hG hP) (ze_tsw_k (t := 1083) (by decide) (by decide))
  replace b := zz_fo b (zlw_1083 (K := zz_k0) zz_k0_KS hG hP) (ze_aload rfl)
  replace b := zz_fo b (zlw_1084 (K := zz_k0) zz_k0_KS hG hP) (ze_aload rfl)
  replace b := zz_fo b (zlw_1085 (K := zz_k0) zz_k0_KS hG hP) (ze_iload rfl)
  replace b := zz_fo b (zlw_1087 (K := zz_k0) zz_k0_KS hG hP) ze_const
  replace b := zz_fo b (zlw_1088 (K := zz_k0) zz_k0_KS hG hP) (ze_iadd (by decide : _ = Int32.ofNat 1))
  replace b := zz_fo b (zlw_1089 (K := zz_k0) (L := 4) (xs := xs) zz_k0_KS hG hP hX (by decide)) (ze_kl (zl_kl xs 1 (by decide)) (zz_nI_of _))
  replace b := zz_fo b (zlw_1090 (K := zz_k0) zz_k0_KS hG hP) (ze_aload rfl)
  replace b := zz_gH b (zlh_1091 (rv := [.int (Int32.ofNat 1)]) (r := []) hG hH rfl rfl (zz_lb rfl))
  replace b := zz_fo b (zlw_1094 (K := zz_k0) zz_k0_KS hG hP) (ze_istore (lv' := [(4, _), (3, _), (2, _), (1, _), (0, _)]) rfl)
  replace b := zz_fo b (zlw_1096 (K := zz_k0) zz_k0_KS hG hP) (ze_aload rfl)
  replace b := zz_fo b (zlw_1097 (K := zz_k0) zz_k0_KS hG hP) (ze_aload rfl)
  replace b := zz_fo b (zlw_1098 (K := zz_k0) zz_k0_KS hG hP) (ze_iload rfl)
  replace b := zz_fo b (zlw_1100 (K := zz_k0) zz_k0_KS hG hP) ze_const
  replace b := zz_fo b (zlw_1101 (K := zz_k0) zz_k0_KS hG hP) (ze_iadd (by decide : _ = Int32.ofNat 1))
  replace b := zz_fo b (zlw_1102 (K := zz_k0) (L := 4) (xs := xs) zz_k0_KS hG hP hX (by decide)) (ze_kl (zl_kl xs 1 (by decide)) (zz_nI_of _))
  replace b := zz_gVi b (fun K h => zlw_1103 h hG hP) hR rfl rfl hi (zz_lb rfl)
  replace b := zz_fo b (zlw_1106 (K := zz_k0) zz_k0_KS hG hP) (ze_istore (lv' := [(5, _), (4, _), (3, _), (2, _), (1, _), (0, _)]) rfl)
  replace b := zz_fo b (zlw_1108 (K := zz_k0) zz_k0_KS hG hP) (ze_aload rfl)
  replace b := zz_gVi b (fun K h => zlw_1109 h hG hP) hT rfl rfl hi2 (zz_lb rfl)
  replace b := zz_fo b (zlw_1112 (K := zz_k0) zz_k0_KS hG hP) (ze_iload rfl)
  replace b := zz_fo b (zlw_1114 (K := zz_k0) zz_k0_KS hG hP) (ze_icmp_eq_t rfl)
  replace b := zz_fo b (zlw_1119 (K := zz_k0) zz_k0_KS hG hP) (ze_iload rfl)
  replace b := zz_fo b (zlw_1121 (K := zz_k0) zz_k0_KS hG hP) (ze_if_ne_t (by decide))
  replace b := zz_fo b (zlw_1136 (K := zz_k0) zz_k0_KS hG hP) ze_goto
  exact zz_fl (lv' := [(4, .int (Int32.ofNat 0)), (3, .ref 328), (2, .ref 171), (1, .ref 0), (0, .ref 1999999)]) b (zz_mc (List.mem_cons_of_mem _ (List.mem_cons_of_mem _ List.mem_cons_self)) (zz_mc (List.mem_cons_of_mem _ (List.mem_cons_of_mem _ (List.mem_cons_of_mem _ List.mem_cons_self))) (zz_mc (List.mem_cons_of_mem _ (List.mem_cons_of_mem _ (List.mem_cons_of_mem _ (List.mem_cons_of_mem _ List.mem_cons_self)))) (zz_mc (List.mem_cons_of_mem _ (List.mem_cons_of_mem _ (List.mem_cons_of_mem _ (List.mem_cons_of_mem _ (List.mem_cons_of_mem _ List.mem_cons_self))))) (zz_mc (List.mem_cons_of_mem _ (List.mem_cons_of_mem _ (List.mem_cons_of_mem _ (List.mem_cons_of_mem _ (List.mem_cons_of_mem _ (List.mem_cons_of_mem _ List.mem_cons_self)))))) zz_mn)))))
theorem zLc_17 {l : Launch} {D : va_G} {cy : Nat → ClassId} {z0 : Nat} {sp : Nat → Nat} {G : State → Prop} (hG : zz_GF z0 G) (hP : ∀ U, G U → zz_GD zS zS2 zLg z0 sp U) (hl : l.stackTraces = false) (hE : ∀ U, G U → zGX z0 U) {mn : String} {xs : Nat → Int32} (hX : ∀ U, G U → va_T .int (sp 999999) 4 (fun j => .int (xs j)) (fun q : Nat => z0 ≤ q) U U.heap) : ∃ w2, zz_B l zTs D zcl zFK cy z0 sp (zTys cy) G "ToolMillLaw" mn 7 code 16 (39, zLv (Int32.ofNat 0), [.int (Int32.ofNat 17)], zW3) (1487, zLv (Int32.ofNat 0), [], w2) ∧ w2.1 ≤ 331 ∧ w2.2.1 ≤ 2300700 := by
  obtain ⟨w1, w2, hH, hR, hi, ⟨M, hs, hM, ht⟩, ho, n1, n2⟩ := zC_word (l := l) (D := D) (cy := cy) (sp := sp) hG hP hl hE (xs 1)
  have hT := zM_th (d := 15) (l := l) (D := D) (cy := cy) (sp := sp) hG hP hs hM ht
  have hi2 := zz_has_c hM
  refine ⟨w2, ?_, n1, n2⟩
  have b := zz_B_rf (l := l) (Ts := zTs) (D := D) (cl := zcl) (fk := zFK) (cy := cy) (z0 := z0) (sp := sp) (tys := zTys cy) (G := G) (own := "ToolMillLaw") (mn := mn) (nL := 7) (cc := code) (d := 16) ((39, [(4, .int (Int32.ofNat 0)), (3, .ref 328), (2, .ref 171), (1, .ref 0), (0, .ref 1999999)], [.int (Int32.ofNat 17)], zW3) : zz_F)
  replace b := zz_fo b (zlw_39 (K := zz_k0) zz_k0_KS hG hP) (ze_tsw_k (t := 1139) (by decide) (by decide))
  replace b := zz_fo b (zlw_1139 (K := zz_k0) zz_k0_KS hG hP) (ze_aload rfl)
  replace b := zz_fo b (zlw_1140 (K := zz_k0) zz_k0_KS hG hP) (ze_aload rfl)
  replace b := zz_fo b (zlw_1141 (K := zz_k0) zz_k0_KS hG hP) (ze_iload rfl)
  replace b := zz_fo b (zlw_1143 (K := zz_k0) zz_k0_KS hG hP) ze_const
  replace b := zz_fo b (zlw_1144 (K := zz_k0) zz_k0_KS hG hP) (ze_iadd (by decide : _ = Int32.ofNat 1))
  replace b := zz_fo b (zlw_1145 (K := zz_k0) (L := 4) (xs := xs) zz_k0_KS hG hP hX (by decide)) (ze_kl (zl_kl xs 1 (by decide)) (zz_nI_of _))
  replace b := zz_fo b (zlw_1146 (K := zz_k0) zz_k0_KS hG hP) (ze_aload rfl)
  replace b := zz_gH b (zlh_1147 (rv := [.int (Int32.ofNat 1)]) (r := []) hG hH rfl rfl (zz_lb rfl))
  replace b := zz_fo b (zlw_1150 (K := zz_k0) zz_k0_KS hG hP) (ze_istore (lv' := [(4, _), (3, _), (2, _), (1, _), (0, _)]) rfl)
  replace b := zz_fo b (zlw_1152 (K := zz_k0) zz_k0_KS hG hP) (ze_aload rfl)
  replace b := zz_fo b (zlw_1153 (K := zz_k0) zz_k0_KS hG hP) (ze_aload rfl)
  replace b := zz_fo b (zlw_1154 (K := zz_k0) zz_k0_KS hG hP) (ze_iload rfl)
  replace b := zz_fo b (zlw_1156 (K := zz_k0) zz_k0_KS hG hP) ze_const
  replace b := zz_fo b (zlw_1157 (K := zz_k0) zz_k0_KS hG hP) (ze_iadd (by decide : _ = Int32.ofNat 1))
  replace b := zz_fo b (zlw_1158 (K := zz_k0) (L := 4) (xs := xs) zz_k0_KS hG hP hX (by decide)) (ze_kl (zl_kl xs 1 (by decide)) (zz_nI_of _))
  replace b := zz_gVi b (fun K h => zlw_1159 h hG hP) hR rfl rfl hi (zz_lb rfl)
  replace b := zz_fo b (zlw_1162 (K := zz_k0) zz_k0_KS hG hP) (ze_istore (lv' := [(5, _), (4, _), (3, _), (2, _), (1, _), (0, _)]) rfl)
  replace b := zz_fo b (zlw_1164 (K := zz_k0) zz_k0_KS hG hP) (ze_aload rfl)
  replace b := zz_gVi b (fun K h => zlw_1165 h hG hP) hT rfl rfl hi2 (zz_lb rfl)
  replace b := zz_fo b (zlw_1168 (K := zz_k0) zz_k0_KS hG hP) (ze_iload rfl)
  replace b := zz_fo b (zlw_1170 (K := zz_k0) zz_k0_KS hG hP) (ze_icmp_eq_t rfl)
  replace b := zz_fo b (zlw_1175 (K := zz_k0) zz_k0_KS hG hP) (ze_iload rfl)
  replace b := zz_fo b (zlw_1177 (K := zz_k0) zz_k0_KS hG hP) (ze_if_ne_t (by decide))
  replace b := zz_fo b (zlw_1192 (K := zz_k0) zz_k0_KS hG hP) ze_goto
  exact zz_fl (lv' := [(4, .int (Int32.ofNat 0)), (3, .ref 328), (2, .ref 171), (1, .ref 0), (0, .ref 1999999)]) b (zz_mc (List.mem_cons_of_mem _ (List.mem_cons_of_mem _ List.mem_cons_self)) (zz_mc (List.mem_cons_of_mem _ (List.mem_cons_of_mem _ (List.mem_cons_of_mem _ List.mem_cons_self))) (zz_mc (List.mem_cons_of_mem _ (List.mem_cons_of_mem _ (List.mem_cons_of_mem _ (List.mem_cons_of_mem _ List.mem_cons_self)))) (zz_mc (List.mem_cons_of_mem _ (List.mem_cons_of_mem _ (List.mem_cons_of_mem _ (List.mem_cons_of_mem _ (List.mem_cons_of_mem _ List.mem_cons_self))))) (zz_mc (List.mem_cons_of_mem _ (List.mem_cons_of_mem _ (List.mem_cons_of_mem _ (List.mem_cons_of_mem _ (List.mem_cons_of_mem _ (List.mem_cons_of_mem _ List.mem_cons_self)))))) zz_mn)))))
theorem zLc_18 {l : Launch} {D : va_G} {cy : Nat → ClassId} {z0 : Nat} {sp : Nat → Nat} {G : State → Prop} (hG : zz_GF z0 G) (hP : ∀ U, G U → zz_GD zS zS2 zLg z0 sp U) (hl : l.stackTraces = false) (hE : ∀ U, G U → zGX z0 U) {mn : String} {xs : Nat → Int32} (hX : ∀ U, G U → va_T .int (sp 999999) 4 (fun j => .int (xs j)) (fun q : Nat => z0 ≤ q) U U.heap) : ∃ w2, zz_B l zTs D zcl zFK cy z0 sp (zTys cy) G "ToolMillLaw" mn 7 code 16 (39, zLv (Int32.ofNat 0), [.int (Int32.ofNat 18)], zW3) (1487, zLv (Int32.ofNat 0), [], w2) ∧ w2.1 ≤ 331 ∧ w2.2.1 ≤ 2300700 := by
  obtain ⟨w1, w2, hH, hR, hi, ⟨M, hs, hM, ht⟩, ho, n1, n2⟩ := zC_output (l := l) (D := D) (cy := cy) (sp := sp) hG hP hl hE (xs 1)
  have hT := zM_th (d := 15) (l := l) (D := D) (cy := cy) (sp := sp) hG hP hs hM ht
  have hi2 := zz_has_c hM
  refine ⟨w2, ?_, n1, n2⟩
  have b := zz_B_rf (l := l) (Ts := zTs) (D := D) (cl := zcl) (fk := zFK) (cy := cy) (z0 := z0) (sp := sp) (tys := zTys cy) (G := G) (own := "ToolMillLaw") (mn := mn) (nL := 7) (cc := code) (d := 16) ((39, [(4, .int (Int32.ofNat 0)), (3, .ref 328), (2, .ref 171), (1, .ref 0), (0, .ref 1999999)], [.int (Int32.ofNat 18)], zW3) : zz_F)
  replace b := zz_fo b (zlw_39 (K := zz_k0) zz_k0_KS hG hP) (ze_tsw_k (t := 1195) (by decide) (by decide))
  replace b := zz_fo b (zlw_1195 (K := zz_k0) zz_k0_KS hG hP) (ze_aload rfl)
  replace b := zz_fo b (zlw_1196 (K := zz_k0) zz_k0_KS hG hP) (ze_aload rfl)
  replace b := zz_fo b (zlw_1197 (K := zz_k0) zz_k0_KS hG hP) (ze_iload rfl)
  replace b := zz_fo b (zlw_1199 (K := zz_k0) zz_k0_KS hG hP) ze_const
  replace b := zz_fo b (zlw_1200 (K := zz_k0) zz_k0_KS hG hP) (ze_iadd (by decide : _ = Int32.ofNat 1))
  replace b := zz_fo b (zlw_1201 (K := zz_k0) (L := 4) (xs := xs) zz_k0_KS hG hP hX (by decide)) (ze_kl (zl_kl xs 1 (by decide)) (zz_nI_of _))
  replace b := zz_fo b (zlw_1202 (K := zz_k0) zz_k0_KS hG hP) (ze_aload rfl)
  replace b := zz_gH b (zlh_1203 (rv := [.int (Int32.ofNat 1)]) (r := []) hG hH rfl rfl (zz_lb rfl))
  replace b := zz_fo b (zlw_1206 (K := zz_k0) zz_k0_KS hG hP) (ze_istore (lv' := [(4, _), (3, _), (2, _), (1, _), (0, _)]) rfl)
  replace b := zz_fo b (zlw_1208 (K := zz_k0) zz_k0_KS hG hP) (ze_aload rfl)
  replace b := zz_fo b (zlw_1209 (K := zz_k0) zz_k0_KS hG hP) (ze_aload rfl)
  replace b := zz_fo b (zlw_1210 (K := zz_k0) zz_k0_KS hG hP) (ze_iload rfl)
  replace b := zz_fo b (zlw_1212 (K := zz_k0) zz_k0_KS hG hP) ze_const
  replace b := zz_fo b (zlw_1213 (K := zz_k0) zz_k0_KS hG hP) (ze_iadd (by decide : _ = Int32.ofNat 1))
  replace b := zz_fo b (zlw_1214 (K := zz_k0) (L := 4) (xs := xs) zz_k0_KS hG hP hX (by decide)) (ze_kl (zl_kl xs 1 (by decide)) (zz_nI_of _))
  replace b := zz_gVi b (fun K h => zlw_1215 h hG hP) hR rfl rfl hi (zz_lb rfl)
  replace b := zz_fo b (zlw_1218 (K := zz_k0) zz_k0_KS hG hP) (ze_istore (lv' := [(5, _), (4, _), (3, _), (2, _), (1, _), (0, _)]) rfl)
  replace b := zz_fo b (zlw_1220 (K := zz_k0) zz_k0_KS hG hP) (ze_aload rfl)
  replace b := zz_gVi b (fun K h => zlw_1221 h hG hP) hT rfl rfl hi2 (zz_lb rfl)
  replace b := zz_fo b (zlw_1224 (K := zz_k0) zz_k0_KS hG hP) (ze_iload rfl)
  replace b := zz_fo b (zlw_1226 (K := zz_k0) zz_k0_KS hG hP) (ze_icmp_eq_t rfl)
  replace b := zz_fo b (zlw_1231 (K := zz_k0) zz_k0_KS hG hP) (ze_iload rfl)
  replace b := zz_fo b (zlw_1233 (K := zz_k0) zz_k0_KS hG hP) (ze_if_ne_t (by decide))
  replace b := zz_fo b (zlw_1248 (K := zz_k0) zz_k0_KS hG hP) ze_goto
  exact zz_fl (lv' := [(4, .int (Int32.ofNat 0)), (3, .ref 328), (2, .ref 171), (1, .ref 0), (0, .ref 1999999)]) b (zz_mc (List.mem_cons_of_mem _ (List.mem_cons_of_mem _ List.mem_cons_self)) (zz_mc (List.mem_cons_of_mem _ (List.mem_cons_of_mem _ (List.mem_cons_of_mem _ List.mem_cons_self))) (zz_mc (List.mem_cons_of_mem _ (List.mem_cons_of_mem _ (List.mem_cons_of_mem _ (List.mem_cons_of_mem _ List.mem_cons_self)))) (zz_mc (List.mem_cons_of_mem _ (List.mem_cons_of_mem _ (List.mem_cons_of_mem _ (List.mem_cons_of_mem _ (List.mem_cons_of_mem _ List.mem_cons_self))))) (zz_mc (List.mem_cons_of_mem _ (List.mem_cons_of_mem _ (List.mem_cons_of_mem _ (List.mem_cons_of_mem _ (List.mem_cons_of_mem _ (List.mem_cons_of_mem _ List.mem_cons_self)))))) zz_mn)))))
theorem zLc_19 {l : Launch} {D : va_G} {cy : Nat → ClassId} {z0 : Nat} {sp : Nat → Nat} {G : State → Prop} (hG : zz_GF z0 G) (hP : ∀ U, G U → zz_GD zS zS2 zLg z0 sp U) (hl : l.stackTraces = false) (hE : ∀ U, G U → zGX z0 U) {mn : String} {xs : Nat → Int32} (hX : ∀ U, G U → va_T .int (sp 999999) 4 (fun j => .int (xs j)) (fun q : Nat => z0 ≤ q) U U.heap) : ∃ w2, zz_B l zTs D zcl zFK cy z0 sp (zTys cy) G "ToolMillLaw" mn 7 code 16 (39, zLv (Int32.ofNat 0), [.int (Int32.ofNat 19)], zW3) (1487, zLv (Int32.ofNat 0), [], w2) ∧ w2.1 ≤ 331 ∧ w2.2.1 ≤ 2300700 := by
  obtain ⟨k, v, w1, w2, hH, hR, hi, ⟨M, hs, hM, ht⟩, ho, n1, n2⟩ := zC_listing (l := l) (D := D) (cy := cy) (sp := sp) hG hP hl hE (xs 1) (xs 2)
  have hT := zM_th (d := 15) (l := l) (D := D) (cy := cy) (sp := sp) hG hP hs hM ht
  have hi2 := zz_has_c hM
  refine ⟨w2, ?_, n1, n2⟩
  have b := zz_B_rf (l := l) (Ts := zTs) (D := D) (cl := zcl) (fk := zFK) (cy := cy) (z0 := z0) (sp := sp) (tys := zTys cy) (G := G) (own := "ToolMillLaw") (mn := mn) (nL := 7) (cc := code) (d := 16) ((39, [(4, .int (Int32.ofNat 0)), (3, .ref 328), (2, .ref 171), (1, .ref 0), (0, .ref 1999999)], [.int (Int32.ofNat 19)], zW3) : zz_F)
  replace b := zz_fo b (zlw_39 (K := zz_k0) zz_k0_KS hG hP) (ze_tsw_k (t := 1251) (by decide) (by decide))
  replace b := zz_fo b (zlw_1251 (K := zz_k0) zz_k0_KS hG hP) (ze_aload rfl)
  replace b := zz_fo b (zlw_1252 (K := zz_k0) zz_k0_KS hG hP) (ze_aload rfl)
  replace b := zz_fo b (zlw_1253 (K := zz_k0) zz_k0_KS hG hP) (ze_iload rfl)
  replace b := zz_fo b (zlw_1255 (K := zz_k0) zz_k0_KS hG hP) ze_const
  replace b := zz_fo b (zlw_1256 (K := zz_k0) zz_k0_KS hG hP) (ze_iadd (by decide : _ = Int32.ofNat 1))
  replace b := zz_fo b (zlw_1257 (K := zz_k0) (L := 4) (xs := xs) zz_k0_KS hG hP hX (by decide)) (ze_kl (zl_kl xs 1 (by decide)) (zz_nI_of _))
  replace b := zz_fo b (zlw_1258 (K := zz_k0) zz_k0_KS hG hP) (ze_aload rfl)
  replace b := zz_fo b (zlw_1259 (K := zz_k0) zz_k0_KS hG hP) (ze_iload rfl)
  replace b := zz_fo b (zlw_1261 (K := zz_k0) zz_k0_KS hG hP) ze_const
  replace b := zz_fo b (zlw_1262 (K := zz_k0) zz_k0_KS hG hP) (ze_iadd (by decide : _ = Int32.ofNat 2))
  replace b := zz_fo b (zlw_1263 (K := zz_k0) (L := 4) (xs := xs) zz_k0_KS hG hP hX (by decide)) (ze_kl (zl_kl xs 2 (by decide)) (zz_nI_of _))
  replace b := zz_fo b (zlw_1264 (K := zz_k0) zz_k0_KS hG hP) (ze_aload rfl)
  replace b := zz_gH b (zlh_1265 (rv := [.int k]) (r := []) hG hH rfl rfl (zz_lb rfl))
  replace b := zz_fo b (zlw_1268 (K := zz_k0) zz_k0_KS hG hP) (ze_istore (lv' := [(4, _), (3, _), (2, _), (1, _), (0, _)]) rfl)
  replace b := zz_fo b (zlw_1270 (K := zz_k0) zz_k0_KS hG hP) (ze_aload rfl)
  replace b := zz_fo b (zlw_1271 (K := zz_k0) zz_k0_KS hG hP) (ze_aload rfl)
  replace b := zz_fo b (zlw_1272 (K := zz_k0) zz_k0_KS hG hP) (ze_iload rfl)
  replace b := zz_fo b (zlw_1274 (K := zz_k0) zz_k0_KS hG hP) ze_const
  replace b := zz_fo b (zlw_1275 (K := zz_k0) zz_k0_KS hG hP) (ze_iadd (by decide : _ = Int32.ofNat 1))
  replace b := zz_fo b (zlw_1276 (K := zz_k0) (L := 4) (xs := xs) zz_k0_KS hG hP hX (by decide)) (ze_kl (zl_kl xs 1 (by decide)) (zz_nI_of _))
  replace b := zz_fo b (zlw_1277 (K := zz_k0) zz_k0_KS hG hP) (ze_aload rfl)
  replace b := zz_fo b (zlw_1278 (K := zz_k0) zz_k0_KS hG hP) (ze_iload rfl)
  replace b := zz_fo b (zlw_1280 (K := zz_k0) zz_k0_KS hG hP) ze_const
  replace b := zz_fo b (zlw_1281 (K := zz_k0) zz_k0_KS hG hP) (ze_iadd (by decide : _ = Int32.ofNat 2))
  replace b := zz_fo b (zlw_1282 (K := zz_k0) (L := 4) (xs := xs) zz_k0_KS hG hP hX (by decide)) (ze_kl (zl_kl xs 2 (by decide)) (zz_nI_of _))
  replace b := zz_gVi b (fun K h => zlw_1283 h hG hP) hR rfl rfl hi (zz_lb rfl)
  replace b := zz_fo b (zlw_1286 (K := zz_k0) zz_k0_KS hG hP) (ze_istore (lv' := [(5, _), (4, _), (3, _), (2, _), (1, _), (0, _)]) rfl)
  replace b := zz_fo b (zlw_1288 (K := zz_k0) zz_k0_KS hG hP) (ze_aload rfl)
  replace b := zz_gVi b (fun K h => zlw_1289 h hG hP) hT rfl rfl hi2 (zz_lb rfl)
  replace b := zz_fo b (zlw_1292 (K := zz_k0) zz_k0_KS hG hP) (ze_iload rfl)
  replace b := zz_fo b (zlw_1294 (K := zz_k0) zz_k0_KS hG hP) (ze_icmp_eq_t rfl)
  replace b := zz_fo b (zlw_1299 (K := zz_k0) zz_k0_KS hG hP) (ze_iload rfl)
  by_cases hk : k = 0
  case neg =>
    replace b := zz_fo b (zlw_1301 (K := zz_k0) zz_k0_KS hG hP) (ze_if_ne_t hk)
    replace b := zz_fo b (zlw_1316 (K := zz_k0) zz_k0_KS hG hP) ze_goto
    exact zz_fl (lv' := [(4, .int (Int32.ofNat 0)), (3, .ref 328), (2, .ref 171), (1, .ref 0), (0, .ref 1999999)]) b (zz_mc (List.mem_cons_of_mem _ (List.mem_cons_of_mem _ List.mem_cons_self)) (zz_mc (List.mem_cons_of_mem _ (List.mem_cons_of_mem _ (List.mem_cons_of_mem _ List.mem_cons_self))) (zz_mc (List.mem_cons_of_mem _ (List.mem_cons_of_mem _ (List.mem_cons_of_mem _ (List.mem_cons_of_mem _ List.mem_cons_self)))) (zz_mc (List.mem_cons_of_mem _ (List.mem_cons_of_mem _ (List.mem_cons_of_mem _ (List.mem_cons_of_mem _ (List.mem_cons_of_mem _ List.mem_cons_self))))) (zz_mc (List.mem_cons_of_mem _ (List.mem_cons_of_mem _ (List.mem_cons_of_mem _ (List.mem_cons_of_mem _ (List.mem_cons_of_mem _ (List.mem_cons_of_mem _ List.mem_cons_self)))))) zz_mn)))))
  obtain ⟨N, hN, hv⟩ := ho hk
  replace b := zz_fo b (zlw_1301 (K := zz_k0) zz_k0_KS hG hP) (ze_if_ne_f (not_not_intro hk))
  replace b := zz_fo b (zlw_1304 (K := zz_k0) zz_k0_KS hG hP) (ze_aload rfl)
  replace b := zz_fo b (zlw_1305 (K := zz_k0) zz_k0_KS hG hP) ze_const
  replace b := zz_fo b (zlw_1306 (K := zz_k0) zz_k0_KS hG hP) (ze_aldL hN (by decide) (by decide) hv)
  replace b := zz_fo b (zlw_1307 (K := zz_k0) zz_k0_KS hG hP) (ze_iload rfl)
  replace b := zz_fo b (zlw_1309 (K := zz_k0) zz_k0_KS hG hP) (ze_i2l rfl)
  replace b := zz_fo b (zlw_1310 (K := zz_k0) zz_k0_KS hG hP) (ze_lcmp (zl_cmp _))
  replace b := zz_fo b (zlw_1311 (K := zz_k0) zz_k0_KS hG hP) (ze_if_eq_t rfl)
  replace b := zz_fo b (zlw_1316 (K := zz_k0) zz_k0_KS hG hP) ze_goto
  exact zz_fl (lv' := [(4, .int (Int32.ofNat 0)), (3, .ref 328), (2, .ref 171), (1, .ref 0), (0, .ref 1999999)]) b (zz_mc (List.mem_cons_of_mem _ (List.mem_cons_of_mem _ List.mem_cons_self)) (zz_mc (List.mem_cons_of_mem _ (List.mem_cons_of_mem _ (List.mem_cons_of_mem _ List.mem_cons_self))) (zz_mc (List.mem_cons_of_mem _ (List.mem_cons_of_mem _ (List.mem_cons_of_mem _ (List.mem_cons_of_mem _ List.mem_cons_self)))) (zz_mc (List.mem_cons_of_mem _ (List.mem_cons_of_mem _ (List.mem_cons_of_mem _ (List.mem_cons_of_mem _ (List.mem_cons_of_mem _ List.mem_cons_self))))) (zz_mc (List.mem_cons_of_mem _ (List.mem_cons_of_mem _ (List.mem_cons_of_mem _ (List.mem_cons_of_mem _ (List.mem_cons_of_mem _ (List.mem_cons_of_mem _ List.mem_cons_self)))))) zz_mn)))))
theorem zLc_20 {l : Launch} {D : va_G} {cy : Nat → ClassId} {z0 : Nat} {sp : Nat → Nat} {G : State → Prop} (hG : zz_GF z0 G) (hP : ∀ U, G U → zz_GD zS zS2 zLg z0 sp U) (hl : l.stackTraces = false) (hE : ∀ U, G U → zGX z0 U) {mn : String} {xs : Nat → Int32} (hX : ∀ U, G U → va_T .int (sp 999999) 4 (fun j => .int (xs j)) (fun q : Nat => z0 ≤ q) U U.heap) : ∃ w2, zz_B l zTs D zcl zFK cy z0 sp (zTys cy) G "ToolMillLaw" mn 7 code 16 (39, zLv (Int32.ofNat 0), [.int (Int32.ofNat 20)], zW3) (1487, zLv (Int32.ofNat 0), [], w2) ∧ w2.1 ≤ 331 ∧ w2.2.1 ≤ 2300700 := by
  obtain ⟨w1, w2, hH, hR, hi, ⟨M, hs, hM, ht⟩, ho, n1, n2⟩ := zC_mean (l := l) (D := D) (cy := cy) (sp := sp) hG hP hl hE (xs 1)
  have hT := zM_th (d := 15) (l := l) (D := D) (cy := cy) (sp := sp) hG hP hs hM ht
  have hi2 := zz_has_c hM
  refine ⟨w2, ?_, n1, n2⟩
  have b := zz_B_rf (l := l) (Ts := zTs) (D := D) (cl := zcl) (fk := zFK) (cy := cy) (z0 := z0) (sp := sp) (tys := zTys cy) (G := G) (own := "ToolMillLaw") (mn := mn) (nL := 7) (cc := code) (d := 16) ((39, [(4, .int (Int32.ofNat 0)), (3, .ref 328), (2, .ref 171), (1, .ref 0), (0, .ref 1999999)], [.int (Int32.ofNat 20)], zW3) : zz_F)
  replace b := zz_fo b (zlw_39 (K := zz_k0) zz_k0_KS hG hP) (ze_tsw_k (t := 1319) (by decide) (by decide))
  replace b := zz_fo b (zlw_1319 (K := zz_k0) zz_k0_KS hG hP) (ze_aload rfl)
  replace b := zz_fo b (zlw_1320 (K := zz_k0) zz_k0_KS hG hP) (ze_aload rfl)
  replace b := zz_fo b (zlw_1321 (K := zz_k0) zz_k0_KS hG hP) (ze_iload rfl)
  replace b := zz_fo b (zlw_1323 (K := zz_k0) zz_k0_KS hG hP) ze_const
  replace b := zz_fo b (zlw_1324 (K := zz_k0) zz_k0_KS hG hP) (ze_iadd (by decide : _ = Int32.ofNat 1))
  replace b := zz_fo b (zlw_1325 (K := zz_k0) (L := 4) (xs := xs) zz_k0_KS hG hP hX (by decide)) (ze_kl (zl_kl xs 1 (by decide)) (zz_nI_of _))
  replace b := zz_fo b (zlw_1326 (K := zz_k0) zz_k0_KS hG hP) (ze_aload rfl)
  replace b := zz_gH b (zlh_1327 (rv := [.int (Int32.ofNat 1)]) (r := []) hG hH rfl rfl (zz_lb rfl))
  replace b := zz_fo b (zlw_1330 (K := zz_k0) zz_k0_KS hG hP) (ze_istore (lv' := [(4, _), (3, _), (2, _), (1, _), (0, _)]) rfl)
  replace b := zz_fo b (zlw_1332 (K := zz_k0) zz_k0_KS hG hP) (ze_aload rfl)
  replace b := zz_fo b (zlw_1333 (K := zz_k0) zz_k0_KS hG hP) (ze_aload rfl)
  replace b := zz_fo b (zlw_1334 (K := zz_k0) zz_k0_KS hG hP) (ze_iload rfl)
  replace b := zz_fo b (zlw_1336 (K := zz_k0) zz_k0_KS hG hP) ze_const
  replace b := zz_fo b (zlw_1337 (K := zz_k0) zz_k0_KS hG hP) (ze_iadd (by decide : _ = Int32.ofNat 1))
  replace b := zz_fo b (zlw_1338 (K := zz_k0) (L := 4) (xs := xs) zz_k0_KS hG hP hX (by decide)) (ze_kl (zl_kl xs 1 (by decide)) (zz_nI_of _))
  replace b := zz_gVi b (fun K h => zlw_1339 h hG hP) hR rfl rfl hi (zz_lb rfl)
  replace b := zz_fo b (zlw_1342 (K := zz_k0) zz_k0_KS hG hP) (ze_istore (lv' := [(5, _), (4, _), (3, _), (2, _), (1, _), (0, _)]) rfl)
  replace b := zz_fo b (zlw_1344 (K := zz_k0) zz_k0_KS hG hP) (ze_aload rfl)
  replace b := zz_gVi b (fun K h => zlw_1345 h hG hP) hT rfl rfl hi2 (zz_lb rfl)
  replace b := zz_fo b (zlw_1348 (K := zz_k0) zz_k0_KS hG hP) (ze_iload rfl)
  replace b := zz_fo b (zlw_1350 (K := zz_k0) zz_k0_KS hG hP) (ze_icmp_eq_t rfl)
  replace b := zz_fo b (zlw_1355 (K := zz_k0) zz_k0_KS hG hP) (ze_iload rfl)
  replace b := zz_fo b (zlw_1357 (K := zz_k0) zz_k0_KS hG hP) (ze_if_ne_t (by decide))
  replace b := zz_fo b (zlw_1372 (K := zz_k0) zz_k0_KS hG hP) ze_goto
  exact zz_fl (lv' := [(4, .int (Int32.ofNat 0)), (3, .ref 328), (2, .ref 171), (1, .ref 0), (0, .ref 1999999)]) b (zz_mc (List.mem_cons_of_mem _ (List.mem_cons_of_mem _ List.mem_cons_self)) (zz_mc (List.mem_cons_of_mem _ (List.mem_cons_of_mem _ (List.mem_cons_of_mem _ List.mem_cons_self))) (zz_mc (List.mem_cons_of_mem _ (List.mem_cons_of_mem _ (List.mem_cons_of_mem _ (List.mem_cons_of_mem _ List.mem_cons_self)))) (zz_mc (List.mem_cons_of_mem _ (List.mem_cons_of_mem _ (List.mem_cons_of_mem _ (List.mem_cons_of_mem _ (List.mem_cons_of_mem _ List.mem_cons_self))))) (zz_mc (List.mem_cons_of_mem _ (List.mem_cons_of_mem _ (List.mem_cons_of_mem _ (List.mem_cons_of_mem _ (List.mem_cons_of_mem _ (List.mem_cons_of_mem _ List.mem_cons_self)))))) zz_mn)))))
theorem zLc_21 {l : Launch} {D : va_G} {cy : Nat → ClassId} {z0 : Nat} {sp : Nat → Nat} {G : State → Prop} (hG : zz_GF z0 G) (hP : ∀ U, G U → zz_GD zS zS2 zLg z0 sp U) (hl : l.stackTraces = false) (hE : ∀ U, G U → zGX z0 U) {mn : String} {xs : Nat → Int32} (hX : ∀ U, G U → va_T .int (sp 999999) 4 (fun j => .int (xs j)) (fun q : Nat => z0 ≤ q) U U.heap) : ∃ w2, zz_B l zTs D zcl zFK cy z0 sp (zTys cy) G "ToolMillLaw" mn 7 code 16 (39, zLv (Int32.ofNat 0), [.int (Int32.ofNat 21)], zW3) (1487, zLv (Int32.ofNat 0), [], w2) ∧ w2.1 ≤ 331 ∧ w2.2.1 ≤ 2300700 := by
  obtain ⟨w1, w2, hH, hR, hi, ⟨M, hs, hM, ht⟩, ho, n1, n2⟩ := zC_meant (l := l) (D := D) (cy := cy) (sp := sp) hG hP hl hE (xs 1)
  have hT := zM_th (d := 15) (l := l) (D := D) (cy := cy) (sp := sp) hG hP hs hM ht
  have hi2 := zz_has_c hM
  refine ⟨w2, ?_, n1, n2⟩
  have b := zz_B_rf (l := l) (Ts := zTs) (D := D) (cl := zcl) (fk := zFK) (cy := cy) (z0 := z0) (sp := sp) (tys := zTys cy) (G := G) (own := "ToolMillLaw") (mn := mn) (nL := 7) (cc := code) (d := 16) ((39, [(4, .int (Int32.ofNat 0)), (3, .ref 328), (2, .ref 171), (1, .ref 0), (0, .ref 1999999)], [.int (Int32.ofNat 21)], zW3) : zz_F)
  replace b := zz_fo b (zlw_39 (K := zz_k0) zz_k0_KS hG hP) (ze_tsw_k (t := 1375) (by decide) (by decide))
  replace b := zz_fo b (zlw_1375 (K := zz_k0) zz_k0_KS hG hP) (ze_aload rfl)
  replace b := zz_fo b (zlw_1376 (K := zz_k0) zz_k0_KS hG hP) (ze_aload rfl)
  replace b := zz_fo b (zlw_1377 (K := zz_k0) zz_k0_KS hG hP) (ze_iload rfl)
  replace b := zz_fo b (zlw_1379 (K := zz_k0) zz_k0_KS hG hP) ze_const
  replace b := zz_fo b (zlw_1380 (K := zz_k0) zz_k0_KS hG hP) (ze_iadd (by decide : _ = Int32.ofNat 1))
  replace b := zz_fo b (zlw_1381 (K := zz_k0) (L := 4) (xs := xs) zz_k0_KS hG hP hX (by decide)) (ze_kl (zl_kl xs 1 (by decide)) (zz_nI_of _))
  replace b := zz_fo b (zlw_1382 (K := zz_k0) zz_k0_KS hG hP) (ze_aload rfl)
  replace b := zz_gH b (zlh_1383 (rv := [.int (Int32.ofNat 1)]) (r := []) hG hH rfl rfl (zz_lb rfl))
  replace b := zz_fo b (zlw_1386 (K := zz_k0) zz_k0_KS hG hP) (ze_istore (lv' := [(4, _), (3, _), (2, _), (1, _), (0, _)]) rfl)
  replace b := zz_fo b (zlw_1388 (K := zz_k0) zz_k0_KS hG hP) (ze_aload rfl)
  replace b := zz_fo b (zlw_1389 (K := zz_k0) zz_k0_KS hG hP) (ze_aload rfl)
  replace b := zz_fo b (zlw_1390 (K := zz_k0) zz_k0_KS hG hP) (ze_iload rfl)
  replace b := zz_fo b (zlw_1392 (K := zz_k0) zz_k0_KS hG hP) ze_const
  replace b := zz_fo b (zlw_1393 (K := zz_k0) zz_k0_KS hG hP) (ze_iadd (by decide : _ = Int32.ofNat 1))
  replace b := zz_fo b (zlw_1394 (K := zz_k0) (L := 4) (xs := xs) zz_k0_KS hG hP hX (by decide)) (ze_kl (zl_kl xs 1 (by decide)) (zz_nI_of _))
  replace b := zz_gVi b (fun K h => zlw_1395 h hG hP) hR rfl rfl hi (zz_lb rfl)
  replace b := zz_fo b (zlw_1398 (K := zz_k0) zz_k0_KS hG hP) (ze_istore (lv' := [(5, _), (4, _), (3, _), (2, _), (1, _), (0, _)]) rfl)
  replace b := zz_fo b (zlw_1400 (K := zz_k0) zz_k0_KS hG hP) (ze_aload rfl)
  replace b := zz_gVi b (fun K h => zlw_1401 h hG hP) hT rfl rfl hi2 (zz_lb rfl)
  replace b := zz_fo b (zlw_1404 (K := zz_k0) zz_k0_KS hG hP) (ze_iload rfl)
  replace b := zz_fo b (zlw_1406 (K := zz_k0) zz_k0_KS hG hP) (ze_icmp_eq_t rfl)
  replace b := zz_fo b (zlw_1411 (K := zz_k0) zz_k0_KS hG hP) (ze_iload rfl)
  replace b := zz_fo b (zlw_1413 (K := zz_k0) zz_k0_KS hG hP) (ze_if_ne_t (by decide))
  replace b := zz_fo b (zlw_1428 (K := zz_k0) zz_k0_KS hG hP) ze_goto
  exact zz_fl (lv' := [(4, .int (Int32.ofNat 0)), (3, .ref 328), (2, .ref 171), (1, .ref 0), (0, .ref 1999999)]) b (zz_mc (List.mem_cons_of_mem _ (List.mem_cons_of_mem _ List.mem_cons_self)) (zz_mc (List.mem_cons_of_mem _ (List.mem_cons_of_mem _ (List.mem_cons_of_mem _ List.mem_cons_self))) (zz_mc (List.mem_cons_of_mem _ (List.mem_cons_of_mem _ (List.mem_cons_of_mem _ (List.mem_cons_of_mem _ List.mem_cons_self)))) (zz_mc (List.mem_cons_of_mem _ (List.mem_cons_of_mem _ (List.mem_cons_of_mem _ (List.mem_cons_of_mem _ (List.mem_cons_of_mem _ List.mem_cons_self))))) (zz_mc (List.mem_cons_of_mem _ (List.mem_cons_of_mem _ (List.mem_cons_of_mem _ (List.mem_cons_of_mem _ (List.mem_cons_of_mem _ (List.mem_cons_of_mem _ List.mem_cons_self)))))) zz_mn)))))
theorem zLc_22 {l : Launch} {D : va_G} {cy : Nat → ClassId} {z0 : Nat} {sp : Nat → Nat} {G : State → Prop} (hG : zz_GF z0 G) (hP : ∀ U, G U → zz_GD zS zS2 zLg z0 sp U) (hl : l.stackTraces = false) (hE : ∀ U, G U → zGX z0 U) {mn : String} {xs : Nat → Int32} (hX : ∀ U, G U → va_T .int (sp 999999) 4 (fun j => .int (xs j)) (fun q : Nat => z0 ≤ q) U U.heap) : ∃ w2, zz_B l zTs D zcl zFK cy z0 sp (zTys cy) G "ToolMillLaw" mn 7 code 16 (39, zLv (Int32.ofNat 0), [.int (Int32.ofNat 22)], zW3) (1487, zLv (Int32.ofNat 0), [], w2) ∧ w2.1 ≤ 331 ∧ w2.2.1 ≤ 2300700 := by
  obtain ⟨w1, w2, hH, hR, hi, ⟨M, hs, hM, ht⟩, ho, n1, n2⟩ := zC_said (l := l) (D := D) (cy := cy) (sp := sp) hG hP hl hE (xs 1)
  have hT := zM_th (d := 15) (l := l) (D := D) (cy := cy) (sp := sp) hG hP hs hM ht
  have hi2 := zz_has_c hM
  refine ⟨w2, ?_, n1, n2⟩
  have b := zz_B_rf (l := l) (Ts := zTs) (D := D) (cl := zcl) (fk := zFK) (cy := cy) (z0 := z0) (sp := sp) (tys := zTys cy) (G := G) (own := "ToolMillLaw") (mn := mn) (nL := 7) (cc := code) (d := 16) ((39, [(4, .int (Int32.ofNat 0)), (3, .ref 328), (2, .ref 171), (1, .ref 0), (0, .ref 1999999)], [.int (Int32.ofNat 22)], zW3) : zz_F)
  replace b := zz_fo b (zlw_39 (K := zz_k0) zz_k0_KS hG hP) (ze_tsw_k (t := 1431) (by decide) (by decide))
  replace b := zz_fo b (zlw_1431 (K := zz_k0) zz_k0_KS hG hP) (ze_aload rfl)
  replace b := zz_fo b (zlw_1432 (K := zz_k0) zz_k0_KS hG hP) (ze_aload rfl)
  replace b := zz_fo b (zlw_1433 (K := zz_k0) zz_k0_KS hG hP) (ze_iload rfl)
  replace b := zz_fo b (zlw_1435 (K := zz_k0) zz_k0_KS hG hP) ze_const
  replace b := zz_fo b (zlw_1436 (K := zz_k0) zz_k0_KS hG hP) (ze_iadd (by decide : _ = Int32.ofNat 1))
  replace b := zz_fo b (zlw_1437 (K := zz_k0) (L := 4) (xs := xs) zz_k0_KS hG hP hX (by decide)) (ze_kl (zl_kl xs 1 (by decide)) (zz_nI_of _))
  replace b := zz_fo b (zlw_1438 (K := zz_k0) zz_k0_KS hG hP) (ze_aload rfl)
  replace b := zz_gH b (zlh_1439 (rv := [.int (Int32.ofNat 1)]) (r := []) hG hH rfl rfl (zz_lb rfl))
  replace b := zz_fo b (zlw_1442 (K := zz_k0) zz_k0_KS hG hP) (ze_istore (lv' := [(4, _), (3, _), (2, _), (1, _), (0, _)]) rfl)
  replace b := zz_fo b (zlw_1444 (K := zz_k0) zz_k0_KS hG hP) (ze_aload rfl)
  replace b := zz_fo b (zlw_1445 (K := zz_k0) zz_k0_KS hG hP) (ze_aload rfl)
  replace b := zz_fo b (zlw_1446 (K := zz_k0) zz_k0_KS hG hP) (ze_iload rfl)
  replace b := zz_fo b (zlw_1448 (K := zz_k0) zz_k0_KS hG hP) ze_const
  replace b := zz_fo b (zlw_1449 (K := zz_k0) zz_k0_KS hG hP) (ze_iadd (by decide : _ = Int32.ofNat 1))
  replace b := zz_fo b (zlw_1450 (K := zz_k0) (L := 4) (xs := xs) zz_k0_KS hG hP hX (by decide)) (ze_kl (zl_kl xs 1 (by decide)) (zz_nI_of _))
  replace b := zz_gVi b (fun K h => zlw_1451 h hG hP) hR rfl rfl hi (zz_lb rfl)
  replace b := zz_fo b (zlw_1454 (K := zz_k0) zz_k0_KS hG hP) (ze_istore (lv' := [(5, _), (4, _), (3, _), (2, _), (1, _), (0, _)]) rfl)
  replace b := zz_fo b (zlw_1456 (K := zz_k0) zz_k0_KS hG hP) (ze_aload rfl)
  replace b := zz_gVi b (fun K h => zlw_1457 h hG hP) hT rfl rfl hi2 (zz_lb rfl)
  replace b := zz_fo b (zlw_1460 (K := zz_k0) zz_k0_KS hG hP) (ze_iload rfl)
  replace b := zz_fo b (zlw_1462 (K := zz_k0) zz_k0_KS hG hP) (ze_icmp_eq_t rfl)
  replace b := zz_fo b (zlw_1467 (K := zz_k0) zz_k0_KS hG hP) (ze_iload rfl)
  replace b := zz_fo b (zlw_1469 (K := zz_k0) zz_k0_KS hG hP) (ze_if_ne_t (by decide))
  replace b := zz_fo b (zlw_1484 (K := zz_k0) zz_k0_KS hG hP) ze_goto
  exact zz_fl (lv' := [(4, .int (Int32.ofNat 0)), (3, .ref 328), (2, .ref 171), (1, .ref 0), (0, .ref 1999999)]) b (zz_mc (List.mem_cons_of_mem _ (List.mem_cons_of_mem _ List.mem_cons_self)) (zz_mc (List.mem_cons_of_mem _ (List.mem_cons_of_mem _ (List.mem_cons_of_mem _ List.mem_cons_self))) (zz_mc (List.mem_cons_of_mem _ (List.mem_cons_of_mem _ (List.mem_cons_of_mem _ (List.mem_cons_of_mem _ List.mem_cons_self)))) (zz_mc (List.mem_cons_of_mem _ (List.mem_cons_of_mem _ (List.mem_cons_of_mem _ (List.mem_cons_of_mem _ (List.mem_cons_of_mem _ List.mem_cons_self))))) (zz_mc (List.mem_cons_of_mem _ (List.mem_cons_of_mem _ (List.mem_cons_of_mem _ (List.mem_cons_of_mem _ (List.mem_cons_of_mem _ (List.mem_cons_of_mem _ List.mem_cons_self)))))) zz_mn)))))
