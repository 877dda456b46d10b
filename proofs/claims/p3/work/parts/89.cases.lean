/-! the law's cases -/
section ZGV
variable {l : Launch} {Ts : List Cond} {D : va_G} {cl : List vw_C} {fk : Nat → Nat → Nat} {cy : Nat → ClassId} {z0 : Nat} {sp : Nat → Nat} {tys : List (ClassId × FieldType)} {G : State → Prop} {own mn : String} {nL : Nat} {cc : ByteArray} {d : Nat} {pc : Nat}
variable {yn : Nat → MethodName} {cn : Nat → ByteArray} {ml : Nat → Nat} {rt : Nat → Option FieldType} {f : zz_F}
theorem zz_gVi {ci y na n r0 : Nat} {lv : List (Nat × Value)} {st as r : List Value} {v : Value} {w w' : zz_W} (b : zz_B l Ts D cl fk cy z0 sp tys G own mn nL cc d f (pc, lv, st, w)) (hO : ∀ K, zz_KS l D cl fk cy z0 sp tys G yn (fun y => Cond.code (yn y) (cn y) (ml y) (rt y) :: Ts) d K → zz_O l Ts D cl fk cy z0 sp tys G own mn nL cc d K pc (za_callV ci y na n))
    (hM : zz_M l Ts D cl fk cy z0 sp tys G yn cn ml rt d y (.ref r0 :: as) w [v] w') (hst : st = as.reverse ++ .ref r0 :: r) (hna : as.length = na) (hb : zz_ic w r0 ci = true) (hr : zz_cs r ≤ 8) : zz_B l Ts D cl fk cy z0 sp tys G own mn nL cc d f (n, lv, v :: r, w') :=
  zz_B_tr b (zz_O_B (hO _ (zz_k1_KS hM)) rfl (ze_callV hst hna hb hr hM.2.1 zz_k1_at))
theorem zz_gVv {ci y na n r0 : Nat} {lv : List (Nat × Value)} {st as r : List Value} {w w' : zz_W} (b : zz_B l Ts D cl fk cy z0 sp tys G own mn nL cc d f (pc, lv, st, w)) (hO : ∀ K, zz_KS l D cl fk cy z0 sp tys G yn (fun y => Cond.code (yn y) (cn y) (ml y) (rt y) :: Ts) d K → zz_O l Ts D cl fk cy z0 sp tys G own mn nL cc d K pc (za_callV ci y na n))
    (hM : zz_M l Ts D cl fk cy z0 sp tys G yn cn ml rt d y (.ref r0 :: as) w [] w') (hst : st = as.reverse ++ .ref r0 :: r) (hna : as.length = na) (hb : zz_ic w r0 ci = true) (hr : zz_cs r ≤ 8) : zz_B l Ts D cl fk cy z0 sp tys G own mn nL cc d f (n, lv, r, w') :=
  zz_B_tr b (zz_O_B (hO _ (zz_k1_KS hM)) rfl (ze_callV hst hna hb hr hM.2.1 zz_k1_at))
theorem zz_gH {n : Nat} {lv : List (Nat × Value)} {st r : List Value} {v : Value} {w w' : zz_W} (b : zz_B l Ts D cl fk cy z0 sp tys G own mn nL cc d f (pc, lv, st, w)) (h : zz_B l Ts D cl fk cy z0 sp tys G own mn nL cc d (pc, lv, st, w) (n, lv, [v] ++ r, w')) : zz_B l Ts D cl fk cy z0 sp tys G own mn nL cc d f (n, lv, v :: r, w') := zz_B_tr b h
end ZGV
theorem zl_kl {L : Nat} (xs : Nat → Int32) {j : Nat} (h : j < L) (hL : L ≤ 2048) : zg_el L xs 1999999 (zz_nI (Int32.ofNat j)) = some (zz_nI (xs j)) := by
  rw [zz_nI_ofNat (by omega)]
  exact if_pos ⟨rfl, h⟩
theorem zl_ij (a j : Nat) : Int32.ofNat a + Int32.ofNat j = Int32.ofNat (a + j) := (Int32.ofNat_add a j).symm
def zLv (i : Int32) : List (Nat × Value) := [(4, .int i), (3, .ref 328), (2, .ref 171), (1, .ref 0), (0, .ref 1999999)]
theorem zLc_0 {l : Launch} {D : va_G} {cy : Nat → ClassId} {z0 : Nat} {sp : Nat → Nat} {G : State → Prop} (H : zHy l D cy z0 sp G) {mn : String} {L n m : Nat} {xs : Nat → Int32} (hX : ∀ U, G U → va_T .int (sp 999999) L (fun j => .int (xs j)) (fun q : Nat => z0 ≤ q) U U.heap) (hL : L ≤ 2048) (hnm : n ≤ m) (hn4 : 4 * m + 4 ≤ L) {w : zz_W} (h : zIv zQI n 0 w) : ∃ w', zz_B l zTs D zcl zFK cy z0 sp (zTys cy) G "ToolMillLaw" mn 7 code 470 (39, zLv (Int32.ofNat (4 * m)), [.int (Int32.ofNat 0)], w) (899, zLv (Int32.ofNat (4 * m)), [], w') ∧ zIv zQI (n + 1) 0 w' := by
  have hn : n ≤ 511 := by omega
  have hL2 : L ≤ 2147483648 := by omega
  have h0 := zI_ic0 (zIv_I h)
  obtain ⟨k, w1, hH, h1⟩ := zHk_1 H hn h (xs (4 * m + 1))
  have h2 : zz_ic w1 171 0 = true := by rcases h1 with h1 | h1 <;> exact zI_ic171 (zJv_I h1)
  obtain ⟨v, w2, hR, hI⟩ := zRm_25 H hn (xs (4 * m + 1)) h1
  obtain ⟨hG, hP, -, hsp0, -, -, -, -⟩ := H
  refine ⟨w2, ?_, hI⟩
  have b := zz_B_rf (l := l) (Ts := zTs) (D := D) (cl := zcl) (fk := zFK) (cy := cy) (z0 := z0) (sp := sp) (tys := zTys cy) (G := G) (own := "ToolMillLaw") (mn := mn) (nL := 7) (cc := code) (d := 470) ((39, [(4, .int (Int32.ofNat (4 * m))), (3, .ref 328), (2, .ref 171), (1, .ref 0), (0, .ref 1999999)], [.int (Int32.ofNat 0)], w) : zz_F)
  replace b := zz_fo b (zlw_39 (K := zz_k0) zz_k0_KS hsp0 hG hP) (ze_tsw_k (t := 144) (by decide) (by decide))
  replace b := zz_fo b (zlw_144 (K := zz_k0) zz_k0_KS hsp0 hG hP) (ze_aload rfl)
  replace b := zz_fo b (zlw_145 (K := zz_k0) zz_k0_KS hsp0 hG hP) (ze_aload rfl)
  replace b := zz_fo b (zlw_146 (K := zz_k0) zz_k0_KS hsp0 hG hP) (ze_iload rfl)
  replace b := zz_fo b (zlw_148 (K := zz_k0) zz_k0_KS hsp0 hG hP) ze_const
  replace b := zz_fo b (zlw_149 (K := zz_k0) zz_k0_KS hsp0 hG hP) (ze_iadd (zl_ij (4 * m) 1))
  replace b := zz_fo b (zlw_150 (K := zz_k0) hX hL2) (ze_kl (zl_kl xs (j := 4 * m + 1) (by omega) hL) (zz_nI_of _))
  replace b := zz_fo b (zlw_151 (K := zz_k0) zz_k0_KS hsp0 hG hP) (ze_aload rfl)
  replace b := zz_gH b (zlh_152 (rv := [.int k]) (r := []) hG hH rfl rfl (zz_lb rfl))
  replace b := zz_fo b (zlw_155 (K := zz_k0) zz_k0_KS hsp0 hG hP) (ze_istore (lv' := [(4, _), (3, _), (2, _), (1, _), (0, _)]) rfl)
  replace b := zz_fo b (zlw_157 (K := zz_k0) zz_k0_KS hsp0 hG hP) (ze_aload rfl)
  replace b := zz_fo b (zlw_158 (K := zz_k0) zz_k0_KS hsp0 hG hP) (ze_aload rfl)
  replace b := zz_fo b (zlw_159 (K := zz_k0) zz_k0_KS hsp0 hG hP) (ze_iload rfl)
  replace b := zz_fo b (zlw_161 (K := zz_k0) zz_k0_KS hsp0 hG hP) ze_const
  replace b := zz_fo b (zlw_162 (K := zz_k0) zz_k0_KS hsp0 hG hP) (ze_iadd (zl_ij (4 * m) 1))
  replace b := zz_fo b (zlw_163 (K := zz_k0) hX hL2) (ze_kl (zl_kl xs (j := 4 * m + 1) (by omega) hL) (zz_nI_of _))
  replace b := zz_gVi b (fun K h => zlw_164 h hsp0 hG hP) hR rfl rfl h2 (zz_lb rfl)
  replace b := zz_fo b (zlw_167 (K := zz_k0) zz_k0_KS hsp0 hG hP) (ze_istore (lv' := [(5, _), (4, _), (3, _), (2, _), (1, _), (0, _)]) rfl)
  replace b := zz_fo b (zlw_169 (K := zz_k0) zz_k0_KS hsp0 hG hP) ze_goto
  exact zz_fl (lv' := [(4, .int (Int32.ofNat (4 * m))), (3, .ref 328), (2, .ref 171), (1, .ref 0), (0, .ref 1999999)]) b (zz_mc (List.mem_cons_of_mem _ (List.mem_cons_of_mem _ List.mem_cons_self)) (zz_mc (List.mem_cons_of_mem _ (List.mem_cons_of_mem _ (List.mem_cons_of_mem _ List.mem_cons_self))) (zz_mc (List.mem_cons_of_mem _ (List.mem_cons_of_mem _ (List.mem_cons_of_mem _ (List.mem_cons_of_mem _ List.mem_cons_self)))) (zz_mc (List.mem_cons_of_mem _ (List.mem_cons_of_mem _ (List.mem_cons_of_mem _ (List.mem_cons_of_mem _ (List.mem_cons_of_mem _ List.mem_cons_self))))) (zz_mc (List.mem_cons_of_mem _ (List.mem_cons_of_mem _ (List.mem_cons_of_mem _ (List.mem_cons_of_mem _ (List.mem_cons_of_mem _ (List.mem_cons_of_mem _ List.mem_cons_self)))))) zz_mn)))))
theorem zLc_1 {l : Launch} {D : va_G} {cy : Nat → ClassId} {z0 : Nat} {sp : Nat → Nat} {G : State → Prop} (H : zHy l D cy z0 sp G) {mn : String} {L n m : Nat} {xs : Nat → Int32} (hX : ∀ U, G U → va_T .int (sp 999999) L (fun j => .int (xs j)) (fun q : Nat => z0 ≤ q) U U.heap) (hL : L ≤ 2048) (hnm : n ≤ m) (hn4 : 4 * m + 4 ≤ L) {w : zz_W} (h : zIv zQI n 0 w) : ∃ w', zz_B l zTs D zcl zFK cy z0 sp (zTys cy) G "ToolMillLaw" mn 7 code 470 (39, zLv (Int32.ofNat (4 * m)), [.int (Int32.ofNat 1)], w) (899, zLv (Int32.ofNat (4 * m)), [], w') ∧ zIv zQI (n + 1) 0 w' := by
  have hn : n ≤ 511 := by omega
  have hL2 : L ≤ 2147483648 := by omega
  have h0 := zI_ic0 (zIv_I h)
  obtain ⟨k, w1, hH, h1⟩ := zHk_2 H hn h (xs (4 * m + 1))
  have h2 : zz_ic w1 171 0 = true := by rcases h1 with ⟨-, h1⟩ | ⟨-, h1 | h1⟩ <;> exact zI_ic171 (zJv_I h1)
  obtain ⟨w3, w2, hR, h3, hT, hI⟩ := zRm_26 H hn (xs (4 * m + 1)) k h1
  obtain ⟨hG, hP, -, hsp0, -, -, -, -⟩ := H
  refine ⟨w2, ?_, hI⟩
  have b := zz_B_rf (l := l) (Ts := zTs) (D := D) (cl := zcl) (fk := zFK) (cy := cy) (z0 := z0) (sp := sp) (tys := zTys cy) (G := G) (own := "ToolMillLaw") (mn := mn) (nL := 7) (cc := code) (d := 470) ((39, [(4, .int (Int32.ofNat (4 * m))), (3, .ref 328), (2, .ref 171), (1, .ref 0), (0, .ref 1999999)], [.int (Int32.ofNat 1)], w) : zz_F)
  replace b := zz_fo b (zlw_39 (K := zz_k0) zz_k0_KS hsp0 hG hP) (ze_tsw_k (t := 172) (by decide) (by decide))
  replace b := zz_fo b (zlw_172 (K := zz_k0) zz_k0_KS hsp0 hG hP) (ze_aload rfl)
  replace b := zz_fo b (zlw_173 (K := zz_k0) zz_k0_KS hsp0 hG hP) (ze_aload rfl)
  replace b := zz_fo b (zlw_174 (K := zz_k0) zz_k0_KS hsp0 hG hP) (ze_iload rfl)
  replace b := zz_fo b (zlw_176 (K := zz_k0) zz_k0_KS hsp0 hG hP) ze_const
  replace b := zz_fo b (zlw_177 (K := zz_k0) zz_k0_KS hsp0 hG hP) (ze_iadd (zl_ij (4 * m) 1))
  replace b := zz_fo b (zlw_178 (K := zz_k0) hX hL2) (ze_kl (zl_kl xs (j := 4 * m + 1) (by omega) hL) (zz_nI_of _))
  replace b := zz_gH b (zlh_179 (rv := [.int k]) (r := []) hG hH rfl rfl (zz_lb rfl))
  replace b := zz_fo b (zlw_182 (K := zz_k0) zz_k0_KS hsp0 hG hP) (ze_istore (lv' := [(4, _), (3, _), (2, _), (1, _), (0, _)]) rfl)
  replace b := zz_fo b (zlw_184 (K := zz_k0) zz_k0_KS hsp0 hG hP) (ze_aload rfl)
  replace b := zz_fo b (zlw_185 (K := zz_k0) zz_k0_KS hsp0 hG hP) (ze_aload rfl)
  replace b := zz_fo b (zlw_186 (K := zz_k0) zz_k0_KS hsp0 hG hP) (ze_iload rfl)
  replace b := zz_fo b (zlw_188 (K := zz_k0) zz_k0_KS hsp0 hG hP) ze_const
  replace b := zz_fo b (zlw_189 (K := zz_k0) zz_k0_KS hsp0 hG hP) (ze_iadd (zl_ij (4 * m) 1))
  replace b := zz_fo b (zlw_190 (K := zz_k0) hX hL2) (ze_kl (zl_kl xs (j := 4 * m + 1) (by omega) hL) (zz_nI_of _))
  replace b := zz_gVv b (fun K h => zlw_191 h hsp0 hG hP) hR rfl rfl h2 (zz_lb rfl)
  replace b := zz_fo b (zlw_194 (K := zz_k0) zz_k0_KS hsp0 hG hP) (ze_aload rfl)
  replace b := zz_gVi b (fun K h => zlw_195 h hsp0 hG hP) hT rfl rfl h3 (zz_lb rfl)
  replace b := zz_fo b (zlw_198 (K := zz_k0) zz_k0_KS hsp0 hG hP) (ze_iload rfl)
  replace b := zz_fo b (zlw_200 (K := zz_k0) zz_k0_KS hsp0 hG hP) (ze_icmp_eq_t rfl)
  replace b := zz_fo b (zlw_205 (K := zz_k0) zz_k0_KS hsp0 hG hP) ze_goto
  exact zz_fl (lv' := [(4, .int (Int32.ofNat (4 * m))), (3, .ref 328), (2, .ref 171), (1, .ref 0), (0, .ref 1999999)]) b (zz_mc (List.mem_cons_of_mem _ List.mem_cons_self) (zz_mc (List.mem_cons_of_mem _ (List.mem_cons_of_mem _ List.mem_cons_self)) (zz_mc (List.mem_cons_of_mem _ (List.mem_cons_of_mem _ (List.mem_cons_of_mem _ List.mem_cons_self))) (zz_mc (List.mem_cons_of_mem _ (List.mem_cons_of_mem _ (List.mem_cons_of_mem _ (List.mem_cons_of_mem _ List.mem_cons_self)))) (zz_mc (List.mem_cons_of_mem _ (List.mem_cons_of_mem _ (List.mem_cons_of_mem _ (List.mem_cons_of_mem _ (List.mem_cons_of_mem _ List.mem_cons_self))))) zz_mn)))))
theorem zLc_2 {l : Launch} {D : va_G} {cy : Nat → ClassId} {z0 : Nat} {sp : Nat → Nat} {G : State → Prop} (H : zHy l D cy z0 sp G) {mn : String} {L n m : Nat} {xs : Nat → Int32} (hX : ∀ U, G U → va_T .int (sp 999999) L (fun j => .int (xs j)) (fun q : Nat => z0 ≤ q) U U.heap) (hL : L ≤ 2048) (hnm : n ≤ m) (hn4 : 4 * m + 4 ≤ L) {w : zz_W} (h : zIv zQI n 0 w) : ∃ w', zz_B l zTs D zcl zFK cy z0 sp (zTys cy) G "ToolMillLaw" mn 7 code 470 (39, zLv (Int32.ofNat (4 * m)), [.int (Int32.ofNat 2)], w) (899, zLv (Int32.ofNat (4 * m)), [], w') ∧ zIv zQI (n + 1) 0 w' := by
  have hn : n ≤ 511 := by omega
  have hL2 : L ≤ 2147483648 := by omega
  have h0 := zI_ic0 (zIv_I h)
  obtain ⟨k, w1, hH, h1⟩ := zHk_3 H hn h 
  have h2 := zI_ic171 (zIv_I h1)
  obtain ⟨v, w2, hR, hI⟩ := zRm_27 H hn h1 
  obtain ⟨hG, hP, -, hsp0, -, -, -, -⟩ := H
  refine ⟨w2, ?_, hI⟩
  have b := zz_B_rf (l := l) (Ts := zTs) (D := D) (cl := zcl) (fk := zFK) (cy := cy) (z0 := z0) (sp := sp) (tys := zTys cy) (G := G) (own := "ToolMillLaw") (mn := mn) (nL := 7) (cc := code) (d := 470) ((39, [(4, .int (Int32.ofNat (4 * m))), (3, .ref 328), (2, .ref 171), (1, .ref 0), (0, .ref 1999999)], [.int (Int32.ofNat 2)], w) : zz_F)
  replace b := zz_fo b (zlw_39 (K := zz_k0) zz_k0_KS hsp0 hG hP) (ze_tsw_k (t := 208) (by decide) (by decide))
  replace b := zz_fo b (zlw_208 (K := zz_k0) zz_k0_KS hsp0 hG hP) (ze_aload rfl)
  replace b := zz_fo b (zlw_209 (K := zz_k0) zz_k0_KS hsp0 hG hP) (ze_aload rfl)
  replace b := zz_gH b (zlh_210 (rv := [.int k]) (r := []) hG hH rfl rfl (zz_lb rfl))
  replace b := zz_fo b (zlw_213 (K := zz_k0) zz_k0_KS hsp0 hG hP) (ze_istore (lv' := [(4, _), (3, _), (2, _), (1, _), (0, _)]) rfl)
  replace b := zz_fo b (zlw_215 (K := zz_k0) zz_k0_KS hsp0 hG hP) (ze_aload rfl)
  replace b := zz_gVi b (fun K h => zlw_216 h hsp0 hG hP) hR rfl rfl h2 (zz_lb rfl)
  replace b := zz_fo b (zlw_219 (K := zz_k0) zz_k0_KS hsp0 hG hP) (ze_istore (lv' := [(5, _), (4, _), (3, _), (2, _), (1, _), (0, _)]) rfl)
  replace b := zz_fo b (zlw_221 (K := zz_k0) zz_k0_KS hsp0 hG hP) ze_goto
  exact zz_fl (lv' := [(4, .int (Int32.ofNat (4 * m))), (3, .ref 328), (2, .ref 171), (1, .ref 0), (0, .ref 1999999)]) b (zz_mc (List.mem_cons_of_mem _ (List.mem_cons_of_mem _ List.mem_cons_self)) (zz_mc (List.mem_cons_of_mem _ (List.mem_cons_of_mem _ (List.mem_cons_of_mem _ List.mem_cons_self))) (zz_mc (List.mem_cons_of_mem _ (List.mem_cons_of_mem _ (List.mem_cons_of_mem _ (List.mem_cons_of_mem _ List.mem_cons_self)))) (zz_mc (List.mem_cons_of_mem _ (List.mem_cons_of_mem _ (List.mem_cons_of_mem _ (List.mem_cons_of_mem _ (List.mem_cons_of_mem _ List.mem_cons_self))))) (zz_mc (List.mem_cons_of_mem _ (List.mem_cons_of_mem _ (List.mem_cons_of_mem _ (List.mem_cons_of_mem _ (List.mem_cons_of_mem _ (List.mem_cons_of_mem _ List.mem_cons_self)))))) zz_mn)))))
theorem zLc_3 {l : Launch} {D : va_G} {cy : Nat → ClassId} {z0 : Nat} {sp : Nat → Nat} {G : State → Prop} (H : zHy l D cy z0 sp G) {mn : String} {L n m : Nat} {xs : Nat → Int32} (hX : ∀ U, G U → va_T .int (sp 999999) L (fun j => .int (xs j)) (fun q : Nat => z0 ≤ q) U U.heap) (hL : L ≤ 2048) (hnm : n ≤ m) (hn4 : 4 * m + 4 ≤ L) {w : zz_W} (h : zIv zQI n 0 w) : ∃ w', zz_B l zTs D zcl zFK cy z0 sp (zTys cy) G "ToolMillLaw" mn 7 code 470 (39, zLv (Int32.ofNat (4 * m)), [.int (Int32.ofNat 3)], w) (899, zLv (Int32.ofNat (4 * m)), [], w') ∧ zIv zQI (n + 1) 0 w' := by
  have hn : n ≤ 511 := by omega
  have hL2 : L ≤ 2147483648 := by omega
  have h0 := zI_ic0 (zIv_I h)
  obtain ⟨k, w1, hH, h1⟩ := zHk_4 H hn h 
  have h2 := zI_ic171 (zIv_I h1)
  obtain ⟨v, w2, hR, hI⟩ := zRm_28 H hn h1 
  obtain ⟨hG, hP, -, hsp0, -, -, -, -⟩ := H
  refine ⟨w2, ?_, hI⟩
  have b := zz_B_rf (l := l) (Ts := zTs) (D := D) (cl := zcl) (fk := zFK) (cy := cy) (z0 := z0) (sp := sp) (tys := zTys cy) (G := G) (own := "ToolMillLaw") (mn := mn) (nL := 7) (cc := code) (d := 470) ((39, [(4, .int (Int32.ofNat (4 * m))), (3, .ref 328), (2, .ref 171), (1, .ref 0), (0, .ref 1999999)], [.int (Int32.ofNat 3)], w) : zz_F)
  replace b := zz_fo b (zlw_39 (K := zz_k0) zz_k0_KS hsp0 hG hP) (ze_tsw_k (t := 224) (by decide) (by decide))
  replace b := zz_fo b (zlw_224 (K := zz_k0) zz_k0_KS hsp0 hG hP) (ze_aload rfl)
  replace b := zz_fo b (zlw_225 (K := zz_k0) zz_k0_KS hsp0 hG hP) (ze_aload rfl)
  replace b := zz_gH b (zlh_226 (rv := [.int k]) (r := []) hG hH rfl rfl (zz_lb rfl))
  replace b := zz_fo b (zlw_229 (K := zz_k0) zz_k0_KS hsp0 hG hP) (ze_istore (lv' := [(4, _), (3, _), (2, _), (1, _), (0, _)]) rfl)
  replace b := zz_fo b (zlw_231 (K := zz_k0) zz_k0_KS hsp0 hG hP) (ze_aload rfl)
  replace b := zz_gVi b (fun K h => zlw_232 h hsp0 hG hP) hR rfl rfl h2 (zz_lb rfl)
  replace b := zz_fo b (zlw_235 (K := zz_k0) zz_k0_KS hsp0 hG hP) (ze_istore (lv' := [(5, _), (4, _), (3, _), (2, _), (1, _), (0, _)]) rfl)
  replace b := zz_fo b (zlw_237 (K := zz_k0) zz_k0_KS hsp0 hG hP) ze_goto
  exact zz_fl (lv' := [(4, .int (Int32.ofNat (4 * m))), (3, .ref 328), (2, .ref 171), (1, .ref 0), (0, .ref 1999999)]) b (zz_mc (List.mem_cons_of_mem _ (List.mem_cons_of_mem _ List.mem_cons_self)) (zz_mc (List.mem_cons_of_mem _ (List.mem_cons_of_mem _ (List.mem_cons_of_mem _ List.mem_cons_self))) (zz_mc (List.mem_cons_of_mem _ (List.mem_cons_of_mem _ (List.mem_cons_of_mem _ (List.mem_cons_of_mem _ List.mem_cons_self)))) (zz_mc (List.mem_cons_of_mem _ (List.mem_cons_of_mem _ (List.mem_cons_of_mem _ (List.mem_cons_of_mem _ (List.mem_cons_of_mem _ List.mem_cons_self))))) (zz_mc (List.mem_cons_of_mem _ (List.mem_cons_of_mem _ (List.mem_cons_of_mem _ (List.mem_cons_of_mem _ (List.mem_cons_of_mem _ (List.mem_cons_of_mem _ List.mem_cons_self)))))) zz_mn)))))
theorem zLc_4 {l : Launch} {D : va_G} {cy : Nat → ClassId} {z0 : Nat} {sp : Nat → Nat} {G : State → Prop} (H : zHy l D cy z0 sp G) {mn : String} {L n m : Nat} {xs : Nat → Int32} (hX : ∀ U, G U → va_T .int (sp 999999) L (fun j => .int (xs j)) (fun q : Nat => z0 ≤ q) U U.heap) (hL : L ≤ 2048) (hnm : n ≤ m) (hn4 : 4 * m + 4 ≤ L) {w : zz_W} (h : zIv zQI n 0 w) : ∃ w', zz_B l zTs D zcl zFK cy z0 sp (zTys cy) G "ToolMillLaw" mn 7 code 470 (39, zLv (Int32.ofNat (4 * m)), [.int (Int32.ofNat 4)], w) (899, zLv (Int32.ofNat (4 * m)), [], w') ∧ zIv zQI (n + 1) 0 w' := by
  have hn : n ≤ 511 := by omega
  have hL2 : L ≤ 2147483648 := by omega
  have h0 := zI_ic0 (zIv_I h)
  obtain ⟨w1, hC, h1⟩ := zCm_5 H hn h
  have h2 := zI_ic171 (zIv_I h1)
  obtain ⟨w2, hR, hI⟩ := zRm_29 H hn h1
  obtain ⟨hG, hP, -, hsp0, -, -, -, -⟩ := H
  refine ⟨w2, ?_, hI⟩
  have b := zz_B_rf (l := l) (Ts := zTs) (D := D) (cl := zcl) (fk := zFK) (cy := cy) (z0 := z0) (sp := sp) (tys := zTys cy) (G := G) (own := "ToolMillLaw") (mn := mn) (nL := 7) (cc := code) (d := 470) ((39, [(4, .int (Int32.ofNat (4 * m))), (3, .ref 328), (2, .ref 171), (1, .ref 0), (0, .ref 1999999)], [.int (Int32.ofNat 4)], w) : zz_F)
  replace b := zz_fo b (zlw_39 (K := zz_k0) zz_k0_KS hsp0 hG hP) (ze_tsw_k (t := 240) (by decide) (by decide))
  replace b := zz_fo b (zlw_240 (K := zz_k0) zz_k0_KS hsp0 hG hP) (ze_aload rfl)
  replace b := zz_gVv b (fun K h => zlw_241 h hsp0 hG hP) hC rfl rfl h0 (zz_lb rfl)
  replace b := zz_fo b (zlw_244 (K := zz_k0) zz_k0_KS hsp0 hG hP) (ze_aload rfl)
  replace b := zz_gVv b (fun K h => zlw_245 h hsp0 hG hP) hR rfl rfl h2 (zz_lb rfl)
  replace b := zz_fo b (zlw_248 (K := zz_k0) zz_k0_KS hsp0 hG hP) ze_goto
  exact zz_fl (lv' := [(4, .int (Int32.ofNat (4 * m))), (3, .ref 328), (2, .ref 171), (1, .ref 0), (0, .ref 1999999)]) b (zz_mc List.mem_cons_self (zz_mc (List.mem_cons_of_mem _ List.mem_cons_self) (zz_mc (List.mem_cons_of_mem _ (List.mem_cons_of_mem _ List.mem_cons_self)) (zz_mc (List.mem_cons_of_mem _ (List.mem_cons_of_mem _ (List.mem_cons_of_mem _ List.mem_cons_self))) (zz_mc (List.mem_cons_of_mem _ (List.mem_cons_of_mem _ (List.mem_cons_of_mem _ (List.mem_cons_of_mem _ List.mem_cons_self)))) zz_mn)))))
theorem zLc_5 {l : Launch} {D : va_G} {cy : Nat → ClassId} {z0 : Nat} {sp : Nat → Nat} {G : State → Prop} (H : zHy l D cy z0 sp G) {mn : String} {L n m : Nat} {xs : Nat → Int32} (hX : ∀ U, G U → va_T .int (sp 999999) L (fun j => .int (xs j)) (fun q : Nat => z0 ≤ q) U U.heap) (hL : L ≤ 2048) (hnm : n ≤ m) (hn4 : 4 * m + 4 ≤ L) {w : zz_W} (h : zIv zQI n 0 w) : ∃ w', zz_B l zTs D zcl zFK cy z0 sp (zTys cy) G "ToolMillLaw" mn 7 code 470 (39, zLv (Int32.ofNat (4 * m)), [.int (Int32.ofNat 5)], w) (899, zLv (Int32.ofNat (4 * m)), [], w') ∧ zIv zQI (n + 1) 0 w' := by
  have hn : n ≤ 511 := by omega
  have hL2 : L ≤ 2147483648 := by omega
  have h0 := zI_ic0 (zIv_I h)
  obtain ⟨k, w1, hH, h1⟩ := zHk_6 H hn h (xs (4 * m + 1))
  have h2 := zI_ic171 (zIv_I h1)
  obtain ⟨v, w2, hR, hI⟩ := zRm_30 H hn h1 (xs (4 * m + 1))
  obtain ⟨hG, hP, -, hsp0, -, -, -, -⟩ := H
  refine ⟨w2, ?_, hI⟩
  have b := zz_B_rf (l := l) (Ts := zTs) (D := D) (cl := zcl) (fk := zFK) (cy := cy) (z0 := z0) (sp := sp) (tys := zTys cy) (G := G) (own := "ToolMillLaw") (mn := mn) (nL := 7) (cc := code) (d := 470) ((39, [(4, .int (Int32.ofNat (4 * m))), (3, .ref 328), (2, .ref 171), (1, .ref 0), (0, .ref 1999999)], [.int (Int32.ofNat 5)], w) : zz_F)
  replace b := zz_fo b (zlw_39 (K := zz_k0) zz_k0_KS hsp0 hG hP) (ze_tsw_k (t := 251) (by decide) (by decide))
  replace b := zz_fo b (zlw_251 (K := zz_k0) zz_k0_KS hsp0 hG hP) (ze_aload rfl)
  replace b := zz_fo b (zlw_252 (K := zz_k0) zz_k0_KS hsp0 hG hP) (ze_aload rfl)
  replace b := zz_fo b (zlw_253 (K := zz_k0) zz_k0_KS hsp0 hG hP) (ze_iload rfl)
  replace b := zz_fo b (zlw_255 (K := zz_k0) zz_k0_KS hsp0 hG hP) ze_const
  replace b := zz_fo b (zlw_256 (K := zz_k0) zz_k0_KS hsp0 hG hP) (ze_iadd (zl_ij (4 * m) 1))
  replace b := zz_fo b (zlw_257 (K := zz_k0) hX hL2) (ze_kl (zl_kl xs (j := 4 * m + 1) (by omega) hL) (zz_nI_of _))
  replace b := zz_fo b (zlw_258 (K := zz_k0) zz_k0_KS hsp0 hG hP) (ze_aload rfl)
  replace b := zz_gH b (zlh_259 (rv := [.int k]) (r := []) hG hH rfl rfl (zz_lb rfl))
  replace b := zz_fo b (zlw_262 (K := zz_k0) zz_k0_KS hsp0 hG hP) (ze_istore (lv' := [(4, _), (3, _), (2, _), (1, _), (0, _)]) rfl)
  replace b := zz_fo b (zlw_264 (K := zz_k0) zz_k0_KS hsp0 hG hP) (ze_aload rfl)
  replace b := zz_fo b (zlw_265 (K := zz_k0) zz_k0_KS hsp0 hG hP) (ze_aload rfl)
  replace b := zz_fo b (zlw_266 (K := zz_k0) zz_k0_KS hsp0 hG hP) (ze_iload rfl)
  replace b := zz_fo b (zlw_268 (K := zz_k0) zz_k0_KS hsp0 hG hP) ze_const
  replace b := zz_fo b (zlw_269 (K := zz_k0) zz_k0_KS hsp0 hG hP) (ze_iadd (zl_ij (4 * m) 1))
  replace b := zz_fo b (zlw_270 (K := zz_k0) hX hL2) (ze_kl (zl_kl xs (j := 4 * m + 1) (by omega) hL) (zz_nI_of _))
  replace b := zz_gVi b (fun K h => zlw_271 h hsp0 hG hP) hR rfl rfl h2 (zz_lb rfl)
  replace b := zz_fo b (zlw_274 (K := zz_k0) zz_k0_KS hsp0 hG hP) (ze_istore (lv' := [(5, _), (4, _), (3, _), (2, _), (1, _), (0, _)]) rfl)
  replace b := zz_fo b (zlw_276 (K := zz_k0) zz_k0_KS hsp0 hG hP) ze_goto
  exact zz_fl (lv' := [(4, .int (Int32.ofNat (4 * m))), (3, .ref 328), (2, .ref 171), (1, .ref 0), (0, .ref 1999999)]) b (zz_mc (List.mem_cons_of_mem _ (List.mem_cons_of_mem _ List.mem_cons_self)) (zz_mc (List.mem_cons_of_mem _ (List.mem_cons_of_mem _ (List.mem_cons_of_mem _ List.mem_cons_self))) (zz_mc (List.mem_cons_of_mem _ (List.mem_cons_of_mem _ (List.mem_cons_of_mem _ (List.mem_cons_of_mem _ List.mem_cons_self)))) (zz_mc (List.mem_cons_of_mem _ (List.mem_cons_of_mem _ (List.mem_cons_of_mem _ (List.mem_cons_of_mem _ (List.mem_cons_of_mem _ List.mem_cons_self))))) (zz_mc (List.mem_cons_of_mem _ (List.mem_cons_of_mem _ (List.mem_cons_of_mem _ (List.mem_cons_of_mem _ (List.mem_cons_of_mem _ (List.mem_cons_of_mem _ List.mem_cons_self)))))) zz_mn)))))
theorem zLc_6 {l : Launch} {D : va_G} {cy : Nat → ClassId} {z0 : Nat} {sp : Nat → Nat} {G : State → Prop} (H : zHy l D cy z0 sp G) {mn : String} {L n m : Nat} {xs : Nat → Int32} (hX : ∀ U, G U → va_T .int (sp 999999) L (fun j => .int (xs j)) (fun q : Nat => z0 ≤ q) U U.heap) (hL : L ≤ 2048) (hnm : n ≤ m) (hn4 : 4 * m + 4 ≤ L) {w : zz_W} (h : zIv zQI n 0 w) : ∃ w', zz_B l zTs D zcl zFK cy z0 sp (zTys cy) G "ToolMillLaw" mn 7 code 470 (39, zLv (Int32.ofNat (4 * m)), [.int (Int32.ofNat 6)], w) (899, zLv (Int32.ofNat (4 * m)), [], w') ∧ zIv zQI (n + 1) 0 w' := by
  have hn : n ≤ 511 := by omega
  have hL2 : L ≤ 2147483648 := by omega
  have h0 := zI_ic0 (zIv_I h)
  obtain ⟨k, w1, hH, h1⟩ := zHk_7 H hn h (xs (4 * m + 1)) (xs (4 * m + 2))
  have h2 := zI_ic171 (zIv_I h1)
  obtain ⟨v, w2, hR, hI⟩ := zRm_31 H hn h1 (xs (4 * m + 1)) (xs (4 * m + 2))
  obtain ⟨hG, hP, -, hsp0, -, -, -, -⟩ := H
  refine ⟨w2, ?_, hI⟩
  have b := zz_B_rf (l := l) (Ts := zTs) (D := D) (cl := zcl) (fk := zFK) (cy := cy) (z0 := z0) (sp := sp) (tys := zTys cy) (G := G) (own := "ToolMillLaw") (mn := mn) (nL := 7) (cc := code) (d := 470) ((39, [(4, .int (Int32.ofNat (4 * m))), (3, .ref 328), (2, .ref 171), (1, .ref 0), (0, .ref 1999999)], [.int (Int32.ofNat 6)], w) : zz_F)
  replace b := zz_fo b (zlw_39 (K := zz_k0) zz_k0_KS hsp0 hG hP) (ze_tsw_k (t := 279) (by decide) (by decide))
  replace b := zz_fo b (zlw_279 (K := zz_k0) zz_k0_KS hsp0 hG hP) (ze_aload rfl)
  replace b := zz_fo b (zlw_280 (K := zz_k0) zz_k0_KS hsp0 hG hP) (ze_aload rfl)
  replace b := zz_fo b (zlw_281 (K := zz_k0) zz_k0_KS hsp0 hG hP) (ze_iload rfl)
  replace b := zz_fo b (zlw_283 (K := zz_k0) zz_k0_KS hsp0 hG hP) ze_const
  replace b := zz_fo b (zlw_284 (K := zz_k0) zz_k0_KS hsp0 hG hP) (ze_iadd (zl_ij (4 * m) 1))
  replace b := zz_fo b (zlw_285 (K := zz_k0) hX hL2) (ze_kl (zl_kl xs (j := 4 * m + 1) (by omega) hL) (zz_nI_of _))
  replace b := zz_fo b (zlw_286 (K := zz_k0) zz_k0_KS hsp0 hG hP) (ze_aload rfl)
  replace b := zz_fo b (zlw_287 (K := zz_k0) zz_k0_KS hsp0 hG hP) (ze_iload rfl)
  replace b := zz_fo b (zlw_289 (K := zz_k0) zz_k0_KS hsp0 hG hP) ze_const
  replace b := zz_fo b (zlw_290 (K := zz_k0) zz_k0_KS hsp0 hG hP) (ze_iadd (zl_ij (4 * m) 2))
  replace b := zz_fo b (zlw_291 (K := zz_k0) hX hL2) (ze_kl (zl_kl xs (j := 4 * m + 2) (by omega) hL) (zz_nI_of _))
  replace b := zz_fo b (zlw_292 (K := zz_k0) zz_k0_KS hsp0 hG hP) (ze_aload rfl)
  replace b := zz_gH b (zlh_293 (rv := [.int k]) (r := []) hG hH rfl rfl (zz_lb rfl))
  replace b := zz_fo b (zlw_296 (K := zz_k0) zz_k0_KS hsp0 hG hP) (ze_istore (lv' := [(4, _), (3, _), (2, _), (1, _), (0, _)]) rfl)
  replace b := zz_fo b (zlw_298 (K := zz_k0) zz_k0_KS hsp0 hG hP) (ze_aload rfl)
  replace b := zz_fo b (zlw_299 (K := zz_k0) zz_k0_KS hsp0 hG hP) (ze_aload rfl)
  replace b := zz_fo b (zlw_300 (K := zz_k0) zz_k0_KS hsp0 hG hP) (ze_iload rfl)
  replace b := zz_fo b (zlw_302 (K := zz_k0) zz_k0_KS hsp0 hG hP) ze_const
  replace b := zz_fo b (zlw_303 (K := zz_k0) zz_k0_KS hsp0 hG hP) (ze_iadd (zl_ij (4 * m) 1))
  replace b := zz_fo b (zlw_304 (K := zz_k0) hX hL2) (ze_kl (zl_kl xs (j := 4 * m + 1) (by omega) hL) (zz_nI_of _))
  replace b := zz_fo b (zlw_305 (K := zz_k0) zz_k0_KS hsp0 hG hP) (ze_aload rfl)
  replace b := zz_fo b (zlw_306 (K := zz_k0) zz_k0_KS hsp0 hG hP) (ze_iload rfl)
  replace b := zz_fo b (zlw_308 (K := zz_k0) zz_k0_KS hsp0 hG hP) ze_const
  replace b := zz_fo b (zlw_309 (K := zz_k0) zz_k0_KS hsp0 hG hP) (ze_iadd (zl_ij (4 * m) 2))
  replace b := zz_fo b (zlw_310 (K := zz_k0) hX hL2) (ze_kl (zl_kl xs (j := 4 * m + 2) (by omega) hL) (zz_nI_of _))
  replace b := zz_gVi b (fun K h => zlw_311 h hsp0 hG hP) hR rfl rfl h2 (zz_lb rfl)
  replace b := zz_fo b (zlw_314 (K := zz_k0) zz_k0_KS hsp0 hG hP) (ze_istore (lv' := [(5, _), (4, _), (3, _), (2, _), (1, _), (0, _)]) rfl)
  replace b := zz_fo b (zlw_316 (K := zz_k0) zz_k0_KS hsp0 hG hP) ze_goto
  exact zz_fl (lv' := [(4, .int (Int32.ofNat (4 * m))), (3, .ref 328), (2, .ref 171), (1, .ref 0), (0, .ref 1999999)]) b (zz_mc (List.mem_cons_of_mem _ (List.mem_cons_of_mem _ List.mem_cons_self)) (zz_mc (List.mem_cons_of_mem _ (List.mem_cons_of_mem _ (List.mem_cons_of_mem _ List.mem_cons_self))) (zz_mc (List.mem_cons_of_mem _ (List.mem_cons_of_mem _ (List.mem_cons_of_mem _ (List.mem_cons_of_mem _ List.mem_cons_self)))) (zz_mc (List.mem_cons_of_mem _ (List.mem_cons_of_mem _ (List.mem_cons_of_mem _ (List.mem_cons_of_mem _ (List.mem_cons_of_mem _ List.mem_cons_self))))) (zz_mc (List.mem_cons_of_mem _ (List.mem_cons_of_mem _ (List.mem_cons_of_mem _ (List.mem_cons_of_mem _ (List.mem_cons_of_mem _ (List.mem_cons_of_mem _ List.mem_cons_self)))))) zz_mn)))))
theorem zLc_7 {l : Launch} {D : va_G} {cy : Nat → ClassId} {z0 : Nat} {sp : Nat → Nat} {G : State → Prop} (H : zHy l D cy z0 sp G) {mn : String} {L n m : Nat} {xs : Nat → Int32} (hX : ∀ U, G U → va_T .int (sp 999999) L (fun j => .int (xs j)) (fun q : Nat => z0 ≤ q) U U.heap) (hL : L ≤ 2048) (hnm : n ≤ m) (hn4 : 4 * m + 4 ≤ L) {w : zz_W} (h : zIv zQI n 0 w) : ∃ w', zz_B l zTs D zcl zFK cy z0 sp (zTys cy) G "ToolMillLaw" mn 7 code 470 (39, zLv (Int32.ofNat (4 * m)), [.int (Int32.ofNat 7)], w) (899, zLv (Int32.ofNat (4 * m)), [], w') ∧ zIv zQI (n + 1) 0 w' := by
  have hn : n ≤ 511 := by omega
  have hL2 : L ≤ 2147483648 := by omega
  have h0 := zI_ic0 (zIv_I h)
  obtain ⟨k, w1, hH, h1⟩ := zHk_8 H hn h (xs (4 * m + 1)) (xs (4 * m + 2))
  have h2 := zI_ic171 (zIv_I h1)
  obtain ⟨v, w2, hR, hI⟩ := zRm_32 H hn h1 (xs (4 * m + 1)) (xs (4 * m + 2))
  obtain ⟨hG, hP, -, hsp0, -, -, -, -⟩ := H
  refine ⟨w2, ?_, hI⟩
  have b := zz_B_rf (l := l) (Ts := zTs) (D := D) (cl := zcl) (fk := zFK) (cy := cy) (z0 := z0) (sp := sp) (tys := zTys cy) (G := G) (own := "ToolMillLaw") (mn := mn) (nL := 7) (cc := code) (d := 470) ((39, [(4, .int (Int32.ofNat (4 * m))), (3, .ref 328), (2, .ref 171), (1, .ref 0), (0, .ref 1999999)], [.int (Int32.ofNat 7)], w) : zz_F)
  replace b := zz_fo b (zlw_39 (K := zz_k0) zz_k0_KS hsp0 hG hP) (ze_tsw_k (t := 319) (by decide) (by decide))
  replace b := zz_fo b (zlw_319 (K := zz_k0) zz_k0_KS hsp0 hG hP) (ze_aload rfl)
  replace b := zz_fo b (zlw_320 (K := zz_k0) zz_k0_KS hsp0 hG hP) (ze_aload rfl)
  replace b := zz_fo b (zlw_321 (K := zz_k0) zz_k0_KS hsp0 hG hP) (ze_iload rfl)
  replace b := zz_fo b (zlw_323 (K := zz_k0) zz_k0_KS hsp0 hG hP) ze_const
  replace b := zz_fo b (zlw_324 (K := zz_k0) zz_k0_KS hsp0 hG hP) (ze_iadd (zl_ij (4 * m) 1))
  replace b := zz_fo b (zlw_325 (K := zz_k0) hX hL2) (ze_kl (zl_kl xs (j := 4 * m + 1) (by omega) hL) (zz_nI_of _))
  replace b := zz_fo b (zlw_326 (K := zz_k0) zz_k0_KS hsp0 hG hP) (ze_aload rfl)
  replace b := zz_fo b (zlw_327 (K := zz_k0) zz_k0_KS hsp0 hG hP) (ze_iload rfl)
  replace b := zz_fo b (zlw_329 (K := zz_k0) zz_k0_KS hsp0 hG hP) ze_const
  replace b := zz_fo b (zlw_330 (K := zz_k0) zz_k0_KS hsp0 hG hP) (ze_iadd (zl_ij (4 * m) 2))
  replace b := zz_fo b (zlw_331 (K := zz_k0) hX hL2) (ze_kl (zl_kl xs (j := 4 * m + 2) (by omega) hL) (zz_nI_of _))
  replace b := zz_fo b (zlw_332 (K := zz_k0) zz_k0_KS hsp0 hG hP) (ze_aload rfl)
  replace b := zz_gH b (zlh_333 (rv := [.int k]) (r := []) hG hH rfl rfl (zz_lb rfl))
  replace b := zz_fo b (zlw_336 (K := zz_k0) zz_k0_KS hsp0 hG hP) (ze_istore (lv' := [(4, _), (3, _), (2, _), (1, _), (0, _)]) rfl)
  replace b := zz_fo b (zlw_338 (K := zz_k0) zz_k0_KS hsp0 hG hP) (ze_aload rfl)
  replace b := zz_fo b (zlw_339 (K := zz_k0) zz_k0_KS hsp0 hG hP) (ze_aload rfl)
  replace b := zz_fo b (zlw_340 (K := zz_k0) zz_k0_KS hsp0 hG hP) (ze_iload rfl)
  replace b := zz_fo b (zlw_342 (K := zz_k0) zz_k0_KS hsp0 hG hP) ze_const
  replace b := zz_fo b (zlw_343 (K := zz_k0) zz_k0_KS hsp0 hG hP) (ze_iadd (zl_ij (4 * m) 1))
  replace b := zz_fo b (zlw_344 (K := zz_k0) hX hL2) (ze_kl (zl_kl xs (j := 4 * m + 1) (by omega) hL) (zz_nI_of _))
  replace b := zz_fo b (zlw_345 (K := zz_k0) zz_k0_KS hsp0 hG hP) (ze_aload rfl)
  replace b := zz_fo b (zlw_346 (K := zz_k0) zz_k0_KS hsp0 hG hP) (ze_iload rfl)
  replace b := zz_fo b (zlw_348 (K := zz_k0) zz_k0_KS hsp0 hG hP) ze_const
  replace b := zz_fo b (zlw_349 (K := zz_k0) zz_k0_KS hsp0 hG hP) (ze_iadd (zl_ij (4 * m) 2))
  replace b := zz_fo b (zlw_350 (K := zz_k0) hX hL2) (ze_kl (zl_kl xs (j := 4 * m + 2) (by omega) hL) (zz_nI_of _))
  replace b := zz_gVi b (fun K h => zlw_351 h hsp0 hG hP) hR rfl rfl h2 (zz_lb rfl)
  replace b := zz_fo b (zlw_354 (K := zz_k0) zz_k0_KS hsp0 hG hP) (ze_istore (lv' := [(5, _), (4, _), (3, _), (2, _), (1, _), (0, _)]) rfl)
  replace b := zz_fo b (zlw_356 (K := zz_k0) zz_k0_KS hsp0 hG hP) ze_goto
  exact zz_fl (lv' := [(4, .int (Int32.ofNat (4 * m))), (3, .ref 328), (2, .ref 171), (1, .ref 0), (0, .ref 1999999)]) b (zz_mc (List.mem_cons_of_mem _ (List.mem_cons_of_mem _ List.mem_cons_self)) (zz_mc (List.mem_cons_of_mem _ (List.mem_cons_of_mem _ (List.mem_cons_of_mem _ List.mem_cons_self))) (zz_mc (List.mem_cons_of_mem _ (List.mem_cons_of_mem _ (List.mem_cons_of_mem _ (List.mem_cons_of_mem _ List.mem_cons_self)))) (zz_mc (List.mem_cons_of_mem _ (List.mem_cons_of_mem _ (List.mem_cons_of_mem _ (List.mem_cons_of_mem _ (List.mem_cons_of_mem _ List.mem_cons_self))))) (zz_mc (List.mem_cons_of_mem _ (List.mem_cons_of_mem _ (List.mem_cons_of_mem _ (List.mem_cons_of_mem _ (List.mem_cons_of_mem _ (List.mem_cons_of_mem _ List.mem_cons_self)))))) zz_mn)))))
theorem zLc_8 {l : Launch} {D : va_G} {cy : Nat → ClassId} {z0 : Nat} {sp : Nat → Nat} {G : State → Prop} (H : zHy l D cy z0 sp G) {mn : String} {L n m : Nat} {xs : Nat → Int32} (hX : ∀ U, G U → va_T .int (sp 999999) L (fun j => .int (xs j)) (fun q : Nat => z0 ≤ q) U U.heap) (hL : L ≤ 2048) (hnm : n ≤ m) (hn4 : 4 * m + 4 ≤ L) {w : zz_W} (h : zIv zQI n 0 w) : ∃ w', zz_B l zTs D zcl zFK cy z0 sp (zTys cy) G "ToolMillLaw" mn 7 code 470 (39, zLv (Int32.ofNat (4 * m)), [.int (Int32.ofNat 8)], w) (899, zLv (Int32.ofNat (4 * m)), [], w') ∧ zIv zQI (n + 1) 0 w' := by
  have hn : n ≤ 511 := by omega
  have hL2 : L ≤ 2147483648 := by omega
  have h0 := zI_ic0 (zIv_I h)
  obtain ⟨k, w1, hH, h1⟩ := zHk_9 H hn h (xs (4 * m + 1)) (xs (4 * m + 2)) (xs (4 * m + 3))
  have h2 := zI_ic171 (zIv_I h1)
  obtain ⟨v, w2, hR, hI⟩ := zRm_33 H hn h1 (xs (4 * m + 1)) (xs (4 * m + 2)) (xs (4 * m + 3))
  obtain ⟨hG, hP, -, hsp0, -, -, -, -⟩ := H
  refine ⟨w2, ?_, hI⟩
  have b := zz_B_rf (l := l) (Ts := zTs) (D := D) (cl := zcl) (fk := zFK) (cy := cy) (z0 := z0) (sp := sp) (tys := zTys cy) (G := G) (own := "ToolMillLaw") (mn := mn) (nL := 7) (cc := code) (d := 470) ((39, [(4, .int (Int32.ofNat (4 * m))), (3, .ref 328), (2, .ref 171), (1, .ref 0), (0, .ref 1999999)], [.int (Int32.ofNat 8)], w) : zz_F)
  replace b := zz_fo b (zlw_39 (K := zz_k0) zz_k0_KS hsp0 hG hP) (ze_tsw_k (t := 359) (by decide) (by decide))
  replace b := zz_fo b (zlw_359 (K := zz_k0) zz_k0_KS hsp0 hG hP) (ze_aload rfl)
  replace b := zz_fo b (zlw_360 (K := zz_k0) zz_k0_KS hsp0 hG hP) (ze_aload rfl)
  replace b := zz_fo b (zlw_361 (K := zz_k0) zz_k0_KS hsp0 hG hP) (ze_iload rfl)
  replace b := zz_fo b (zlw_363 (K := zz_k0) zz_k0_KS hsp0 hG hP) ze_const
  replace b := zz_fo b (zlw_364 (K := zz_k0) zz_k0_KS hsp0 hG hP) (ze_iadd (zl_ij (4 * m) 1))
  replace b := zz_fo b (zlw_365 (K := zz_k0) hX hL2) (ze_kl (zl_kl xs (j := 4 * m + 1) (by omega) hL) (zz_nI_of _))
  replace b := zz_fo b (zlw_366 (K := zz_k0) zz_k0_KS hsp0 hG hP) (ze_aload rfl)
  replace b := zz_fo b (zlw_367 (K := zz_k0) zz_k0_KS hsp0 hG hP) (ze_iload rfl)
  replace b := zz_fo b (zlw_369 (K := zz_k0) zz_k0_KS hsp0 hG hP) ze_const
  replace b := zz_fo b (zlw_370 (K := zz_k0) zz_k0_KS hsp0 hG hP) (ze_iadd (zl_ij (4 * m) 2))
  replace b := zz_fo b (zlw_371 (K := zz_k0) hX hL2) (ze_kl (zl_kl xs (j := 4 * m + 2) (by omega) hL) (zz_nI_of _))
  replace b := zz_fo b (zlw_372 (K := zz_k0) zz_k0_KS hsp0 hG hP) (ze_aload rfl)
  replace b := zz_fo b (zlw_373 (K := zz_k0) zz_k0_KS hsp0 hG hP) (ze_iload rfl)
  replace b := zz_fo b (zlw_375 (K := zz_k0) zz_k0_KS hsp0 hG hP) ze_const
  replace b := zz_fo b (zlw_376 (K := zz_k0) zz_k0_KS hsp0 hG hP) (ze_iadd (zl_ij (4 * m) 3))
  replace b := zz_fo b (zlw_377 (K := zz_k0) hX hL2) (ze_kl (zl_kl xs (j := 4 * m + 3) (by omega) hL) (zz_nI_of _))
  replace b := zz_fo b (zlw_378 (K := zz_k0) zz_k0_KS hsp0 hG hP) (ze_aload rfl)
  replace b := zz_gH b (zlh_379 (rv := [.int k]) (r := []) hG hH rfl rfl (zz_lb rfl))
  replace b := zz_fo b (zlw_382 (K := zz_k0) zz_k0_KS hsp0 hG hP) (ze_istore (lv' := [(4, _), (3, _), (2, _), (1, _), (0, _)]) rfl)
  replace b := zz_fo b (zlw_384 (K := zz_k0) zz_k0_KS hsp0 hG hP) (ze_aload rfl)
  replace b := zz_fo b (zlw_385 (K := zz_k0) zz_k0_KS hsp0 hG hP) (ze_aload rfl)
  replace b := zz_fo b (zlw_386 (K := zz_k0) zz_k0_KS hsp0 hG hP) (ze_iload rfl)
  replace b := zz_fo b (zlw_388 (K := zz_k0) zz_k0_KS hsp0 hG hP) ze_const
  replace b := zz_fo b (zlw_389 (K := zz_k0) zz_k0_KS hsp0 hG hP) (ze_iadd (zl_ij (4 * m) 1))
  replace b := zz_fo b (zlw_390 (K := zz_k0) hX hL2) (ze_kl (zl_kl xs (j := 4 * m + 1) (by omega) hL) (zz_nI_of _))
  replace b := zz_fo b (zlw_391 (K := zz_k0) zz_k0_KS hsp0 hG hP) (ze_aload rfl)
  replace b := zz_fo b (zlw_392 (K := zz_k0) zz_k0_KS hsp0 hG hP) (ze_iload rfl)
  replace b := zz_fo b (zlw_394 (K := zz_k0) zz_k0_KS hsp0 hG hP) ze_const
  replace b := zz_fo b (zlw_395 (K := zz_k0) zz_k0_KS hsp0 hG hP) (ze_iadd (zl_ij (4 * m) 2))
  replace b := zz_fo b (zlw_396 (K := zz_k0) hX hL2) (ze_kl (zl_kl xs (j := 4 * m + 2) (by omega) hL) (zz_nI_of _))
  replace b := zz_fo b (zlw_397 (K := zz_k0) zz_k0_KS hsp0 hG hP) (ze_aload rfl)
  replace b := zz_fo b (zlw_398 (K := zz_k0) zz_k0_KS hsp0 hG hP) (ze_iload rfl)
  replace b := zz_fo b (zlw_400 (K := zz_k0) zz_k0_KS hsp0 hG hP) ze_const
  replace b := zz_fo b (zlw_401 (K := zz_k0) zz_k0_KS hsp0 hG hP) (ze_iadd (zl_ij (4 * m) 3))
  replace b := zz_fo b (zlw_402 (K := zz_k0) hX hL2) (ze_kl (zl_kl xs (j := 4 * m + 3) (by omega) hL) (zz_nI_of _))
  replace b := zz_gVi b (fun K h => zlw_403 h hsp0 hG hP) hR rfl rfl h2 (zz_lb rfl)
  replace b := zz_fo b (zlw_406 (K := zz_k0) zz_k0_KS hsp0 hG hP) (ze_istore (lv' := [(5, _), (4, _), (3, _), (2, _), (1, _), (0, _)]) rfl)
  replace b := zz_fo b (zlw_408 (K := zz_k0) zz_k0_KS hsp0 hG hP) ze_goto
  exact zz_fl (lv' := [(4, .int (Int32.ofNat (4 * m))), (3, .ref 328), (2, .ref 171), (1, .ref 0), (0, .ref 1999999)]) b (zz_mc (List.mem_cons_of_mem _ (List.mem_cons_of_mem _ List.mem_cons_self)) (zz_mc (List.mem_cons_of_mem _ (List.mem_cons_of_mem _ (List.mem_cons_of_mem _ List.mem_cons_self))) (zz_mc (List.mem_cons_of_mem _ (List.mem_cons_of_mem _ (List.mem_cons_of_mem _ (List.mem_cons_of_mem _ List.mem_cons_self)))) (zz_mc (List.mem_cons_of_mem _ (List.mem_cons_of_mem _ (List.mem_cons_of_mem _ (List.mem_cons_of_mem _ (List.mem_cons_of_mem _ List.mem_cons_self))))) (zz_mc (List.mem_cons_of_mem _ (List.mem_cons_of_mem _ (List.mem_cons_of_mem _ (List.mem_cons_of_mem _ (List.mem_cons_of_mem _ (List.mem_cons_of_mem _ List.mem_cons_self)))))) zz_mn)))))
theorem zLc_9 {l : Launch} {D : va_G} {cy : Nat → ClassId} {z0 : Nat} {sp : Nat → Nat} {G : State → Prop} (H : zHy l D cy z0 sp G) {mn : String} {L n m : Nat} {xs : Nat → Int32} (hX : ∀ U, G U → va_T .int (sp 999999) L (fun j => .int (xs j)) (fun q : Nat => z0 ≤ q) U U.heap) (hL : L ≤ 2048) (hnm : n ≤ m) (hn4 : 4 * m + 4 ≤ L) {w : zz_W} (h : zIv zQI n 0 w) : ∃ w', zz_B l zTs D zcl zFK cy z0 sp (zTys cy) G "ToolMillLaw" mn 7 code 470 (39, zLv (Int32.ofNat (4 * m)), [.int (Int32.ofNat 9)], w) (899, zLv (Int32.ofNat (4 * m)), [], w') ∧ zIv zQI (n + 1) 0 w' := by
  have hn : n ≤ 511 := by omega
  have hL2 : L ≤ 2147483648 := by omega
  have h0 := zI_ic0 (zIv_I h)
  obtain ⟨k, w1, hH, h1⟩ := zHk_10 H hn h (xs (4 * m + 1)) (xs (4 * m + 2)) (xs (4 * m + 3))
  have h2 := zI_ic171 (zIv_I h1)
  obtain ⟨v, w2, hR, hI⟩ := zRm_34 H hn h1 (xs (4 * m + 1)) (xs (4 * m + 2)) (xs (4 * m + 3))
  obtain ⟨hG, hP, -, hsp0, -, -, -, -⟩ := H
  refine ⟨w2, ?_, hI⟩
  have b := zz_B_rf (l := l) (Ts := zTs) (D := D) (cl := zcl) (fk := zFK) (cy := cy) (z0 := z0) (sp := sp) (tys := zTys cy) (G := G) (own := "ToolMillLaw") (mn := mn) (nL := 7) (cc := code) (d := 470) ((39, [(4, .int (Int32.ofNat (4 * m))), (3, .ref 328), (2, .ref 171), (1, .ref 0), (0, .ref 1999999)], [.int (Int32.ofNat 9)], w) : zz_F)
  replace b := zz_fo b (zlw_39 (K := zz_k0) zz_k0_KS hsp0 hG hP) (ze_tsw_k (t := 411) (by decide) (by decide))
  replace b := zz_fo b (zlw_411 (K := zz_k0) zz_k0_KS hsp0 hG hP) (ze_aload rfl)
  replace b := zz_fo b (zlw_412 (K := zz_k0) zz_k0_KS hsp0 hG hP) (ze_aload rfl)
  replace b := zz_fo b (zlw_413 (K := zz_k0) zz_k0_KS hsp0 hG hP) (ze_iload rfl)
  replace b := zz_fo b (zlw_415 (K := zz_k0) zz_k0_KS hsp0 hG hP) ze_const
  replace b := zz_fo b (zlw_416 (K := zz_k0) zz_k0_KS hsp0 hG hP) (ze_iadd (zl_ij (4 * m) 1))
  replace b := zz_fo b (zlw_417 (K := zz_k0) hX hL2) (ze_kl (zl_kl xs (j := 4 * m + 1) (by omega) hL) (zz_nI_of _))
  replace b := zz_fo b (zlw_418 (K := zz_k0) zz_k0_KS hsp0 hG hP) (ze_aload rfl)
  replace b := zz_fo b (zlw_419 (K := zz_k0) zz_k0_KS hsp0 hG hP) (ze_iload rfl)
  replace b := zz_fo b (zlw_421 (K := zz_k0) zz_k0_KS hsp0 hG hP) ze_const
  replace b := zz_fo b (zlw_422 (K := zz_k0) zz_k0_KS hsp0 hG hP) (ze_iadd (zl_ij (4 * m) 2))
  replace b := zz_fo b (zlw_423 (K := zz_k0) hX hL2) (ze_kl (zl_kl xs (j := 4 * m + 2) (by omega) hL) (zz_nI_of _))
  replace b := zz_fo b (zlw_424 (K := zz_k0) zz_k0_KS hsp0 hG hP) (ze_aload rfl)
  replace b := zz_fo b (zlw_425 (K := zz_k0) zz_k0_KS hsp0 hG hP) (ze_iload rfl)
  replace b := zz_fo b (zlw_427 (K := zz_k0) zz_k0_KS hsp0 hG hP) ze_const
  replace b := zz_fo b (zlw_428 (K := zz_k0) zz_k0_KS hsp0 hG hP) (ze_iadd (zl_ij (4 * m) 3))
  replace b := zz_fo b (zlw_429 (K := zz_k0) hX hL2) (ze_kl (zl_kl xs (j := 4 * m + 3) (by omega) hL) (zz_nI_of _))
  replace b := zz_fo b (zlw_430 (K := zz_k0) zz_k0_KS hsp0 hG hP) (ze_aload rfl)
  replace b := zz_gH b (zlh_431 (rv := [.int k]) (r := []) hG hH rfl rfl (zz_lb rfl))
  replace b := zz_fo b (zlw_434 (K := zz_k0) zz_k0_KS hsp0 hG hP) (ze_istore (lv' := [(4, _), (3, _), (2, _), (1, _), (0, _)]) rfl)
  replace b := zz_fo b (zlw_436 (K := zz_k0) zz_k0_KS hsp0 hG hP) (ze_aload rfl)
  replace b := zz_fo b (zlw_437 (K := zz_k0) zz_k0_KS hsp0 hG hP) (ze_aload rfl)
  replace b := zz_fo b (zlw_438 (K := zz_k0) zz_k0_KS hsp0 hG hP) (ze_iload rfl)
  replace b := zz_fo b (zlw_440 (K := zz_k0) zz_k0_KS hsp0 hG hP) ze_const
  replace b := zz_fo b (zlw_441 (K := zz_k0) zz_k0_KS hsp0 hG hP) (ze_iadd (zl_ij (4 * m) 1))
  replace b := zz_fo b (zlw_442 (K := zz_k0) hX hL2) (ze_kl (zl_kl xs (j := 4 * m + 1) (by omega) hL) (zz_nI_of _))
  replace b := zz_fo b (zlw_443 (K := zz_k0) zz_k0_KS hsp0 hG hP) (ze_aload rfl)
  replace b := zz_fo b (zlw_444 (K := zz_k0) zz_k0_KS hsp0 hG hP) (ze_iload rfl)
  replace b := zz_fo b (zlw_446 (K := zz_k0) zz_k0_KS hsp0 hG hP) ze_const
  replace b := zz_fo b (zlw_447 (K := zz_k0) zz_k0_KS hsp0 hG hP) (ze_iadd (zl_ij (4 * m) 2))
  replace b := zz_fo b (zlw_448 (K := zz_k0) hX hL2) (ze_kl (zl_kl xs (j := 4 * m + 2) (by omega) hL) (zz_nI_of _))
  replace b := zz_fo b (zlw_449 (K := zz_k0) zz_k0_KS hsp0 hG hP) (ze_aload rfl)
  replace b := zz_fo b (zlw_450 (K := zz_k0) zz_k0_KS hsp0 hG hP) (ze_iload rfl)
  replace b := zz_fo b (zlw_452 (K := zz_k0) zz_k0_KS hsp0 hG hP) ze_const
  replace b := zz_fo b (zlw_453 (K := zz_k0) zz_k0_KS hsp0 hG hP) (ze_iadd (zl_ij (4 * m) 3))
  replace b := zz_fo b (zlw_454 (K := zz_k0) hX hL2) (ze_kl (zl_kl xs (j := 4 * m + 3) (by omega) hL) (zz_nI_of _))
  replace b := zz_gVi b (fun K h => zlw_455 h hsp0 hG hP) hR rfl rfl h2 (zz_lb rfl)
  replace b := zz_fo b (zlw_458 (K := zz_k0) zz_k0_KS hsp0 hG hP) (ze_istore (lv' := [(5, _), (4, _), (3, _), (2, _), (1, _), (0, _)]) rfl)
  replace b := zz_fo b (zlw_460 (K := zz_k0) zz_k0_KS hsp0 hG hP) ze_goto
  exact zz_fl (lv' := [(4, .int (Int32.ofNat (4 * m))), (3, .ref 328), (2, .ref 171), (1, .ref 0), (0, .ref 1999999)]) b (zz_mc (List.mem_cons_of_mem _ (List.mem_cons_of_mem _ List.mem_cons_self)) (zz_mc (List.mem_cons_of_mem _ (List.mem_cons_of_mem _ (List.mem_cons_of_mem _ List.mem_cons_self))) (zz_mc (List.mem_cons_of_mem _ (List.mem_cons_of_mem _ (List.mem_cons_of_mem _ (List.mem_cons_of_mem _ List.mem_cons_self)))) (zz_mc (List.mem_cons_of_mem _ (List.mem_cons_of_mem _ (List.mem_cons_of_mem _ (List.mem_cons_of_mem _ (List.mem_cons_of_mem _ List.mem_cons_self))))) (zz_mc (List.mem_cons_of_mem _ (List.mem_cons_of_mem _ (List.mem_cons_of_mem _ (List.mem_cons_of_mem _ (List.mem_cons_of_mem _ (List.mem_cons_of_mem _ List.mem_cons_self)))))) zz_mn)))))
theorem zLc_10 {l : Launch} {D : va_G} {cy : Nat → ClassId} {z0 : Nat} {sp : Nat → Nat} {G : State → Prop} (H : zHy l D cy z0 sp G) {mn : String} {L n m : Nat} {xs : Nat → Int32} (hX : ∀ U, G U → va_T .int (sp 999999) L (fun j => .int (xs j)) (fun q : Nat => z0 ≤ q) U U.heap) (hL : L ≤ 2048) (hnm : n ≤ m) (hn4 : 4 * m + 4 ≤ L) {w : zz_W} (h : zIv zQI n 0 w) : ∃ w', zz_B l zTs D zcl zFK cy z0 sp (zTys cy) G "ToolMillLaw" mn 7 code 470 (39, zLv (Int32.ofNat (4 * m)), [.int (Int32.ofNat 10)], w) (899, zLv (Int32.ofNat (4 * m)), [], w') ∧ zIv zQI (n + 1) 0 w' := by
  have hn : n ≤ 511 := by omega
  have hL2 : L ≤ 2147483648 := by omega
  have h0 := zI_ic0 (zIv_I h)
  obtain ⟨k, w1, hH, h1⟩ := zHk_11 H hn h (xs (4 * m + 1)) (xs (4 * m + 2)) (xs (4 * m + 3))
  have h2 := zI_ic171 (zIv_I h1)
  obtain ⟨v, w2, hR, hI⟩ := zRm_35 H hn h1 (xs (4 * m + 1)) (xs (4 * m + 2)) (xs (4 * m + 3))
  obtain ⟨hG, hP, -, hsp0, -, -, -, -⟩ := H
  refine ⟨w2, ?_, hI⟩
  have b := zz_B_rf (l := l) (Ts := zTs) (D := D) (cl := zcl) (fk := zFK) (cy := cy) (z0 := z0) (sp := sp) (tys := zTys cy) (G := G) (own := "ToolMillLaw") (mn := mn) (nL := 7) (cc := code) (d := 470) ((39, [(4, .int (Int32.ofNat (4 * m))), (3, .ref 328), (2, .ref 171), (1, .ref 0), (0, .ref 1999999)], [.int (Int32.ofNat 10)], w) : zz_F)
  replace b := zz_fo b (zlw_39 (K := zz_k0) zz_k0_KS hsp0 hG hP) (ze_tsw_k (t := 463) (by decide) (by decide))
  replace b := zz_fo b (zlw_463 (K := zz_k0) zz_k0_KS hsp0 hG hP) (ze_aload rfl)
  replace b := zz_fo b (zlw_464 (K := zz_k0) zz_k0_KS hsp0 hG hP) (ze_aload rfl)
  replace b := zz_fo b (zlw_465 (K := zz_k0) zz_k0_KS hsp0 hG hP) (ze_iload rfl)
  replace b := zz_fo b (zlw_467 (K := zz_k0) zz_k0_KS hsp0 hG hP) ze_const
  replace b := zz_fo b (zlw_468 (K := zz_k0) zz_k0_KS hsp0 hG hP) (ze_iadd (zl_ij (4 * m) 1))
  replace b := zz_fo b (zlw_469 (K := zz_k0) hX hL2) (ze_kl (zl_kl xs (j := 4 * m + 1) (by omega) hL) (zz_nI_of _))
  replace b := zz_fo b (zlw_470 (K := zz_k0) zz_k0_KS hsp0 hG hP) (ze_aload rfl)
  replace b := zz_fo b (zlw_471 (K := zz_k0) zz_k0_KS hsp0 hG hP) (ze_iload rfl)
  replace b := zz_fo b (zlw_473 (K := zz_k0) zz_k0_KS hsp0 hG hP) ze_const
  replace b := zz_fo b (zlw_474 (K := zz_k0) zz_k0_KS hsp0 hG hP) (ze_iadd (zl_ij (4 * m) 2))
  replace b := zz_fo b (zlw_475 (K := zz_k0) hX hL2) (ze_kl (zl_kl xs (j := 4 * m + 2) (by omega) hL) (zz_nI_of _))
  replace b := zz_fo b (zlw_476 (K := zz_k0) zz_k0_KS hsp0 hG hP) (ze_aload rfl)
  replace b := zz_fo b (zlw_477 (K := zz_k0) zz_k0_KS hsp0 hG hP) (ze_iload rfl)
  replace b := zz_fo b (zlw_479 (K := zz_k0) zz_k0_KS hsp0 hG hP) ze_const
  replace b := zz_fo b (zlw_480 (K := zz_k0) zz_k0_KS hsp0 hG hP) (ze_iadd (zl_ij (4 * m) 3))
  replace b := zz_fo b (zlw_481 (K := zz_k0) hX hL2) (ze_kl (zl_kl xs (j := 4 * m + 3) (by omega) hL) (zz_nI_of _))
  replace b := zz_fo b (zlw_482 (K := zz_k0) zz_k0_KS hsp0 hG hP) (ze_aload rfl)
  replace b := zz_gH b (zlh_483 (rv := [.int k]) (r := []) hG hH rfl rfl (zz_lb rfl))
  replace b := zz_fo b (zlw_486 (K := zz_k0) zz_k0_KS hsp0 hG hP) (ze_istore (lv' := [(4, _), (3, _), (2, _), (1, _), (0, _)]) rfl)
  replace b := zz_fo b (zlw_488 (K := zz_k0) zz_k0_KS hsp0 hG hP) (ze_aload rfl)
  replace b := zz_fo b (zlw_489 (K := zz_k0) zz_k0_KS hsp0 hG hP) (ze_aload rfl)
  replace b := zz_fo b (zlw_490 (K := zz_k0) zz_k0_KS hsp0 hG hP) (ze_iload rfl)
  replace b := zz_fo b (zlw_492 (K := zz_k0) zz_k0_KS hsp0 hG hP) ze_const
  replace b := zz_fo b (zlw_493 (K := zz_k0) zz_k0_KS hsp0 hG hP) (ze_iadd (zl_ij (4 * m) 1))
  replace b := zz_fo b (zlw_494 (K := zz_k0) hX hL2) (ze_kl (zl_kl xs (j := 4 * m + 1) (by omega) hL) (zz_nI_of _))
  replace b := zz_fo b (zlw_495 (K := zz_k0) zz_k0_KS hsp0 hG hP) (ze_aload rfl)
  replace b := zz_fo b (zlw_496 (K := zz_k0) zz_k0_KS hsp0 hG hP) (ze_iload rfl)
  replace b := zz_fo b (zlw_498 (K := zz_k0) zz_k0_KS hsp0 hG hP) ze_const
  replace b := zz_fo b (zlw_499 (K := zz_k0) zz_k0_KS hsp0 hG hP) (ze_iadd (zl_ij (4 * m) 2))
  replace b := zz_fo b (zlw_500 (K := zz_k0) hX hL2) (ze_kl (zl_kl xs (j := 4 * m + 2) (by omega) hL) (zz_nI_of _))
  replace b := zz_fo b (zlw_501 (K := zz_k0) zz_k0_KS hsp0 hG hP) (ze_aload rfl)
  replace b := zz_fo b (zlw_502 (K := zz_k0) zz_k0_KS hsp0 hG hP) (ze_iload rfl)
  replace b := zz_fo b (zlw_504 (K := zz_k0) zz_k0_KS hsp0 hG hP) ze_const
  replace b := zz_fo b (zlw_505 (K := zz_k0) zz_k0_KS hsp0 hG hP) (ze_iadd (zl_ij (4 * m) 3))
  replace b := zz_fo b (zlw_506 (K := zz_k0) hX hL2) (ze_kl (zl_kl xs (j := 4 * m + 3) (by omega) hL) (zz_nI_of _))
  replace b := zz_gVi b (fun K h => zlw_507 h hsp0 hG hP) hR rfl rfl h2 (zz_lb rfl)
  replace b := zz_fo b (zlw_510 (K := zz_k0) zz_k0_KS hsp0 hG hP) (ze_istore (lv' := [(5, _), (4, _), (3, _), (2, _), (1, _), (0, _)]) rfl)
  replace b := zz_fo b (zlw_512 (K := zz_k0) zz_k0_KS hsp0 hG hP) ze_goto
  exact zz_fl (lv' := [(4, .int (Int32.ofNat (4 * m))), (3, .ref 328), (2, .ref 171), (1, .ref 0), (0, .ref 1999999)]) b (zz_mc (List.mem_cons_of_mem _ (List.mem_cons_of_mem _ List.mem_cons_self)) (zz_mc (List.mem_cons_of_mem _ (List.mem_cons_of_mem _ (List.mem_cons_of_mem _ List.mem_cons_self))) (zz_mc (List.mem_cons_of_mem _ (List.mem_cons_of_mem _ (List.mem_cons_of_mem _ (List.mem_cons_of_mem _ List.mem_cons_self)))) (zz_mc (List.mem_cons_of_mem _ (List.mem_cons_of_mem _ (List.mem_cons_of_mem _ (List.mem_cons_of_mem _ (List.mem_cons_of_mem _ List.mem_cons_self))))) (zz_mc (List.mem_cons_of_mem _ (List.mem_cons_of_mem _ (List.mem_cons_of_mem _ (List.mem_cons_of_mem _ (List.mem_cons_of_mem _ (List.mem_cons_of_mem _ List.mem_cons_self)))))) zz_mn)))))
theorem zLc_11 {l : Launch} {D : va_G} {cy : Nat → ClassId} {z0 : Nat} {sp : Nat → Nat} {G : State → Prop} (H : zHy l D cy z0 sp G) {mn : String} {L n m : Nat} {xs : Nat → Int32} (hX : ∀ U, G U → va_T .int (sp 999999) L (fun j => .int (xs j)) (fun q : Nat => z0 ≤ q) U U.heap) (hL : L ≤ 2048) (hnm : n ≤ m) (hn4 : 4 * m + 4 ≤ L) {w : zz_W} (h : zIv zQI n 0 w) : ∃ w', zz_B l zTs D zcl zFK cy z0 sp (zTys cy) G "ToolMillLaw" mn 7 code 470 (39, zLv (Int32.ofNat (4 * m)), [.int (Int32.ofNat 11)], w) (899, zLv (Int32.ofNat (4 * m)), [], w') ∧ zIv zQI (n + 1) 0 w' := by
  have hn : n ≤ 511 := by omega
  have hL2 : L ≤ 2147483648 := by omega
  have h0 := zI_ic0 (zIv_I h)
  obtain ⟨k, w1, hH, h1⟩ := zHk_12 H hn h (xs (4 * m + 1)) (xs (4 * m + 2)) (xs (4 * m + 3))
  have h2 := zI_ic171 (zIv_I h1)
  obtain ⟨v, w2, hR, hI⟩ := zRm_36 H hn h1 (xs (4 * m + 1)) (xs (4 * m + 2)) (xs (4 * m + 3))
  obtain ⟨hG, hP, -, hsp0, -, -, -, -⟩ := H
  refine ⟨w2, ?_, hI⟩
  have b := zz_B_rf (l := l) (Ts := zTs) (D := D) (cl := zcl) (fk := zFK) (cy := cy) (z0 := z0) (sp := sp) (tys := zTys cy) (G := G) (own := "ToolMillLaw") (mn := mn) (nL := 7) (cc := code) (d := 470) ((39, [(4, .int (Int32.ofNat (4 * m))), (3, .ref 328), (2, .ref 171), (1, .ref 0), (0, .ref 1999999)], [.int (Int32.ofNat 11)], w) : zz_F)
  replace b := zz_fo b (zlw_39 (K := zz_k0) zz_k0_KS hsp0 hG hP) (ze_tsw_k (t := 515) (by decide) (by decide))
  replace b := zz_fo b (zlw_515 (K := zz_k0) zz_k0_KS hsp0 hG hP) (ze_aload rfl)
  replace b := zz_fo b (zlw_516 (K := zz_k0) zz_k0_KS hsp0 hG hP) (ze_aload rfl)
  replace b := zz_fo b (zlw_517 (K := zz_k0) zz_k0_KS hsp0 hG hP) (ze_iload rfl)
  replace b := zz_fo b (zlw_519 (K := zz_k0) zz_k0_KS hsp0 hG hP) ze_const
  replace b := zz_fo b (zlw_520 (K := zz_k0) zz_k0_KS hsp0 hG hP) (ze_iadd (zl_ij (4 * m) 1))
  replace b := zz_fo b (zlw_521 (K := zz_k0) hX hL2) (ze_kl (zl_kl xs (j := 4 * m + 1) (by omega) hL) (zz_nI_of _))
  replace b := zz_fo b (zlw_522 (K := zz_k0) zz_k0_KS hsp0 hG hP) (ze_aload rfl)
  replace b := zz_fo b (zlw_523 (K := zz_k0) zz_k0_KS hsp0 hG hP) (ze_iload rfl)
  replace b := zz_fo b (zlw_525 (K := zz_k0) zz_k0_KS hsp0 hG hP) ze_const
  replace b := zz_fo b (zlw_526 (K := zz_k0) zz_k0_KS hsp0 hG hP) (ze_iadd (zl_ij (4 * m) 2))
  replace b := zz_fo b (zlw_527 (K := zz_k0) hX hL2) (ze_kl (zl_kl xs (j := 4 * m + 2) (by omega) hL) (zz_nI_of _))
  replace b := zz_fo b (zlw_528 (K := zz_k0) zz_k0_KS hsp0 hG hP) (ze_aload rfl)
  replace b := zz_fo b (zlw_529 (K := zz_k0) zz_k0_KS hsp0 hG hP) (ze_iload rfl)
  replace b := zz_fo b (zlw_531 (K := zz_k0) zz_k0_KS hsp0 hG hP) ze_const
  replace b := zz_fo b (zlw_532 (K := zz_k0) zz_k0_KS hsp0 hG hP) (ze_iadd (zl_ij (4 * m) 3))
  replace b := zz_fo b (zlw_533 (K := zz_k0) hX hL2) (ze_kl (zl_kl xs (j := 4 * m + 3) (by omega) hL) (zz_nI_of _))
  replace b := zz_fo b (zlw_534 (K := zz_k0) zz_k0_KS hsp0 hG hP) (ze_aload rfl)
  replace b := zz_gH b (zlh_535 (rv := [.int k]) (r := []) hG hH rfl rfl (zz_lb rfl))
  replace b := zz_fo b (zlw_538 (K := zz_k0) zz_k0_KS hsp0 hG hP) (ze_istore (lv' := [(4, _), (3, _), (2, _), (1, _), (0, _)]) rfl)
  replace b := zz_fo b (zlw_540 (K := zz_k0) zz_k0_KS hsp0 hG hP) (ze_aload rfl)
  replace b := zz_fo b (zlw_541 (K := zz_k0) zz_k0_KS hsp0 hG hP) (ze_aload rfl)
  replace b := zz_fo b (zlw_542 (K := zz_k0) zz_k0_KS hsp0 hG hP) (ze_iload rfl)
  replace b := zz_fo b (zlw_544 (K := zz_k0) zz_k0_KS hsp0 hG hP) ze_const
  replace b := zz_fo b (zlw_545 (K := zz_k0) zz_k0_KS hsp0 hG hP) (ze_iadd (zl_ij (4 * m) 1))
  replace b := zz_fo b (zlw_546 (K := zz_k0) hX hL2) (ze_kl (zl_kl xs (j := 4 * m + 1) (by omega) hL) (zz_nI_of _))
  replace b := zz_fo b (zlw_547 (K := zz_k0) zz_k0_KS hsp0 hG hP) (ze_aload rfl)
  replace b := zz_fo b (zlw_548 (K := zz_k0) zz_k0_KS hsp0 hG hP) (ze_iload rfl)
  replace b := zz_fo b (zlw_550 (K := zz_k0) zz_k0_KS hsp0 hG hP) ze_const
  replace b := zz_fo b (zlw_551 (K := zz_k0) zz_k0_KS hsp0 hG hP) (ze_iadd (zl_ij (4 * m) 2))
  replace b := zz_fo b (zlw_552 (K := zz_k0) hX hL2) (ze_kl (zl_kl xs (j := 4 * m + 2) (by omega) hL) (zz_nI_of _))
  replace b := zz_fo b (zlw_553 (K := zz_k0) zz_k0_KS hsp0 hG hP) (ze_aload rfl)
  replace b := zz_fo b (zlw_554 (K := zz_k0) zz_k0_KS hsp0 hG hP) (ze_iload rfl)
  replace b := zz_fo b (zlw_556 (K := zz_k0) zz_k0_KS hsp0 hG hP) ze_const
  replace b := zz_fo b (zlw_557 (K := zz_k0) zz_k0_KS hsp0 hG hP) (ze_iadd (zl_ij (4 * m) 3))
  replace b := zz_fo b (zlw_558 (K := zz_k0) hX hL2) (ze_kl (zl_kl xs (j := 4 * m + 3) (by omega) hL) (zz_nI_of _))
  replace b := zz_gVi b (fun K h => zlw_559 h hsp0 hG hP) hR rfl rfl h2 (zz_lb rfl)
  replace b := zz_fo b (zlw_562 (K := zz_k0) zz_k0_KS hsp0 hG hP) (ze_istore (lv' := [(5, _), (4, _), (3, _), (2, _), (1, _), (0, _)]) rfl)
  replace b := zz_fo b (zlw_564 (K := zz_k0) zz_k0_KS hsp0 hG hP) ze_goto
  exact zz_fl (lv' := [(4, .int (Int32.ofNat (4 * m))), (3, .ref 328), (2, .ref 171), (1, .ref 0), (0, .ref 1999999)]) b (zz_mc (List.mem_cons_of_mem _ (List.mem_cons_of_mem _ List.mem_cons_self)) (zz_mc (List.mem_cons_of_mem _ (List.mem_cons_of_mem _ (List.mem_cons_of_mem _ List.mem_cons_self))) (zz_mc (List.mem_cons_of_mem _ (List.mem_cons_of_mem _ (List.mem_cons_of_mem _ (List.mem_cons_of_mem _ List.mem_cons_self)))) (zz_mc (List.mem_cons_of_mem _ (List.mem_cons_of_mem _ (List.mem_cons_of_mem _ (List.mem_cons_of_mem _ (List.mem_cons_of_mem _ List.mem_cons_self))))) (zz_mc (List.mem_cons_of_mem _ (List.mem_cons_of_mem _ (List.mem_cons_of_mem _ (List.mem_cons_of_mem _ (List.mem_cons_of_mem _ (List.mem_cons_of_mem _ List.mem_cons_self)))))) zz_mn)))))
theorem zLc_12 {l : Launch} {D : va_G} {cy : Nat → ClassId} {z0 : Nat} {sp : Nat → Nat} {G : State → Prop} (H : zHy l D cy z0 sp G) {mn : String} {L n m : Nat} {xs : Nat → Int32} (hX : ∀ U, G U → va_T .int (sp 999999) L (fun j => .int (xs j)) (fun q : Nat => z0 ≤ q) U U.heap) (hL : L ≤ 2048) (hnm : n ≤ m) (hn4 : 4 * m + 4 ≤ L) {w : zz_W} (h : zIv zQI n 0 w) : ∃ w', zz_B l zTs D zcl zFK cy z0 sp (zTys cy) G "ToolMillLaw" mn 7 code 470 (39, zLv (Int32.ofNat (4 * m)), [.int (Int32.ofNat 12)], w) (899, zLv (Int32.ofNat (4 * m)), [], w') ∧ zIv zQI (n + 1) 0 w' := by
  have hn : n ≤ 511 := by omega
  have hL2 : L ≤ 2147483648 := by omega
  have h0 := zI_ic0 (zIv_I h)
  obtain ⟨k, w1, hH, h1⟩ := zHk_13 H hn h (xs (4 * m + 1))
  have h2 := zI_ic171 (zIv_I h1)
  obtain ⟨v, w2, hR, hI⟩ := zRm_37 H hn h1 (xs (4 * m + 1))
  obtain ⟨hG, hP, -, hsp0, -, -, -, -⟩ := H
  refine ⟨w2, ?_, hI⟩
  have b := zz_B_rf (l := l) (Ts := zTs) (D := D) (cl := zcl) (fk := zFK) (cy := cy) (z0 := z0) (sp := sp) (tys := zTys cy) (G := G) (own := "ToolMillLaw") (mn := mn) (nL := 7) (cc := code) (d := 470) ((39, [(4, .int (Int32.ofNat (4 * m))), (3, .ref 328), (2, .ref 171), (1, .ref 0), (0, .ref 1999999)], [.int (Int32.ofNat 12)], w) : zz_F)
  replace b := zz_fo b (zlw_39 (K := zz_k0) zz_k0_KS hsp0 hG hP) (ze_tsw_k (t := 567) (by decide) (by decide))
  replace b := zz_fo b (zlw_567 (K := zz_k0) zz_k0_KS hsp0 hG hP) (ze_aload rfl)
  replace b := zz_fo b (zlw_568 (K := zz_k0) zz_k0_KS hsp0 hG hP) (ze_aload rfl)
  replace b := zz_fo b (zlw_569 (K := zz_k0) zz_k0_KS hsp0 hG hP) (ze_iload rfl)
  replace b := zz_fo b (zlw_571 (K := zz_k0) zz_k0_KS hsp0 hG hP) ze_const
  replace b := zz_fo b (zlw_572 (K := zz_k0) zz_k0_KS hsp0 hG hP) (ze_iadd (zl_ij (4 * m) 1))
  replace b := zz_fo b (zlw_573 (K := zz_k0) hX hL2) (ze_kl (zl_kl xs (j := 4 * m + 1) (by omega) hL) (zz_nI_of _))
  replace b := zz_fo b (zlw_574 (K := zz_k0) zz_k0_KS hsp0 hG hP) (ze_aload rfl)
  replace b := zz_gH b (zlh_575 (rv := [.int k]) (r := []) hG hH rfl rfl (zz_lb rfl))
  replace b := zz_fo b (zlw_578 (K := zz_k0) zz_k0_KS hsp0 hG hP) (ze_istore (lv' := [(4, _), (3, _), (2, _), (1, _), (0, _)]) rfl)
  replace b := zz_fo b (zlw_580 (K := zz_k0) zz_k0_KS hsp0 hG hP) (ze_aload rfl)
  replace b := zz_fo b (zlw_581 (K := zz_k0) zz_k0_KS hsp0 hG hP) (ze_aload rfl)
  replace b := zz_fo b (zlw_582 (K := zz_k0) zz_k0_KS hsp0 hG hP) (ze_iload rfl)
  replace b := zz_fo b (zlw_584 (K := zz_k0) zz_k0_KS hsp0 hG hP) ze_const
  replace b := zz_fo b (zlw_585 (K := zz_k0) zz_k0_KS hsp0 hG hP) (ze_iadd (zl_ij (4 * m) 1))
  replace b := zz_fo b (zlw_586 (K := zz_k0) hX hL2) (ze_kl (zl_kl xs (j := 4 * m + 1) (by omega) hL) (zz_nI_of _))
  replace b := zz_gVi b (fun K h => zlw_587 h hsp0 hG hP) hR rfl rfl h2 (zz_lb rfl)
  replace b := zz_fo b (zlw_590 (K := zz_k0) zz_k0_KS hsp0 hG hP) (ze_istore (lv' := [(5, _), (4, _), (3, _), (2, _), (1, _), (0, _)]) rfl)
  replace b := zz_fo b (zlw_592 (K := zz_k0) zz_k0_KS hsp0 hG hP) ze_goto
  exact zz_fl (lv' := [(4, .int (Int32.ofNat (4 * m))), (3, .ref 328), (2, .ref 171), (1, .ref 0), (0, .ref 1999999)]) b (zz_mc (List.mem_cons_of_mem _ (List.mem_cons_of_mem _ List.mem_cons_self)) (zz_mc (List.mem_cons_of_mem _ (List.mem_cons_of_mem _ (List.mem_cons_of_mem _ List.mem_cons_self))) (zz_mc (List.mem_cons_of_mem _ (List.mem_cons_of_mem _ (List.mem_cons_of_mem _ (List.mem_cons_of_mem _ List.mem_cons_self)))) (zz_mc (List.mem_cons_of_mem _ (List.mem_cons_of_mem _ (List.mem_cons_of_mem _ (List.mem_cons_of_mem _ (List.mem_cons_of_mem _ List.mem_cons_self))))) (zz_mc (List.mem_cons_of_mem _ (List.mem_cons_of_mem _ (List.mem_cons_of_mem _ (List.mem_cons_of_mem _ (List.mem_cons_of_mem _ (List.mem_cons_of_mem _ List.mem_cons_self)))))) zz_mn)))))
theorem zLc_13 {l : Launch} {D : va_G} {cy : Nat → ClassId} {z0 : Nat} {sp : Nat → Nat} {G : State → Prop} (H : zHy l D cy z0 sp G) {mn : String} {L n m : Nat} {xs : Nat → Int32} (hX : ∀ U, G U → va_T .int (sp 999999) L (fun j => .int (xs j)) (fun q : Nat => z0 ≤ q) U U.heap) (hL : L ≤ 2048) (hnm : n ≤ m) (hn4 : 4 * m + 4 ≤ L) {w : zz_W} (h : zIv zQI n 0 w) : ∃ w', zz_B l zTs D zcl zFK cy z0 sp (zTys cy) G "ToolMillLaw" mn 7 code 470 (39, zLv (Int32.ofNat (4 * m)), [.int (Int32.ofNat 13)], w) (899, zLv (Int32.ofNat (4 * m)), [], w') ∧ zIv zQI (n + 1) 0 w' := by
  have hn : n ≤ 511 := by omega
  have hL2 : L ≤ 2147483648 := by omega
  have h0 := zI_ic0 (zIv_I h)
  obtain ⟨k, w1, hH, h1⟩ := zHk_14 H hn h (xs (4 * m + 1)) (xs (4 * m + 2))
  have h2 := zI_ic171 (zIv_I h1)
  obtain ⟨v, w2, hR, hI⟩ := zRm_38 H hn h1 (xs (4 * m + 1)) (xs (4 * m + 2))
  obtain ⟨hG, hP, -, hsp0, -, -, -, -⟩ := H
  refine ⟨w2, ?_, hI⟩
  have b := zz_B_rf (l := l) (Ts := zTs) (D := D) (cl := zcl) (fk := zFK) (cy := cy) (z0 := z0) (sp := sp) (tys := zTys cy) (G := G) (own := "ToolMillLaw") (mn := mn) (nL := 7) (cc := code) (d := 470) ((39, [(4, .int (Int32.ofNat (4 * m))), (3, .ref 328), (2, .ref 171), (1, .ref 0), (0, .ref 1999999)], [.int (Int32.ofNat 13)], w) : zz_F)
  replace b := zz_fo b (zlw_39 (K := zz_k0) zz_k0_KS hsp0 hG hP) (ze_tsw_k (t := 595) (by decide) (by decide))
  replace b := zz_fo b (zlw_595 (K := zz_k0) zz_k0_KS hsp0 hG hP) (ze_aload rfl)
  replace b := zz_fo b (zlw_596 (K := zz_k0) zz_k0_KS hsp0 hG hP) (ze_aload rfl)
  replace b := zz_fo b (zlw_597 (K := zz_k0) zz_k0_KS hsp0 hG hP) (ze_iload rfl)
  replace b := zz_fo b (zlw_599 (K := zz_k0) zz_k0_KS hsp0 hG hP) ze_const
  replace b := zz_fo b (zlw_600 (K := zz_k0) zz_k0_KS hsp0 hG hP) (ze_iadd (zl_ij (4 * m) 1))
  replace b := zz_fo b (zlw_601 (K := zz_k0) hX hL2) (ze_kl (zl_kl xs (j := 4 * m + 1) (by omega) hL) (zz_nI_of _))
  replace b := zz_fo b (zlw_602 (K := zz_k0) zz_k0_KS hsp0 hG hP) (ze_aload rfl)
  replace b := zz_fo b (zlw_603 (K := zz_k0) zz_k0_KS hsp0 hG hP) (ze_iload rfl)
  replace b := zz_fo b (zlw_605 (K := zz_k0) zz_k0_KS hsp0 hG hP) ze_const
  replace b := zz_fo b (zlw_606 (K := zz_k0) zz_k0_KS hsp0 hG hP) (ze_iadd (zl_ij (4 * m) 2))
  replace b := zz_fo b (zlw_607 (K := zz_k0) hX hL2) (ze_kl (zl_kl xs (j := 4 * m + 2) (by omega) hL) (zz_nI_of _))
  replace b := zz_fo b (zlw_608 (K := zz_k0) zz_k0_KS hsp0 hG hP) (ze_aload rfl)
  replace b := zz_gH b (zlh_609 (rv := [.int k]) (r := []) hG hH rfl rfl (zz_lb rfl))
  replace b := zz_fo b (zlw_612 (K := zz_k0) zz_k0_KS hsp0 hG hP) (ze_istore (lv' := [(4, _), (3, _), (2, _), (1, _), (0, _)]) rfl)
  replace b := zz_fo b (zlw_614 (K := zz_k0) zz_k0_KS hsp0 hG hP) (ze_aload rfl)
  replace b := zz_fo b (zlw_615 (K := zz_k0) zz_k0_KS hsp0 hG hP) (ze_aload rfl)
  replace b := zz_fo b (zlw_616 (K := zz_k0) zz_k0_KS hsp0 hG hP) (ze_iload rfl)
  replace b := zz_fo b (zlw_618 (K := zz_k0) zz_k0_KS hsp0 hG hP) ze_const
  replace b := zz_fo b (zlw_619 (K := zz_k0) zz_k0_KS hsp0 hG hP) (ze_iadd (zl_ij (4 * m) 1))
  replace b := zz_fo b (zlw_620 (K := zz_k0) hX hL2) (ze_kl (zl_kl xs (j := 4 * m + 1) (by omega) hL) (zz_nI_of _))
  replace b := zz_fo b (zlw_621 (K := zz_k0) zz_k0_KS hsp0 hG hP) (ze_aload rfl)
  replace b := zz_fo b (zlw_622 (K := zz_k0) zz_k0_KS hsp0 hG hP) (ze_iload rfl)
  replace b := zz_fo b (zlw_624 (K := zz_k0) zz_k0_KS hsp0 hG hP) ze_const
  replace b := zz_fo b (zlw_625 (K := zz_k0) zz_k0_KS hsp0 hG hP) (ze_iadd (zl_ij (4 * m) 2))
  replace b := zz_fo b (zlw_626 (K := zz_k0) hX hL2) (ze_kl (zl_kl xs (j := 4 * m + 2) (by omega) hL) (zz_nI_of _))
  replace b := zz_gVi b (fun K h => zlw_627 h hsp0 hG hP) hR rfl rfl h2 (zz_lb rfl)
  replace b := zz_fo b (zlw_630 (K := zz_k0) zz_k0_KS hsp0 hG hP) (ze_istore (lv' := [(5, _), (4, _), (3, _), (2, _), (1, _), (0, _)]) rfl)
  replace b := zz_fo b (zlw_632 (K := zz_k0) zz_k0_KS hsp0 hG hP) ze_goto
  exact zz_fl (lv' := [(4, .int (Int32.ofNat (4 * m))), (3, .ref 328), (2, .ref 171), (1, .ref 0), (0, .ref 1999999)]) b (zz_mc (List.mem_cons_of_mem _ (List.mem_cons_of_mem _ List.mem_cons_self)) (zz_mc (List.mem_cons_of_mem _ (List.mem_cons_of_mem _ (List.mem_cons_of_mem _ List.mem_cons_self))) (zz_mc (List.mem_cons_of_mem _ (List.mem_cons_of_mem _ (List.mem_cons_of_mem _ (List.mem_cons_of_mem _ List.mem_cons_self)))) (zz_mc (List.mem_cons_of_mem _ (List.mem_cons_of_mem _ (List.mem_cons_of_mem _ (List.mem_cons_of_mem _ (List.mem_cons_of_mem _ List.mem_cons_self))))) (zz_mc (List.mem_cons_of_mem _ (List.mem_cons_of_mem _ (List.mem_cons_of_mem _ (List.mem_cons_of_mem _ (List.mem_cons_of_mem _ (List.mem_cons_of_mem _ List.mem_cons_self)))))) zz_mn)))))
theorem zLc_14 {l : Launch} {D : va_G} {cy : Nat → ClassId} {z0 : Nat} {sp : Nat → Nat} {G : State → Prop} (H : zHy l D cy z0 sp G) {mn : String} {L n m : Nat} {xs : Nat → Int32} (hX : ∀ U, G U → va_T .int (sp 999999) L (fun j => .int (xs j)) (fun q : Nat => z0 ≤ q) U U.heap) (hL : L ≤ 2048) (hnm : n ≤ m) (hn4 : 4 * m + 4 ≤ L) {w : zz_W} (h : zIv zQI n 0 w) : ∃ w', zz_B l zTs D zcl zFK cy z0 sp (zTys cy) G "ToolMillLaw" mn 7 code 470 (39, zLv (Int32.ofNat (4 * m)), [.int (Int32.ofNat 14)], w) (899, zLv (Int32.ofNat (4 * m)), [], w') ∧ zIv zQI (n + 1) 0 w' := by
  have hn : n ≤ 511 := by omega
  have hL2 : L ≤ 2147483648 := by omega
  have h0 := zI_ic0 (zIv_I h)
  obtain ⟨k, w1, hH, h1⟩ := zHk_15 H hn h (xs (4 * m + 1))
  have h2 := zI_ic171 (zIv_I h1)
  obtain ⟨v, w2, hR, hI⟩ := zRm_39 H hn h1 (xs (4 * m + 1))
  obtain ⟨hG, hP, -, hsp0, -, -, -, -⟩ := H
  refine ⟨w2, ?_, hI⟩
  have b := zz_B_rf (l := l) (Ts := zTs) (D := D) (cl := zcl) (fk := zFK) (cy := cy) (z0 := z0) (sp := sp) (tys := zTys cy) (G := G) (own := "ToolMillLaw") (mn := mn) (nL := 7) (cc := code) (d := 470) ((39, [(4, .int (Int32.ofNat (4 * m))), (3, .ref 328), (2, .ref 171), (1, .ref 0), (0, .ref 1999999)], [.int (Int32.ofNat 14)], w) : zz_F)
  replace b := zz_fo b (zlw_39 (K := zz_k0) zz_k0_KS hsp0 hG hP) (ze_tsw_k (t := 635) (by decide) (by decide))
  replace b := zz_fo b (zlw_635 (K := zz_k0) zz_k0_KS hsp0 hG hP) (ze_aload rfl)
  replace b := zz_fo b (zlw_636 (K := zz_k0) zz_k0_KS hsp0 hG hP) (ze_aload rfl)
  replace b := zz_fo b (zlw_637 (K := zz_k0) zz_k0_KS hsp0 hG hP) (ze_iload rfl)
  replace b := zz_fo b (zlw_639 (K := zz_k0) zz_k0_KS hsp0 hG hP) ze_const
  replace b := zz_fo b (zlw_640 (K := zz_k0) zz_k0_KS hsp0 hG hP) (ze_iadd (zl_ij (4 * m) 1))
  replace b := zz_fo b (zlw_641 (K := zz_k0) hX hL2) (ze_kl (zl_kl xs (j := 4 * m + 1) (by omega) hL) (zz_nI_of _))
  replace b := zz_fo b (zlw_642 (K := zz_k0) zz_k0_KS hsp0 hG hP) (ze_aload rfl)
  replace b := zz_gH b (zlh_643 (rv := [.int k]) (r := []) hG hH rfl rfl (zz_lb rfl))
  replace b := zz_fo b (zlw_646 (K := zz_k0) zz_k0_KS hsp0 hG hP) (ze_istore (lv' := [(4, _), (3, _), (2, _), (1, _), (0, _)]) rfl)
  replace b := zz_fo b (zlw_648 (K := zz_k0) zz_k0_KS hsp0 hG hP) (ze_aload rfl)
  replace b := zz_fo b (zlw_649 (K := zz_k0) zz_k0_KS hsp0 hG hP) (ze_aload rfl)
  replace b := zz_fo b (zlw_650 (K := zz_k0) zz_k0_KS hsp0 hG hP) (ze_iload rfl)
  replace b := zz_fo b (zlw_652 (K := zz_k0) zz_k0_KS hsp0 hG hP) ze_const
  replace b := zz_fo b (zlw_653 (K := zz_k0) zz_k0_KS hsp0 hG hP) (ze_iadd (zl_ij (4 * m) 1))
  replace b := zz_fo b (zlw_654 (K := zz_k0) hX hL2) (ze_kl (zl_kl xs (j := 4 * m + 1) (by omega) hL) (zz_nI_of _))
  replace b := zz_gVi b (fun K h => zlw_655 h hsp0 hG hP) hR rfl rfl h2 (zz_lb rfl)
  replace b := zz_fo b (zlw_658 (K := zz_k0) zz_k0_KS hsp0 hG hP) (ze_istore (lv' := [(5, _), (4, _), (3, _), (2, _), (1, _), (0, _)]) rfl)
  replace b := zz_fo b (zlw_660 (K := zz_k0) zz_k0_KS hsp0 hG hP) ze_goto
  exact zz_fl (lv' := [(4, .int (Int32.ofNat (4 * m))), (3, .ref 328), (2, .ref 171), (1, .ref 0), (0, .ref 1999999)]) b (zz_mc (List.mem_cons_of_mem _ (List.mem_cons_of_mem _ List.mem_cons_self)) (zz_mc (List.mem_cons_of_mem _ (List.mem_cons_of_mem _ (List.mem_cons_of_mem _ List.mem_cons_self))) (zz_mc (List.mem_cons_of_mem _ (List.mem_cons_of_mem _ (List.mem_cons_of_mem _ (List.mem_cons_of_mem _ List.mem_cons_self)))) (zz_mc (List.mem_cons_of_mem _ (List.mem_cons_of_mem _ (List.mem_cons_of_mem _ (List.mem_cons_of_mem _ (List.mem_cons_of_mem _ List.mem_cons_self))))) (zz_mc (List.mem_cons_of_mem _ (List.mem_cons_of_mem _ (List.mem_cons_of_mem _ (List.mem_cons_of_mem _ (List.mem_cons_of_mem _ (List.mem_cons_of_mem _ List.mem_cons_self)))))) zz_mn)))))
theorem zLc_15 {l : Launch} {D : va_G} {cy : Nat → ClassId} {z0 : Nat} {sp : Nat → Nat} {G : State → Prop} (H : zHy l D cy z0 sp G) {mn : String} {L n m : Nat} {xs : Nat → Int32} (hX : ∀ U, G U → va_T .int (sp 999999) L (fun j => .int (xs j)) (fun q : Nat => z0 ≤ q) U U.heap) (hL : L ≤ 2048) (hnm : n ≤ m) (hn4 : 4 * m + 4 ≤ L) {w : zz_W} (h : zIv zQI n 0 w) : ∃ w', zz_B l zTs D zcl zFK cy z0 sp (zTys cy) G "ToolMillLaw" mn 7 code 470 (39, zLv (Int32.ofNat (4 * m)), [.int (Int32.ofNat 15)], w) (899, zLv (Int32.ofNat (4 * m)), [], w') ∧ zIv zQI (n + 1) 0 w' := by
  have hn : n ≤ 511 := by omega
  have hL2 : L ≤ 2147483648 := by omega
  have h0 := zI_ic0 (zIv_I h)
  obtain ⟨k, w1, hH, h1⟩ := zHk_16 H hn h (xs (4 * m + 1))
  have h2 := zI_ic171 (zIv_I h1)
  obtain ⟨v, w2, hR, hI⟩ := zRm_40 H hn h1 (xs (4 * m + 1))
  obtain ⟨hG, hP, -, hsp0, -, -, -, -⟩ := H
  refine ⟨w2, ?_, hI⟩
  have b := zz_B_rf (l := l) (Ts := zTs) (D := D) (cl := zcl) (fk := zFK) (cy := cy) (z0 := z0) (sp := sp) (tys := zTys cy) (G := G) (own := "ToolMillLaw") (mn := mn) (nL := 7) (cc := code) (d := 470) ((39, [(4, .int (Int32.ofNat (4 * m))), (3, .ref 328), (2, .ref 171), (1, .ref 0), (0, .ref 1999999)], [.int (Int32.ofNat 15)], w) : zz_F)
  replace b := zz_fo b (zlw_39 (K := zz_k0) zz_k0_KS hsp0 hG hP) (ze_tsw_k (t := 663) (by decide) (by decide))
  replace b := zz_fo b (zlw_663 (K := zz_k0) zz_k0_KS hsp0 hG hP) (ze_aload rfl)
  replace b := zz_fo b (zlw_664 (K := zz_k0) zz_k0_KS hsp0 hG hP) (ze_aload rfl)
  replace b := zz_fo b (zlw_665 (K := zz_k0) zz_k0_KS hsp0 hG hP) (ze_iload rfl)
  replace b := zz_fo b (zlw_667 (K := zz_k0) zz_k0_KS hsp0 hG hP) ze_const
  replace b := zz_fo b (zlw_668 (K := zz_k0) zz_k0_KS hsp0 hG hP) (ze_iadd (zl_ij (4 * m) 1))
  replace b := zz_fo b (zlw_669 (K := zz_k0) hX hL2) (ze_kl (zl_kl xs (j := 4 * m + 1) (by omega) hL) (zz_nI_of _))
  replace b := zz_fo b (zlw_670 (K := zz_k0) zz_k0_KS hsp0 hG hP) (ze_aload rfl)
  replace b := zz_gH b (zlh_671 (rv := [.int k]) (r := []) hG hH rfl rfl (zz_lb rfl))
  replace b := zz_fo b (zlw_674 (K := zz_k0) zz_k0_KS hsp0 hG hP) (ze_istore (lv' := [(4, _), (3, _), (2, _), (1, _), (0, _)]) rfl)
  replace b := zz_fo b (zlw_676 (K := zz_k0) zz_k0_KS hsp0 hG hP) (ze_aload rfl)
  replace b := zz_fo b (zlw_677 (K := zz_k0) zz_k0_KS hsp0 hG hP) (ze_aload rfl)
  replace b := zz_fo b (zlw_678 (K := zz_k0) zz_k0_KS hsp0 hG hP) (ze_iload rfl)
  replace b := zz_fo b (zlw_680 (K := zz_k0) zz_k0_KS hsp0 hG hP) ze_const
  replace b := zz_fo b (zlw_681 (K := zz_k0) zz_k0_KS hsp0 hG hP) (ze_iadd (zl_ij (4 * m) 1))
  replace b := zz_fo b (zlw_682 (K := zz_k0) hX hL2) (ze_kl (zl_kl xs (j := 4 * m + 1) (by omega) hL) (zz_nI_of _))
  replace b := zz_gVi b (fun K h => zlw_683 h hsp0 hG hP) hR rfl rfl h2 (zz_lb rfl)
  replace b := zz_fo b (zlw_686 (K := zz_k0) zz_k0_KS hsp0 hG hP) (ze_istore (lv' := [(5, _), (4, _), (3, _), (2, _), (1, _), (0, _)]) rfl)
  replace b := zz_fo b (zlw_688 (K := zz_k0) zz_k0_KS hsp0 hG hP) ze_goto
  exact zz_fl (lv' := [(4, .int (Int32.ofNat (4 * m))), (3, .ref 328), (2, .ref 171), (1, .ref 0), (0, .ref 1999999)]) b (zz_mc (List.mem_cons_of_mem _ (List.mem_cons_of_mem _ List.mem_cons_self)) (zz_mc (List.mem_cons_of_mem _ (List.mem_cons_of_mem _ (List.mem_cons_of_mem _ List.mem_cons_self))) (zz_mc (List.mem_cons_of_mem _ (List.mem_cons_of_mem _ (List.mem_cons_of_mem _ (List.mem_cons_of_mem _ List.mem_cons_self)))) (zz_mc (List.mem_cons_of_mem _ (List.mem_cons_of_mem _ (List.mem_cons_of_mem _ (List.mem_cons_of_mem _ (List.mem_cons_of_mem _ List.mem_cons_self))))) (zz_mc (List.mem_cons_of_mem _ (List.mem_cons_of_mem _ (List.mem_cons_of_mem _ (List.mem_cons_of_mem _ (List.mem_cons_of_mem _ (List.mem_cons_of_mem _ List.mem_cons_self)))))) zz_mn)))))
theorem zLc_16 {l : Launch} {D : va_G} {cy : Nat → ClassId} {z0 : Nat} {sp : Nat → Nat} {G : State → Prop} (H : zHy l D cy z0 sp G) {mn : String} {L n m : Nat} {xs : Nat → Int32} (hX : ∀ U, G U → va_T .int (sp 999999) L (fun j => .int (xs j)) (fun q : Nat => z0 ≤ q) U U.heap) (hL : L ≤ 2048) (hnm : n ≤ m) (hn4 : 4 * m + 4 ≤ L) {w : zz_W} (h : zIv zQI n 0 w) : ∃ w', zz_B l zTs D zcl zFK cy z0 sp (zTys cy) G "ToolMillLaw" mn 7 code 470 (39, zLv (Int32.ofNat (4 * m)), [.int (Int32.ofNat 16)], w) (899, zLv (Int32.ofNat (4 * m)), [], w') ∧ zIv zQI (n + 1) 0 w' := by
  have hn : n ≤ 511 := by omega
  have hL2 : L ≤ 2147483648 := by omega
  have h0 := zI_ic0 (zIv_I h)
  obtain ⟨k, w1, hH, h1⟩ := zHk_17 H hn h (xs (4 * m + 1))
  have h2 := zI_ic171 (zIv_I h1)
  obtain ⟨v, w2, hR, hI⟩ := zRm_41 H hn h1 (xs (4 * m + 1))
  obtain ⟨hG, hP, -, hsp0, -, -, -, -⟩ := H
  refine ⟨w2, ?_, hI⟩
  have b := zz_B_rf (l := l) (Ts := zTs) (D := D) (cl := zcl) (fk := zFK) (cy := cy) (z0 := z0) (sp := sp) (tys := zTys cy) (G := G) (own := "ToolMillLaw") (mn := mn) (nL := 7) (cc := code) (d := 470) ((39, [(4, .int (Int32.ofNat (4 * m))), (3, .ref 328), (2, .ref 171), (1, .ref 0), (0, .ref 1999999)], [.int (Int32.ofNat 16)], w) : zz_F)
  replace b := zz_fo b (zlw_39 (K := zz_k0) zz_k0_KS hsp0 hG hP) (ze_tsw_k (t := 691) (by decide) (by decide))
  replace b := zz_fo b (zlw_691 (K := zz_k0) zz_k0_KS hsp0 hG hP) (ze_aload rfl)
  replace b := zz_fo b (zlw_692 (K := zz_k0) zz_k0_KS hsp0 hG hP) (ze_aload rfl)
  replace b := zz_fo b (zlw_693 (K := zz_k0) zz_k0_KS hsp0 hG hP) (ze_iload rfl)
  replace b := zz_fo b (zlw_695 (K := zz_k0) zz_k0_KS hsp0 hG hP) ze_const
  replace b := zz_fo b (zlw_696 (K := zz_k0) zz_k0_KS hsp0 hG hP) (ze_iadd (zl_ij (4 * m) 1))
  replace b := zz_fo b (zlw_697 (K := zz_k0) hX hL2) (ze_kl (zl_kl xs (j := 4 * m + 1) (by omega) hL) (zz_nI_of _))
  replace b := zz_fo b (zlw_698 (K := zz_k0) zz_k0_KS hsp0 hG hP) (ze_aload rfl)
  replace b := zz_gH b (zlh_699 (rv := [.int k]) (r := []) hG hH rfl rfl (zz_lb rfl))
  replace b := zz_fo b (zlw_702 (K := zz_k0) zz_k0_KS hsp0 hG hP) (ze_istore (lv' := [(4, _), (3, _), (2, _), (1, _), (0, _)]) rfl)
  replace b := zz_fo b (zlw_704 (K := zz_k0) zz_k0_KS hsp0 hG hP) (ze_aload rfl)
  replace b := zz_fo b (zlw_705 (K := zz_k0) zz_k0_KS hsp0 hG hP) (ze_aload rfl)
  replace b := zz_fo b (zlw_706 (K := zz_k0) zz_k0_KS hsp0 hG hP) (ze_iload rfl)
  replace b := zz_fo b (zlw_708 (K := zz_k0) zz_k0_KS hsp0 hG hP) ze_const
  replace b := zz_fo b (zlw_709 (K := zz_k0) zz_k0_KS hsp0 hG hP) (ze_iadd (zl_ij (4 * m) 1))
  replace b := zz_fo b (zlw_710 (K := zz_k0) hX hL2) (ze_kl (zl_kl xs (j := 4 * m + 1) (by omega) hL) (zz_nI_of _))
  replace b := zz_gVi b (fun K h => zlw_711 h hsp0 hG hP) hR rfl rfl h2 (zz_lb rfl)
  replace b := zz_fo b (zlw_714 (K := zz_k0) zz_k0_KS hsp0 hG hP) (ze_istore (lv' := [(5, _), (4, _), (3, _), (2, _), (1, _), (0, _)]) rfl)
  replace b := zz_fo b (zlw_716 (K := zz_k0) zz_k0_KS hsp0 hG hP) ze_goto
  exact zz_fl (lv' := [(4, .int (Int32.ofNat (4 * m))), (3, .ref 328), (2, .ref 171), (1, .ref 0), (0, .ref 1999999)]) b (zz_mc (List.mem_cons_of_mem _ (List.mem_cons_of_mem _ List.mem_cons_self)) (zz_mc (List.mem_cons_of_mem _ (List.mem_cons_of_mem _ (List.mem_cons_of_mem _ List.mem_cons_self))) (zz_mc (List.mem_cons_of_mem _ (List.mem_cons_of_mem _ (List.mem_cons_of_mem _ (List.mem_cons_of_mem _ List.mem_cons_self)))) (zz_mc (List.mem_cons_of_mem _ (List.mem_cons_of_mem _ (List.mem_cons_of_mem _ (List.mem_cons_of_mem _ (List.mem_cons_of_mem _ List.mem_cons_self))))) (zz_mc (List.mem_cons_of_mem _ (List.mem_cons_of_mem _ (List.mem_cons_of_mem _ (List.mem_cons_of_mem _ (List.mem_cons_of_mem _ (List.mem_cons_of_mem _ List.mem_cons_self)))))) zz_mn)))))
theorem zLc_17 {l : Launch} {D : va_G} {cy : Nat → ClassId} {z0 : Nat} {sp : Nat → Nat} {G : State → Prop} (H : zHy l D cy z0 sp G) {mn : String} {L n m : Nat} {xs : Nat → Int32} (hX : ∀ U, G U → va_T .int (sp 999999) L (fun j => .int (xs j)) (fun q : Nat => z0 ≤ q) U U.heap) (hL : L ≤ 2048) (hnm : n ≤ m) (hn4 : 4 * m + 4 ≤ L) {w : zz_W} (h : zIv zQI n 0 w) : ∃ w', zz_B l zTs D zcl zFK cy z0 sp (zTys cy) G "ToolMillLaw" mn 7 code 470 (39, zLv (Int32.ofNat (4 * m)), [.int (Int32.ofNat 17)], w) (899, zLv (Int32.ofNat (4 * m)), [], w') ∧ zIv zQI (n + 1) 0 w' := by
  have hn : n ≤ 511 := by omega
  have hL2 : L ≤ 2147483648 := by omega
  have h0 := zI_ic0 (zIv_I h)
  obtain ⟨k, w1, hH, h1⟩ := zHk_18 H hn h (xs (4 * m + 1))
  have h2 := zI_ic171 (zIv_I h1)
  obtain ⟨v, w2, hR, hI⟩ := zRm_42 H hn h1 (xs (4 * m + 1))
  obtain ⟨hG, hP, -, hsp0, -, -, -, -⟩ := H
  refine ⟨w2, ?_, hI⟩
  have b := zz_B_rf (l := l) (Ts := zTs) (D := D) (cl := zcl) (fk := zFK) (cy := cy) (z0 := z0) (sp := sp) (tys := zTys cy) (G := G) (own := "ToolMillLaw") (mn := mn) (nL := 7) (cc := code) (d := 470) ((39, [(4, .int (Int32.ofNat (4 * m))), (3, .ref 328), (2, .ref 171), (1, .ref 0), (0, .ref 1999999)], [.int (Int32.ofNat 17)], w) : zz_F)
  replace b := zz_fo b (zlw_39 (K := zz_k0) zz_k0_KS hsp0 hG hP) (ze_tsw_k (t := 719) (by decide) (by decide))
  replace b := zz_fo b (zlw_719 (K := zz_k0) zz_k0_KS hsp0 hG hP) (ze_aload rfl)
  replace b := zz_fo b (zlw_720 (K := zz_k0) zz_k0_KS hsp0 hG hP) (ze_aload rfl)
  replace b := zz_fo b (zlw_721 (K := zz_k0) zz_k0_KS hsp0 hG hP) (ze_iload rfl)
  replace b := zz_fo b (zlw_723 (K := zz_k0) zz_k0_KS hsp0 hG hP) ze_const
  replace b := zz_fo b (zlw_724 (K := zz_k0) zz_k0_KS hsp0 hG hP) (ze_iadd (zl_ij (4 * m) 1))
  replace b := zz_fo b (zlw_725 (K := zz_k0) hX hL2) (ze_kl (zl_kl xs (j := 4 * m + 1) (by omega) hL) (zz_nI_of _))
  replace b := zz_fo b (zlw_726 (K := zz_k0) zz_k0_KS hsp0 hG hP) (ze_aload rfl)
  replace b := zz_gH b (zlh_727 (rv := [.int k]) (r := []) hG hH rfl rfl (zz_lb rfl))
  replace b := zz_fo b (zlw_730 (K := zz_k0) zz_k0_KS hsp0 hG hP) (ze_istore (lv' := [(4, _), (3, _), (2, _), (1, _), (0, _)]) rfl)
  replace b := zz_fo b (zlw_732 (K := zz_k0) zz_k0_KS hsp0 hG hP) (ze_aload rfl)
  replace b := zz_fo b (zlw_733 (K := zz_k0) zz_k0_KS hsp0 hG hP) (ze_aload rfl)
  replace b := zz_fo b (zlw_734 (K := zz_k0) zz_k0_KS hsp0 hG hP) (ze_iload rfl)
  replace b := zz_fo b (zlw_736 (K := zz_k0) zz_k0_KS hsp0 hG hP) ze_const
  replace b := zz_fo b (zlw_737 (K := zz_k0) zz_k0_KS hsp0 hG hP) (ze_iadd (zl_ij (4 * m) 1))
  replace b := zz_fo b (zlw_738 (K := zz_k0) hX hL2) (ze_kl (zl_kl xs (j := 4 * m + 1) (by omega) hL) (zz_nI_of _))
  replace b := zz_gVi b (fun K h => zlw_739 h hsp0 hG hP) hR rfl rfl h2 (zz_lb rfl)
  replace b := zz_fo b (zlw_742 (K := zz_k0) zz_k0_KS hsp0 hG hP) (ze_istore (lv' := [(5, _), (4, _), (3, _), (2, _), (1, _), (0, _)]) rfl)
  replace b := zz_fo b (zlw_744 (K := zz_k0) zz_k0_KS hsp0 hG hP) ze_goto
  exact zz_fl (lv' := [(4, .int (Int32.ofNat (4 * m))), (3, .ref 328), (2, .ref 171), (1, .ref 0), (0, .ref 1999999)]) b (zz_mc (List.mem_cons_of_mem _ (List.mem_cons_of_mem _ List.mem_cons_self)) (zz_mc (List.mem_cons_of_mem _ (List.mem_cons_of_mem _ (List.mem_cons_of_mem _ List.mem_cons_self))) (zz_mc (List.mem_cons_of_mem _ (List.mem_cons_of_mem _ (List.mem_cons_of_mem _ (List.mem_cons_of_mem _ List.mem_cons_self)))) (zz_mc (List.mem_cons_of_mem _ (List.mem_cons_of_mem _ (List.mem_cons_of_mem _ (List.mem_cons_of_mem _ (List.mem_cons_of_mem _ List.mem_cons_self))))) (zz_mc (List.mem_cons_of_mem _ (List.mem_cons_of_mem _ (List.mem_cons_of_mem _ (List.mem_cons_of_mem _ (List.mem_cons_of_mem _ (List.mem_cons_of_mem _ List.mem_cons_self)))))) zz_mn)))))
theorem zLc_18 {l : Launch} {D : va_G} {cy : Nat → ClassId} {z0 : Nat} {sp : Nat → Nat} {G : State → Prop} (H : zHy l D cy z0 sp G) {mn : String} {L n m : Nat} {xs : Nat → Int32} (hX : ∀ U, G U → va_T .int (sp 999999) L (fun j => .int (xs j)) (fun q : Nat => z0 ≤ q) U U.heap) (hL : L ≤ 2048) (hnm : n ≤ m) (hn4 : 4 * m + 4 ≤ L) {w : zz_W} (h : zIv zQI n 0 w) : ∃ w', zz_B l zTs D zcl zFK cy z0 sp (zTys cy) G "ToolMillLaw" mn 7 code 470 (39, zLv (Int32.ofNat (4 * m)), [.int (Int32.ofNat 18)], w) (899, zLv (Int32.ofNat (4 * m)), [], w') ∧ zIv zQI (n + 1) 0 w' := by
  have hn : n ≤ 511 := by omega
  have hL2 : L ≤ 2147483648 := by omega
  have h0 := zI_ic0 (zIv_I h)
  obtain ⟨k, w1, hH, h1⟩ := zHk_19 H hn h (xs (4 * m + 1))
  have h2 := zI_ic171 (zIv_I h1)
  obtain ⟨v, w2, hR, hI⟩ := zRm_43 H hn h1 (xs (4 * m + 1))
  obtain ⟨hG, hP, -, hsp0, -, -, -, -⟩ := H
  refine ⟨w2, ?_, hI⟩
  have b := zz_B_rf (l := l) (Ts := zTs) (D := D) (cl := zcl) (fk := zFK) (cy := cy) (z0 := z0) (sp := sp) (tys := zTys cy) (G := G) (own := "ToolMillLaw") (mn := mn) (nL := 7) (cc := code) (d := 470) ((39, [(4, .int (Int32.ofNat (4 * m))), (3, .ref 328), (2, .ref 171), (1, .ref 0), (0, .ref 1999999)], [.int (Int32.ofNat 18)], w) : zz_F)
  replace b := zz_fo b (zlw_39 (K := zz_k0) zz_k0_KS hsp0 hG hP) (ze_tsw_k (t := 747) (by decide) (by decide))
  replace b := zz_fo b (zlw_747 (K := zz_k0) zz_k0_KS hsp0 hG hP) (ze_aload rfl)
  replace b := zz_fo b (zlw_748 (K := zz_k0) zz_k0_KS hsp0 hG hP) (ze_aload rfl)
  replace b := zz_fo b (zlw_749 (K := zz_k0) zz_k0_KS hsp0 hG hP) (ze_iload rfl)
  replace b := zz_fo b (zlw_751 (K := zz_k0) zz_k0_KS hsp0 hG hP) ze_const
  replace b := zz_fo b (zlw_752 (K := zz_k0) zz_k0_KS hsp0 hG hP) (ze_iadd (zl_ij (4 * m) 1))
  replace b := zz_fo b (zlw_753 (K := zz_k0) hX hL2) (ze_kl (zl_kl xs (j := 4 * m + 1) (by omega) hL) (zz_nI_of _))
  replace b := zz_fo b (zlw_754 (K := zz_k0) zz_k0_KS hsp0 hG hP) (ze_aload rfl)
  replace b := zz_gH b (zlh_755 (rv := [.int k]) (r := []) hG hH rfl rfl (zz_lb rfl))
  replace b := zz_fo b (zlw_758 (K := zz_k0) zz_k0_KS hsp0 hG hP) (ze_istore (lv' := [(4, _), (3, _), (2, _), (1, _), (0, _)]) rfl)
  replace b := zz_fo b (zlw_760 (K := zz_k0) zz_k0_KS hsp0 hG hP) (ze_aload rfl)
  replace b := zz_fo b (zlw_761 (K := zz_k0) zz_k0_KS hsp0 hG hP) (ze_aload rfl)
  replace b := zz_fo b (zlw_762 (K := zz_k0) zz_k0_KS hsp0 hG hP) (ze_iload rfl)
  replace b := zz_fo b (zlw_764 (K := zz_k0) zz_k0_KS hsp0 hG hP) ze_const
  replace b := zz_fo b (zlw_765 (K := zz_k0) zz_k0_KS hsp0 hG hP) (ze_iadd (zl_ij (4 * m) 1))
  replace b := zz_fo b (zlw_766 (K := zz_k0) hX hL2) (ze_kl (zl_kl xs (j := 4 * m + 1) (by omega) hL) (zz_nI_of _))
  replace b := zz_gVi b (fun K h => zlw_767 h hsp0 hG hP) hR rfl rfl h2 (zz_lb rfl)
  replace b := zz_fo b (zlw_770 (K := zz_k0) zz_k0_KS hsp0 hG hP) (ze_istore (lv' := [(5, _), (4, _), (3, _), (2, _), (1, _), (0, _)]) rfl)
  replace b := zz_fo b (zlw_772 (K := zz_k0) zz_k0_KS hsp0 hG hP) ze_goto
  exact zz_fl (lv' := [(4, .int (Int32.ofNat (4 * m))), (3, .ref 328), (2, .ref 171), (1, .ref 0), (0, .ref 1999999)]) b (zz_mc (List.mem_cons_of_mem _ (List.mem_cons_of_mem _ List.mem_cons_self)) (zz_mc (List.mem_cons_of_mem _ (List.mem_cons_of_mem _ (List.mem_cons_of_mem _ List.mem_cons_self))) (zz_mc (List.mem_cons_of_mem _ (List.mem_cons_of_mem _ (List.mem_cons_of_mem _ (List.mem_cons_of_mem _ List.mem_cons_self)))) (zz_mc (List.mem_cons_of_mem _ (List.mem_cons_of_mem _ (List.mem_cons_of_mem _ (List.mem_cons_of_mem _ (List.mem_cons_of_mem _ List.mem_cons_self))))) (zz_mc (List.mem_cons_of_mem _ (List.mem_cons_of_mem _ (List.mem_cons_of_mem _ (List.mem_cons_of_mem _ (List.mem_cons_of_mem _ (List.mem_cons_of_mem _ List.mem_cons_self)))))) zz_mn)))))
theorem zLc_19 {l : Launch} {D : va_G} {cy : Nat → ClassId} {z0 : Nat} {sp : Nat → Nat} {G : State → Prop} (H : zHy l D cy z0 sp G) {mn : String} {L n m : Nat} {xs : Nat → Int32} (hX : ∀ U, G U → va_T .int (sp 999999) L (fun j => .int (xs j)) (fun q : Nat => z0 ≤ q) U U.heap) (hL : L ≤ 2048) (hnm : n ≤ m) (hn4 : 4 * m + 4 ≤ L) {w : zz_W} (h : zIv zQI n 0 w) : ∃ w', zz_B l zTs D zcl zFK cy z0 sp (zTys cy) G "ToolMillLaw" mn 7 code 470 (39, zLv (Int32.ofNat (4 * m)), [.int (Int32.ofNat 19)], w) (899, zLv (Int32.ofNat (4 * m)), [], w') ∧ zIv zQI (n + 1) 0 w' := by
  have hn : n ≤ 511 := by omega
  have hL2 : L ≤ 2147483648 := by omega
  have h0 := zI_ic0 (zIv_I h)
  obtain ⟨k, w1, hH, h1⟩ := zHk_20 H hn h (xs (4 * m + 1)) (xs (4 * m + 2))
  have h2 := zI_ic171 (zIv_I h1)
  obtain ⟨v, w2, hR, hI⟩ := zRm_44 H hn h1 (xs (4 * m + 1)) (xs (4 * m + 2))
  obtain ⟨hG, hP, -, hsp0, -, -, -, -⟩ := H
  refine ⟨w2, ?_, hI⟩
  have b := zz_B_rf (l := l) (Ts := zTs) (D := D) (cl := zcl) (fk := zFK) (cy := cy) (z0 := z0) (sp := sp) (tys := zTys cy) (G := G) (own := "ToolMillLaw") (mn := mn) (nL := 7) (cc := code) (d := 470) ((39, [(4, .int (Int32.ofNat (4 * m))), (3, .ref 328), (2, .ref 171), (1, .ref 0), (0, .ref 1999999)], [.int (Int32.ofNat 19)], w) : zz_F)
  replace b := zz_fo b (zlw_39 (K := zz_k0) zz_k0_KS hsp0 hG hP) (ze_tsw_k (t := 775) (by decide) (by decide))
  replace b := zz_fo b (zlw_775 (K := zz_k0) zz_k0_KS hsp0 hG hP) (ze_aload rfl)
  replace b := zz_fo b (zlw_776 (K := zz_k0) zz_k0_KS hsp0 hG hP) (ze_aload rfl)
  replace b := zz_fo b (zlw_777 (K := zz_k0) zz_k0_KS hsp0 hG hP) (ze_iload rfl)
  replace b := zz_fo b (zlw_779 (K := zz_k0) zz_k0_KS hsp0 hG hP) ze_const
  replace b := zz_fo b (zlw_780 (K := zz_k0) zz_k0_KS hsp0 hG hP) (ze_iadd (zl_ij (4 * m) 1))
  replace b := zz_fo b (zlw_781 (K := zz_k0) hX hL2) (ze_kl (zl_kl xs (j := 4 * m + 1) (by omega) hL) (zz_nI_of _))
  replace b := zz_fo b (zlw_782 (K := zz_k0) zz_k0_KS hsp0 hG hP) (ze_aload rfl)
  replace b := zz_fo b (zlw_783 (K := zz_k0) zz_k0_KS hsp0 hG hP) (ze_iload rfl)
  replace b := zz_fo b (zlw_785 (K := zz_k0) zz_k0_KS hsp0 hG hP) ze_const
  replace b := zz_fo b (zlw_786 (K := zz_k0) zz_k0_KS hsp0 hG hP) (ze_iadd (zl_ij (4 * m) 2))
  replace b := zz_fo b (zlw_787 (K := zz_k0) hX hL2) (ze_kl (zl_kl xs (j := 4 * m + 2) (by omega) hL) (zz_nI_of _))
  replace b := zz_fo b (zlw_788 (K := zz_k0) zz_k0_KS hsp0 hG hP) (ze_aload rfl)
  replace b := zz_gH b (zlh_789 (rv := [.int k]) (r := []) hG hH rfl rfl (zz_lb rfl))
  replace b := zz_fo b (zlw_792 (K := zz_k0) zz_k0_KS hsp0 hG hP) (ze_istore (lv' := [(4, _), (3, _), (2, _), (1, _), (0, _)]) rfl)
  replace b := zz_fo b (zlw_794 (K := zz_k0) zz_k0_KS hsp0 hG hP) (ze_aload rfl)
  replace b := zz_fo b (zlw_795 (K := zz_k0) zz_k0_KS hsp0 hG hP) (ze_aload rfl)
  replace b := zz_fo b (zlw_796 (K := zz_k0) zz_k0_KS hsp0 hG hP) (ze_iload rfl)
  replace b := zz_fo b (zlw_798 (K := zz_k0) zz_k0_KS hsp0 hG hP) ze_const
  replace b := zz_fo b (zlw_799 (K := zz_k0) zz_k0_KS hsp0 hG hP) (ze_iadd (zl_ij (4 * m) 1))
  replace b := zz_fo b (zlw_800 (K := zz_k0) hX hL2) (ze_kl (zl_kl xs (j := 4 * m + 1) (by omega) hL) (zz_nI_of _))
  replace b := zz_fo b (zlw_801 (K := zz_k0) zz_k0_KS hsp0 hG hP) (ze_aload rfl)
  replace b := zz_fo b (zlw_802 (K := zz_k0) zz_k0_KS hsp0 hG hP) (ze_iload rfl)
  replace b := zz_fo b (zlw_804 (K := zz_k0) zz_k0_KS hsp0 hG hP) ze_const
  replace b := zz_fo b (zlw_805 (K := zz_k0) zz_k0_KS hsp0 hG hP) (ze_iadd (zl_ij (4 * m) 2))
  replace b := zz_fo b (zlw_806 (K := zz_k0) hX hL2) (ze_kl (zl_kl xs (j := 4 * m + 2) (by omega) hL) (zz_nI_of _))
  replace b := zz_gVi b (fun K h => zlw_807 h hsp0 hG hP) hR rfl rfl h2 (zz_lb rfl)
  replace b := zz_fo b (zlw_810 (K := zz_k0) zz_k0_KS hsp0 hG hP) (ze_istore (lv' := [(5, _), (4, _), (3, _), (2, _), (1, _), (0, _)]) rfl)
  replace b := zz_fo b (zlw_812 (K := zz_k0) zz_k0_KS hsp0 hG hP) ze_goto
  exact zz_fl (lv' := [(4, .int (Int32.ofNat (4 * m))), (3, .ref 328), (2, .ref 171), (1, .ref 0), (0, .ref 1999999)]) b (zz_mc (List.mem_cons_of_mem _ (List.mem_cons_of_mem _ List.mem_cons_self)) (zz_mc (List.mem_cons_of_mem _ (List.mem_cons_of_mem _ (List.mem_cons_of_mem _ List.mem_cons_self))) (zz_mc (List.mem_cons_of_mem _ (List.mem_cons_of_mem _ (List.mem_cons_of_mem _ (List.mem_cons_of_mem _ List.mem_cons_self)))) (zz_mc (List.mem_cons_of_mem _ (List.mem_cons_of_mem _ (List.mem_cons_of_mem _ (List.mem_cons_of_mem _ (List.mem_cons_of_mem _ List.mem_cons_self))))) (zz_mc (List.mem_cons_of_mem _ (List.mem_cons_of_mem _ (List.mem_cons_of_mem _ (List.mem_cons_of_mem _ (List.mem_cons_of_mem _ (List.mem_cons_of_mem _ List.mem_cons_self)))))) zz_mn)))))
theorem zLc_20 {l : Launch} {D : va_G} {cy : Nat → ClassId} {z0 : Nat} {sp : Nat → Nat} {G : State → Prop} (H : zHy l D cy z0 sp G) {mn : String} {L n m : Nat} {xs : Nat → Int32} (hX : ∀ U, G U → va_T .int (sp 999999) L (fun j => .int (xs j)) (fun q : Nat => z0 ≤ q) U U.heap) (hL : L ≤ 2048) (hnm : n ≤ m) (hn4 : 4 * m + 4 ≤ L) {w : zz_W} (h : zIv zQI n 0 w) : ∃ w', zz_B l zTs D zcl zFK cy z0 sp (zTys cy) G "ToolMillLaw" mn 7 code 470 (39, zLv (Int32.ofNat (4 * m)), [.int (Int32.ofNat 20)], w) (899, zLv (Int32.ofNat (4 * m)), [], w') ∧ zIv zQI (n + 1) 0 w' := by
  have hn : n ≤ 511 := by omega
  have hL2 : L ≤ 2147483648 := by omega
  have h0 := zI_ic0 (zIv_I h)
  obtain ⟨k, w1, hH, h1⟩ := zHk_21 H hn h (xs (4 * m + 1))
  have h2 := zI_ic171 (zIv_I h1)
  obtain ⟨v, w2, hR, hI⟩ := zRm_45 H hn h1 (xs (4 * m + 1))
  obtain ⟨hG, hP, -, hsp0, -, -, -, -⟩ := H
  refine ⟨w2, ?_, hI⟩
  have b := zz_B_rf (l := l) (Ts := zTs) (D := D) (cl := zcl) (fk := zFK) (cy := cy) (z0 := z0) (sp := sp) (tys := zTys cy) (G := G) (own := "ToolMillLaw") (mn := mn) (nL := 7) (cc := code) (d := 470) ((39, [(4, .int (Int32.ofNat (4 * m))), (3, .ref 328), (2, .ref 171), (1, .ref 0), (0, .ref 1999999)], [.int (Int32.ofNat 20)], w) : zz_F)
  replace b := zz_fo b (zlw_39 (K := zz_k0) zz_k0_KS hsp0 hG hP) (ze_tsw_k (t := 815) (by decide) (by decide))
  replace b := zz_fo b (zlw_815 (K := zz_k0) zz_k0_KS hsp0 hG hP) (ze_aload rfl)
  replace b := zz_fo b (zlw_816 (K := zz_k0) zz_k0_KS hsp0 hG hP) (ze_aload rfl)
  replace b := zz_fo b (zlw_817 (K := zz_k0) zz_k0_KS hsp0 hG hP) (ze_iload rfl)
  replace b := zz_fo b (zlw_819 (K := zz_k0) zz_k0_KS hsp0 hG hP) ze_const
  replace b := zz_fo b (zlw_820 (K := zz_k0) zz_k0_KS hsp0 hG hP) (ze_iadd (zl_ij (4 * m) 1))
  replace b := zz_fo b (zlw_821 (K := zz_k0) hX hL2) (ze_kl (zl_kl xs (j := 4 * m + 1) (by omega) hL) (zz_nI_of _))
  replace b := zz_fo b (zlw_822 (K := zz_k0) zz_k0_KS hsp0 hG hP) (ze_aload rfl)
  replace b := zz_gH b (zlh_823 (rv := [.int k]) (r := []) hG hH rfl rfl (zz_lb rfl))
  replace b := zz_fo b (zlw_826 (K := zz_k0) zz_k0_KS hsp0 hG hP) (ze_istore (lv' := [(4, _), (3, _), (2, _), (1, _), (0, _)]) rfl)
  replace b := zz_fo b (zlw_828 (K := zz_k0) zz_k0_KS hsp0 hG hP) (ze_aload rfl)
  replace b := zz_fo b (zlw_829 (K := zz_k0) zz_k0_KS hsp0 hG hP) (ze_aload rfl)
  replace b := zz_fo b (zlw_830 (K := zz_k0) zz_k0_KS hsp0 hG hP) (ze_iload rfl)
  replace b := zz_fo b (zlw_832 (K := zz_k0) zz_k0_KS hsp0 hG hP) ze_const
  replace b := zz_fo b (zlw_833 (K := zz_k0) zz_k0_KS hsp0 hG hP) (ze_iadd (zl_ij (4 * m) 1))
  replace b := zz_fo b (zlw_834 (K := zz_k0) hX hL2) (ze_kl (zl_kl xs (j := 4 * m + 1) (by omega) hL) (zz_nI_of _))
  replace b := zz_gVi b (fun K h => zlw_835 h hsp0 hG hP) hR rfl rfl h2 (zz_lb rfl)
  replace b := zz_fo b (zlw_838 (K := zz_k0) zz_k0_KS hsp0 hG hP) (ze_istore (lv' := [(5, _), (4, _), (3, _), (2, _), (1, _), (0, _)]) rfl)
  replace b := zz_fo b (zlw_840 (K := zz_k0) zz_k0_KS hsp0 hG hP) ze_goto
  exact zz_fl (lv' := [(4, .int (Int32.ofNat (4 * m))), (3, .ref 328), (2, .ref 171), (1, .ref 0), (0, .ref 1999999)]) b (zz_mc (List.mem_cons_of_mem _ (List.mem_cons_of_mem _ List.mem_cons_self)) (zz_mc (List.mem_cons_of_mem _ (List.mem_cons_of_mem _ (List.mem_cons_of_mem _ List.mem_cons_self))) (zz_mc (List.mem_cons_of_mem _ (List.mem_cons_of_mem _ (List.mem_cons_of_mem _ (List.mem_cons_of_mem _ List.mem_cons_self)))) (zz_mc (List.mem_cons_of_mem _ (List.mem_cons_of_mem _ (List.mem_cons_of_mem _ (List.mem_cons_of_mem _ (List.mem_cons_of_mem _ List.mem_cons_self))))) (zz_mc (List.mem_cons_of_mem _ (List.mem_cons_of_mem _ (List.mem_cons_of_mem _ (List.mem_cons_of_mem _ (List.mem_cons_of_mem _ (List.mem_cons_of_mem _ List.mem_cons_self)))))) zz_mn)))))
theorem zLc_21 {l : Launch} {D : va_G} {cy : Nat → ClassId} {z0 : Nat} {sp : Nat → Nat} {G : State → Prop} (H : zHy l D cy z0 sp G) {mn : String} {L n m : Nat} {xs : Nat → Int32} (hX : ∀ U, G U → va_T .int (sp 999999) L (fun j => .int (xs j)) (fun q : Nat => z0 ≤ q) U U.heap) (hL : L ≤ 2048) (hnm : n ≤ m) (hn4 : 4 * m + 4 ≤ L) {w : zz_W} (h : zIv zQI n 0 w) : ∃ w', zz_B l zTs D zcl zFK cy z0 sp (zTys cy) G "ToolMillLaw" mn 7 code 470 (39, zLv (Int32.ofNat (4 * m)), [.int (Int32.ofNat 21)], w) (899, zLv (Int32.ofNat (4 * m)), [], w') ∧ zIv zQI (n + 1) 0 w' := by
  have hn : n ≤ 511 := by omega
  have hL2 : L ≤ 2147483648 := by omega
  have h0 := zI_ic0 (zIv_I h)
  obtain ⟨k, w1, hH, h1⟩ := zHk_22 H hn h (xs (4 * m + 1))
  have h2 := zI_ic171 (zIv_I h1)
  obtain ⟨v, w2, hR, hI⟩ := zRm_46 H hn h1 (xs (4 * m + 1))
  obtain ⟨hG, hP, -, hsp0, -, -, -, -⟩ := H
  refine ⟨w2, ?_, hI⟩
  have b := zz_B_rf (l := l) (Ts := zTs) (D := D) (cl := zcl) (fk := zFK) (cy := cy) (z0 := z0) (sp := sp) (tys := zTys cy) (G := G) (own := "ToolMillLaw") (mn := mn) (nL := 7) (cc := code) (d := 470) ((39, [(4, .int (Int32.ofNat (4 * m))), (3, .ref 328), (2, .ref 171), (1, .ref 0), (0, .ref 1999999)], [.int (Int32.ofNat 21)], w) : zz_F)
  replace b := zz_fo b (zlw_39 (K := zz_k0) zz_k0_KS hsp0 hG hP) (ze_tsw_k (t := 843) (by decide) (by decide))
  replace b := zz_fo b (zlw_843 (K := zz_k0) zz_k0_KS hsp0 hG hP) (ze_aload rfl)
  replace b := zz_fo b (zlw_844 (K := zz_k0) zz_k0_KS hsp0 hG hP) (ze_aload rfl)
  replace b := zz_fo b (zlw_845 (K := zz_k0) zz_k0_KS hsp0 hG hP) (ze_iload rfl)
  replace b := zz_fo b (zlw_847 (K := zz_k0) zz_k0_KS hsp0 hG hP) ze_const
  replace b := zz_fo b (zlw_848 (K := zz_k0) zz_k0_KS hsp0 hG hP) (ze_iadd (zl_ij (4 * m) 1))
  replace b := zz_fo b (zlw_849 (K := zz_k0) hX hL2) (ze_kl (zl_kl xs (j := 4 * m + 1) (by omega) hL) (zz_nI_of _))
  replace b := zz_fo b (zlw_850 (K := zz_k0) zz_k0_KS hsp0 hG hP) (ze_aload rfl)
  replace b := zz_gH b (zlh_851 (rv := [.int k]) (r := []) hG hH rfl rfl (zz_lb rfl))
  replace b := zz_fo b (zlw_854 (K := zz_k0) zz_k0_KS hsp0 hG hP) (ze_istore (lv' := [(4, _), (3, _), (2, _), (1, _), (0, _)]) rfl)
  replace b := zz_fo b (zlw_856 (K := zz_k0) zz_k0_KS hsp0 hG hP) (ze_aload rfl)
  replace b := zz_fo b (zlw_857 (K := zz_k0) zz_k0_KS hsp0 hG hP) (ze_aload rfl)
  replace b := zz_fo b (zlw_858 (K := zz_k0) zz_k0_KS hsp0 hG hP) (ze_iload rfl)
  replace b := zz_fo b (zlw_860 (K := zz_k0) zz_k0_KS hsp0 hG hP) ze_const
  replace b := zz_fo b (zlw_861 (K := zz_k0) zz_k0_KS hsp0 hG hP) (ze_iadd (zl_ij (4 * m) 1))
  replace b := zz_fo b (zlw_862 (K := zz_k0) hX hL2) (ze_kl (zl_kl xs (j := 4 * m + 1) (by omega) hL) (zz_nI_of _))
  replace b := zz_gVi b (fun K h => zlw_863 h hsp0 hG hP) hR rfl rfl h2 (zz_lb rfl)
  replace b := zz_fo b (zlw_866 (K := zz_k0) zz_k0_KS hsp0 hG hP) (ze_istore (lv' := [(5, _), (4, _), (3, _), (2, _), (1, _), (0, _)]) rfl)
  replace b := zz_fo b (zlw_868 (K := zz_k0) zz_k0_KS hsp0 hG hP) ze_goto
  exact zz_fl (lv' := [(4, .int (Int32.ofNat (4 * m))), (3, .ref 328), (2, .ref 171), (1, .ref 0), (0, .ref 1999999)]) b (zz_mc (List.mem_cons_of_mem _ (List.mem_cons_of_mem _ List.mem_cons_self)) (zz_mc (List.mem_cons_of_mem _ (List.mem_cons_of_mem _ (List.mem_cons_of_mem _ List.mem_cons_self))) (zz_mc (List.mem_cons_of_mem _ (List.mem_cons_of_mem _ (List.mem_cons_of_mem _ (List.mem_cons_of_mem _ List.mem_cons_self)))) (zz_mc (List.mem_cons_of_mem _ (List.mem_cons_of_mem _ (List.mem_cons_of_mem _ (List.mem_cons_of_mem _ (List.mem_cons_of_mem _ List.mem_cons_self))))) (zz_mc (List.mem_cons_of_mem _ (List.mem_cons_of_mem _ (List.mem_cons_of_mem _ (List.mem_cons_of_mem _ (List.mem_cons_of_mem _ (List.mem_cons_of_mem _ List.mem_cons_self)))))) zz_mn)))))
theorem zLc_22 {l : Launch} {D : va_G} {cy : Nat → ClassId} {z0 : Nat} {sp : Nat → Nat} {G : State → Prop} (H : zHy l D cy z0 sp G) {mn : String} {L n m : Nat} {xs : Nat → Int32} (hX : ∀ U, G U → va_T .int (sp 999999) L (fun j => .int (xs j)) (fun q : Nat => z0 ≤ q) U U.heap) (hL : L ≤ 2048) (hnm : n ≤ m) (hn4 : 4 * m + 4 ≤ L) {w : zz_W} (h : zIv zQI n 0 w) : ∃ w', zz_B l zTs D zcl zFK cy z0 sp (zTys cy) G "ToolMillLaw" mn 7 code 470 (39, zLv (Int32.ofNat (4 * m)), [.int (Int32.ofNat 22)], w) (899, zLv (Int32.ofNat (4 * m)), [], w') ∧ zIv zQI (n + 1) 0 w' := by
  have hn : n ≤ 511 := by omega
  have hL2 : L ≤ 2147483648 := by omega
  have h0 := zI_ic0 (zIv_I h)
  obtain ⟨k, w1, hH, h1⟩ := zHk_23 H hn h (xs (4 * m + 1))
  have h2 := zI_ic171 (zIv_I h1)
  obtain ⟨v, w2, hR, hI⟩ := zRm_47 H hn h1 (xs (4 * m + 1))
  obtain ⟨hG, hP, -, hsp0, -, -, -, -⟩ := H
  refine ⟨w2, ?_, hI⟩
  have b := zz_B_rf (l := l) (Ts := zTs) (D := D) (cl := zcl) (fk := zFK) (cy := cy) (z0 := z0) (sp := sp) (tys := zTys cy) (G := G) (own := "ToolMillLaw") (mn := mn) (nL := 7) (cc := code) (d := 470) ((39, [(4, .int (Int32.ofNat (4 * m))), (3, .ref 328), (2, .ref 171), (1, .ref 0), (0, .ref 1999999)], [.int (Int32.ofNat 22)], w) : zz_F)
  replace b := zz_fo b (zlw_39 (K := zz_k0) zz_k0_KS hsp0 hG hP) (ze_tsw_k (t := 871) (by decide) (by decide))
  replace b := zz_fo b (zlw_871 (K := zz_k0) zz_k0_KS hsp0 hG hP) (ze_aload rfl)
  replace b := zz_fo b (zlw_872 (K := zz_k0) zz_k0_KS hsp0 hG hP) (ze_aload rfl)
  replace b := zz_fo b (zlw_873 (K := zz_k0) zz_k0_KS hsp0 hG hP) (ze_iload rfl)
  replace b := zz_fo b (zlw_875 (K := zz_k0) zz_k0_KS hsp0 hG hP) ze_const
  replace b := zz_fo b (zlw_876 (K := zz_k0) zz_k0_KS hsp0 hG hP) (ze_iadd (zl_ij (4 * m) 1))
  replace b := zz_fo b (zlw_877 (K := zz_k0) hX hL2) (ze_kl (zl_kl xs (j := 4 * m + 1) (by omega) hL) (zz_nI_of _))
  replace b := zz_fo b (zlw_878 (K := zz_k0) zz_k0_KS hsp0 hG hP) (ze_aload rfl)
  replace b := zz_gH b (zlh_879 (rv := [.int k]) (r := []) hG hH rfl rfl (zz_lb rfl))
  replace b := zz_fo b (zlw_882 (K := zz_k0) zz_k0_KS hsp0 hG hP) (ze_istore (lv' := [(4, _), (3, _), (2, _), (1, _), (0, _)]) rfl)
  replace b := zz_fo b (zlw_884 (K := zz_k0) zz_k0_KS hsp0 hG hP) (ze_aload rfl)
  replace b := zz_fo b (zlw_885 (K := zz_k0) zz_k0_KS hsp0 hG hP) (ze_aload rfl)
  replace b := zz_fo b (zlw_886 (K := zz_k0) zz_k0_KS hsp0 hG hP) (ze_iload rfl)
  replace b := zz_fo b (zlw_888 (K := zz_k0) zz_k0_KS hsp0 hG hP) ze_const
  replace b := zz_fo b (zlw_889 (K := zz_k0) zz_k0_KS hsp0 hG hP) (ze_iadd (zl_ij (4 * m) 1))
  replace b := zz_fo b (zlw_890 (K := zz_k0) hX hL2) (ze_kl (zl_kl xs (j := 4 * m + 1) (by omega) hL) (zz_nI_of _))
  replace b := zz_gVi b (fun K h => zlw_891 h hsp0 hG hP) hR rfl rfl h2 (zz_lb rfl)
  replace b := zz_fo b (zlw_894 (K := zz_k0) zz_k0_KS hsp0 hG hP) (ze_istore (lv' := [(5, _), (4, _), (3, _), (2, _), (1, _), (0, _)]) rfl)
  replace b := zz_fo b (zlw_896 (K := zz_k0) zz_k0_KS hsp0 hG hP) ze_goto
  exact zz_fl (lv' := [(4, .int (Int32.ofNat (4 * m))), (3, .ref 328), (2, .ref 171), (1, .ref 0), (0, .ref 1999999)]) b (zz_mc (List.mem_cons_of_mem _ (List.mem_cons_of_mem _ List.mem_cons_self)) (zz_mc (List.mem_cons_of_mem _ (List.mem_cons_of_mem _ (List.mem_cons_of_mem _ List.mem_cons_self))) (zz_mc (List.mem_cons_of_mem _ (List.mem_cons_of_mem _ (List.mem_cons_of_mem _ (List.mem_cons_of_mem _ List.mem_cons_self)))) (zz_mc (List.mem_cons_of_mem _ (List.mem_cons_of_mem _ (List.mem_cons_of_mem _ (List.mem_cons_of_mem _ (List.mem_cons_of_mem _ List.mem_cons_self))))) (zz_mc (List.mem_cons_of_mem _ (List.mem_cons_of_mem _ (List.mem_cons_of_mem _ (List.mem_cons_of_mem _ (List.mem_cons_of_mem _ (List.mem_cons_of_mem _ List.mem_cons_self)))))) zz_mn)))))
