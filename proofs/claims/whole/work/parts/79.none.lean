/-! THE LAW AT A WORD THAT IS NO CALL; a script of four ints that is none -/
theorem zLaw_next {l : Launch} {D : va_G} {cy : Nat → ClassId} {z0 : Nat} {sp : Nat → Nat} {G : State → Prop} {mn : String} {d : Nat} {K : zz_K} (hKS : zz_KS l D zcl zFK cy z0 sp (zTys cy) G zYN (fun y => Cond.code (zYN y) (zCN y) (zMQ y) (zRT y) :: zTs) d K) (hG : zz_GF z0 G) (hP : ∀ U, G U → zz_GD zS zS2 zLg z0 sp U) {i x : Int32} {w : zz_W} (h : x.toInt < 0 ∨ 22 < x.toInt) : zz_B l zTs D zcl zFK cy z0 sp (zTys cy) G "ToolMillLaw" mn 7 code d (39, zLv i, [.int x], w) (23, zLv (i + Int32.ofNat 4), [], w) := by
  have b0 : zz_B l zTs D zcl zFK cy z0 sp (zTys cy) G "ToolMillLaw" mn 7 code d (39, zLv i, [.int x], w) (1487, zLv i, [], w) := zz_O_B (zlw_39 hKS hG hP) rfl (by
    show (if x.toInt < 0 ∨ 22 < x.toInt then some ((1487, zLv i, [], w) : zz_F) else _) = _
    rw [if_pos h])
  have b1 : zz_B l zTs D zcl zFK cy z0 sp (zTys cy) G "ToolMillLaw" mn 7 code d (1487, zLv i, [], w) (1490, zLv (i + Int32.ofNat 4), [], w) := zz_O_B (zlw_1487 hKS hG hP) rfl (by
    show zz_fI (i + Int32.ofNat 4) (fun z => zz_lf false 4 (zLv i) (fun l => some ((1490, (4, Value.int z) :: l, [], w) : zz_F))) = _
    rw [zz_fI_eq, zz_lf_eq]
    rfl)
  have b2 : zz_B l zTs D zcl zFK cy z0 sp (zTys cy) G "ToolMillLaw" mn 7 code d (1490, zLv (i + Int32.ofNat 4), [], w) (23, zLv (i + Int32.ofNat 4), [], w) := zz_O_B (zlw_1490 hKS hG hP) rfl rfl
  exact zz_B_tr b0 (zz_B_tr b1 b2)
theorem zLaw_none {l : Launch} {D : va_G} {cy : Nat → ClassId} {z0 : Nat} {sp : Nat → Nat} {G : State → Prop} {mn : String} {d : Nat} {K : zz_K} {L : Nat} {xs : Nat → Int32} (hKS : zz_KS l D zcl zFK cy z0 sp (zTys cy) G zYN (fun y => Cond.code (zYN y) (zCN y) (zMQ y) (zRT y) :: zTs) d K) (hG : zz_GF z0 G) (hP : ∀ U, G U → zz_GD zS zS2 zLg z0 sp U) (hX : ∀ U, G U → va_T .int (sp 999999) L (fun j => .int (xs j)) (fun q : Nat => z0 ≤ q) U U.heap) (h4 : L = 4) (hn : (xs 0 &&& Int32.ofNat 31).toInt < 0 ∨ 22 < (xs 0 &&& Int32.ofNat 31).toInt) {w : zz_W} : zz_B l zTs D zcl zFK cy z0 sp (zTys cy) G "ToolMillLaw" mn 7 code d (23, zLv (Int32.ofNat 0), [], w) (1494, zLv (Int32.ofNat 0 + Int32.ofNat 4), [.int (Int32.ofNat 1)], w) := by
  subst h4
  refine zz_B_tr (zLaw_in (i := Int32.ofNat 0) hKS hG hP hX (by decide) (by decide) (by decide)) (zz_B_tr (zLaw_next (x := xs (zz_nI (Int32.ofNat 0)) &&& Int32.ofNat 31) hKS hG hP hn) (zLaw_out (L := 4) (xs := xs) hKS hG hP hX (by decide)))
