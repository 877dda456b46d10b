/-! forget() on the fresh objects -/
set_option maxRecDepth 100000 in
theorem zLaw_forget {l : Launch} {D : va_G} {cy : Nat → ClassId} {z0 : Nat} {sp : Nat → Nat} {G : State → Prop} {mn : String} {d : Nat} {K : zz_K} (hKS : zz_KS l D zcl zFK cy z0 sp (zTys cy) G zYN (fun y => Cond.code (zYN y) (zCN y) (zMQ y) (zRT y) :: zTs) d K) (hG : zz_GF z0 G) (hP : ∀ U, G U → zz_GD zS zS2 zLg z0 sp U) {i : Int32} (h1 : K 2 [.ref 0] zW3 = some ([], zW4)) (h2 : K 3 [.ref 171] zW4 = some ([], zW5)) : zz_B l zTs D zcl zFK cy z0 sp (zTys cy) G "ToolMillLaw" mn 7 code d (324, zLv i, [], zW3) (1487, zLv i, [], zW5) := by
  have b0 : zz_B l zTs D zcl zFK cy z0 sp (zTys cy) G "ToolMillLaw" mn 7 code d (324, zLv i, [], zW3) (325, zLv i, [.ref 0], zW3) := zz_O_B (zlw_324 hKS hG hP) rfl rfl
  have b1 : zz_B l zTs D zcl zFK cy z0 sp (zTys cy) G "ToolMillLaw" mn 7 code d (325, zLv i, [.ref 0], zW3) (328, zLv i, [], zW4) := zz_O_B (zlw_325 hKS hG hP) rfl ((show (za_callV 1 2 0 328) K (325, zLv i, [.ref 0], zW3) = zz_cr 328 (zLv i) [] (K 2 [.ref 0] zW3) from rfl).trans (by rw [h1]; rfl))
  have b2 : zz_B l zTs D zcl zFK cy z0 sp (zTys cy) G "ToolMillLaw" mn 7 code d (328, zLv i, [], zW4) (329, zLv i, [.ref 171], zW4) := zz_O_B (zlw_328 hKS hG hP) rfl rfl
  have b3 : zz_B l zTs D zcl zFK cy z0 sp (zTys cy) G "ToolMillLaw" mn 7 code d (329, zLv i, [.ref 171], zW4) (332, zLv i, [], zW5) := zz_O_B (zlw_329 hKS hG hP) rfl ((show (za_callV 0 3 0 332) K (329, zLv i, [.ref 171], zW4) = zz_cr 332 (zLv i) [] (K 3 [.ref 171] zW4) from rfl).trans (by rw [h2]; rfl))
  have b4 : zz_B l zTs D zcl zFK cy z0 sp (zTys cy) G "ToolMillLaw" mn 7 code d (332, zLv i, [], zW5) (1487, zLv i, [], zW5) := zz_O_B (zlw_332 hKS hG hP) rfl rfl
  exact zz_B_tr b0 (zz_B_tr b1 (zz_B_tr b2 (zz_B_tr b3 b4)))
