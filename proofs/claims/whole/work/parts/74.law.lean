/-! the law, from its entry to its loop: both objects made, by program -/
theorem zd_900_0 : decode code 0 = .ok (.new 8, 3) := by decide +kernel
theorem zlw_0 {l : Launch} {D : va_G} {cy : Nat → ClassId} {z0 : Nat} {sp : Nat → Nat} {G : State → Prop} {mn : String} {d : Nat} {K : zz_K} (hKS : zz_KS l D zcl zFK cy z0 sp (zTys cy) G zYN (fun y => Cond.code (zYN y) (zCN y) (zMQ y) (zRT y) :: zTs) d K) (hG : zz_GF z0 G) (hP : ∀ U, G U → zz_GD zS zS2 zLg z0 sp U) : zz_O l zTs D zcl zFK cy z0 sp (zTys cy) G "ToolMillLaw" mn 7 code d K 0 (za_new 1 17 3) := zo_new zd_900_0 rfl zU_1 zYk_1 zDf_1 zw_763 zw_764 zw_765
theorem zd_900_3 : decode code 3 = .ok (.dup, 1) := by decide +kernel
theorem zlw_3 {l : Launch} {D : va_G} {cy : Nat → ClassId} {z0 : Nat} {sp : Nat → Nat} {G : State → Prop} {mn : String} {d : Nat} {K : zz_K} (hKS : zz_KS l D zcl zFK cy z0 sp (zTys cy) G zYN (fun y => Cond.code (zYN y) (zCN y) (zMQ y) (zRT y) :: zTs) d K) (hG : zz_GF z0 G) (hP : ∀ U, G U → zz_GD zS zS2 zLg z0 sp U) : zz_O l zTs D zcl zFK cy z0 sp (zTys cy) G "ToolMillLaw" mn 7 code d K 3 (za_dup 4) := zo_dup zd_900_3
theorem zd_900_4 : decode code 4 = .ok (.invokespecial 90, 3) := by decide +kernel
theorem zlw_4 {l : Launch} {D : va_G} {cy : Nat → ClassId} {z0 : Nat} {sp : Nat → Nat} {G : State → Prop} {mn : String} {d : Nat} {K : zz_K} (hKS : zz_KS l D zcl zFK cy z0 sp (zTys cy) G zYN (fun y => Cond.code (zYN y) (zCN y) (zMQ y) (zRT y) :: zTs) d K) (hG : zz_GF z0 G) (hP : ∀ U, G U → zz_GD zS zS2 zLg z0 sp U) : zz_O l zTs D zcl zFK cy z0 sp (zTys cy) G "ToolMillLaw" mn 7 code d K 4 (za_callV 1 0 0 7) := zcI_0_1 hKS hG zd_900_4 zw_766
theorem zd_900_7 : decode code 7 = .ok (.astore_n 1, 1) := by decide +kernel
theorem zlw_7 {l : Launch} {D : va_G} {cy : Nat → ClassId} {z0 : Nat} {sp : Nat → Nat} {G : State → Prop} {mn : String} {d : Nat} {K : zz_K} (hKS : zz_KS l D zcl zFK cy z0 sp (zTys cy) G zYN (fun y => Cond.code (zYN y) (zCN y) (zMQ y) (zRT y) :: zTs) d K) (hG : zz_GF z0 G) (hP : ∀ U, G U → zz_GD zS zS2 zLg z0 sp U) : zz_O l zTs D zcl zFK cy z0 sp (zTys cy) G "ToolMillLaw" mn 7 code d K 7 (za_astore 1 8) := zo_astore_n zd_900_7 rfl (by decide)
theorem zd_900_8 : decode code 8 = .ok (.new 91, 3) := by decide +kernel
theorem zlw_8 {l : Launch} {D : va_G} {cy : Nat → ClassId} {z0 : Nat} {sp : Nat → Nat} {G : State → Prop} {mn : String} {d : Nat} {K : zz_K} (hKS : zz_KS l D zcl zFK cy z0 sp (zTys cy) G zYN (fun y => Cond.code (zYN y) (zCN y) (zMQ y) (zRT y) :: zTs) d K) (hG : zz_GF z0 G) (hP : ∀ U, G U → zz_GD zS zS2 zLg z0 sp U) : zz_O l zTs D zcl zFK cy z0 sp (zTys cy) G "ToolMillLaw" mn 7 code d K 8 (za_new 0 243 11) := zo_new zd_900_8 rfl zU_0 zYk_0 zDf_0 zw_767 zw_768 zw_769
theorem zd_900_11 : decode code 11 = .ok (.dup, 1) := by decide +kernel
theorem zlw_11 {l : Launch} {D : va_G} {cy : Nat → ClassId} {z0 : Nat} {sp : Nat → Nat} {G : State → Prop} {mn : String} {d : Nat} {K : zz_K} (hKS : zz_KS l D zcl zFK cy z0 sp (zTys cy) G zYN (fun y => Cond.code (zYN y) (zCN y) (zMQ y) (zRT y) :: zTs) d K) (hG : zz_GF z0 G) (hP : ∀ U, G U → zz_GD zS zS2 zLg z0 sp U) : zz_O l zTs D zcl zFK cy z0 sp (zTys cy) G "ToolMillLaw" mn 7 code d K 11 (za_dup 12) := zo_dup zd_900_11
theorem zd_900_12 : decode code 12 = .ok (.invokespecial 93, 3) := by decide +kernel
theorem zlw_12 {l : Launch} {D : va_G} {cy : Nat → ClassId} {z0 : Nat} {sp : Nat → Nat} {G : State → Prop} {mn : String} {d : Nat} {K : zz_K} (hKS : zz_KS l D zcl zFK cy z0 sp (zTys cy) G zYN (fun y => Cond.code (zYN y) (zCN y) (zMQ y) (zRT y) :: zTs) d K) (hG : zz_GF z0 G) (hP : ∀ U, G U → zz_GD zS zS2 zLg z0 sp U) : zz_O l zTs D zcl zFK cy z0 sp (zTys cy) G "ToolMillLaw" mn 7 code d K 12 (za_callV 0 1 0 15) := zcI_1_0 hKS hG zd_900_12 zw_770
theorem zd_900_15 : decode code 15 = .ok (.astore_n 2, 1) := by decide +kernel
theorem zlw_15 {l : Launch} {D : va_G} {cy : Nat → ClassId} {z0 : Nat} {sp : Nat → Nat} {G : State → Prop} {mn : String} {d : Nat} {K : zz_K} (hKS : zz_KS l D zcl zFK cy z0 sp (zTys cy) G zYN (fun y => Cond.code (zYN y) (zCN y) (zMQ y) (zRT y) :: zTs) d K) (hG : zz_GF z0 G) (hP : ∀ U, G U → zz_GD zS zS2 zLg z0 sp U) : zz_O l zTs D zcl zFK cy z0 sp (zTys cy) G "ToolMillLaw" mn 7 code d K 15 (za_astore 2 16) := zo_astore_n zd_900_15 rfl (by decide)
theorem zd_900_16 : decode code 16 = .ok (.iconst 1, 1) := by decide +kernel
theorem zlw_16 {l : Launch} {D : va_G} {cy : Nat → ClassId} {z0 : Nat} {sp : Nat → Nat} {G : State → Prop} {mn : String} {d : Nat} {K : zz_K} (hKS : zz_KS l D zcl zFK cy z0 sp (zTys cy) G zYN (fun y => Cond.code (zYN y) (zCN y) (zMQ y) (zRT y) :: zTs) d K) (hG : zz_GF z0 G) (hP : ∀ U, G U → zz_GD zS zS2 zLg z0 sp U) : zz_O l zTs D zcl zFK cy z0 sp (zTys cy) G "ToolMillLaw" mn 7 code d K 16 (za_const (.int (Int32.ofNat 1)) 17) := zo_iconst zd_900_16 (by decide)
theorem zd_900_17 : decode code 17 = .ok (.newarray .long, 2) := by decide +kernel
theorem zlw_17 {l : Launch} {D : va_G} {cy : Nat → ClassId} {z0 : Nat} {sp : Nat → Nat} {G : State → Prop} {mn : String} {d : Nat} {K : zz_K} (hKS : zz_KS l D zcl zFK cy z0 sp (zTys cy) G zYN (fun y => Cond.code (zYN y) (zCN y) (zMQ y) (zRT y) :: zTs) d K) (hG : zz_GF z0 G) (hP : ∀ U, G U → zz_GD zS zS2 zLg z0 sp U) : zz_O l zTs D zcl zFK cy z0 sp (zTys cy) G "ToolMillLaw" mn 7 code d K 17 (za_newa 1 3 19) := zo_newL zd_900_17 zw_58 rfl
theorem zd_900_19 : decode code 19 = .ok (.astore_n 3, 1) := by decide +kernel
theorem zlw_19 {l : Launch} {D : va_G} {cy : Nat → ClassId} {z0 : Nat} {sp : Nat → Nat} {G : State → Prop} {mn : String} {d : Nat} {K : zz_K} (hKS : zz_KS l D zcl zFK cy z0 sp (zTys cy) G zYN (fun y => Cond.code (zYN y) (zCN y) (zMQ y) (zRT y) :: zTs) d K) (hG : zz_GF z0 G) (hP : ∀ U, G U → zz_GD zS zS2 zLg z0 sp U) : zz_O l zTs D zcl zFK cy z0 sp (zTys cy) G "ToolMillLaw" mn 7 code d K 19 (za_astore 3 20) := zo_astore_n zd_900_19 rfl (by decide)
theorem zd_900_20 : decode code 20 = .ok (.iconst 0, 1) := by decide +kernel
theorem zlw_20 {l : Launch} {D : va_G} {cy : Nat → ClassId} {z0 : Nat} {sp : Nat → Nat} {G : State → Prop} {mn : String} {d : Nat} {K : zz_K} (hKS : zz_KS l D zcl zFK cy z0 sp (zTys cy) G zYN (fun y => Cond.code (zYN y) (zCN y) (zMQ y) (zRT y) :: zTs) d K) (hG : zz_GF z0 G) (hP : ∀ U, G U → zz_GD zS zS2 zLg z0 sp U) : zz_O l zTs D zcl zFK cy z0 sp (zTys cy) G "ToolMillLaw" mn 7 code d K 20 (za_const (.int (Int32.ofNat 0)) 21) := zo_iconst zd_900_20 (by decide)
theorem zd_900_21 : decode code 21 = .ok (.istore 4, 2) := by decide +kernel
theorem zlw_21 {l : Launch} {D : va_G} {cy : Nat → ClassId} {z0 : Nat} {sp : Nat → Nat} {G : State → Prop} {mn : String} {d : Nat} {K : zz_K} (hKS : zz_KS l D zcl zFK cy z0 sp (zTys cy) G zYN (fun y => Cond.code (zYN y) (zCN y) (zMQ y) (zRT y) :: zTs) d K) (hG : zz_GF z0 G) (hP : ∀ U, G U → zz_GD zS zS2 zLg z0 sp U) : zz_O l zTs D zcl zFK cy z0 sp (zTys cy) G "ToolMillLaw" mn 7 code d K 21 (za_istore 4 23) := zo_istore zd_900_21 (by decide)
noncomputable def zW00 : zz_W := (0, 0, [zz_ch0, zz_ch0, zz_ch0, zz_ch0, zz_ch0, zz_ch0, zz_ch0, zz_ch0, zz_ch0, zz_ch0, zz_ch0, zz_ch0, zz_ch0, zz_ch0, zz_ch0, zz_ch0, zz_ch0, zz_ch0, zz_ch0, zz_ch0, zz_ch0, zz_ch0, zz_ch0])
noncomputable def zF_0 : zz_F := (0, [(0, .ref 1999999)], [], zW00)
noncomputable def zF_1 : zz_F := (3, [(0, .ref 1999999)], [(.ref 0 : Value)], zWa)
noncomputable def zF_2 : zz_F := (4, [(0, .ref 1999999)], [(.ref 0 : Value), (.ref 0 : Value)], zWa)
noncomputable def zF_3 : zz_F := (7, [(0, .ref 1999999)], [(.ref 0 : Value)], zW1)
noncomputable def zF_4 : zz_F := (8, [(1, .ref 0), (0, .ref 1999999)], [], zW1)
noncomputable def zF_5 : zz_F := (11, [(1, .ref 0), (0, .ref 1999999)], [(.ref 171 : Value)], zWb)
noncomputable def zF_6 : zz_F := (12, [(1, .ref 0), (0, .ref 1999999)], [(.ref 171 : Value), (.ref 171 : Value)], zWb)
noncomputable def zF_7 : zz_F := (15, [(1, .ref 0), (0, .ref 1999999)], [(.ref 171 : Value)], zW2)
noncomputable def zF_8 : zz_F := (16, [(2, .ref 171), (1, .ref 0), (0, .ref 1999999)], [], zW2)
noncomputable def zF_9 : zz_F := (17, [(2, .ref 171), (1, .ref 0), (0, .ref 1999999)], [(.int (Int32.ofNat 1) : Value)], zW2)
noncomputable def zF_10 : zz_F := (19, [(2, .ref 171), (1, .ref 0), (0, .ref 1999999)], [(.ref 328 : Value)], zW3)
noncomputable def zF_11 : zz_F := (20, [(3, .ref 328), (2, .ref 171), (1, .ref 0), (0, .ref 1999999)], [], zW3)
noncomputable def zF_12 : zz_F := (21, [(3, .ref 328), (2, .ref 171), (1, .ref 0), (0, .ref 1999999)], [(.int (Int32.ofNat 0) : Value)], zW3)
noncomputable def zF_13 : zz_F := (23, [(4, .int (Int32.ofNat 0)), (3, .ref 328), (2, .ref 171), (1, .ref 0), (0, .ref 1999999)], [], zW3)
theorem zLaw_pre {l : Launch} {D : va_G} {cy : Nat → ClassId} {z0 : Nat} {sp : Nat → Nat} {G : State → Prop} {mn : String} {d : Nat} {K : zz_K} (hKS : zz_KS l D zcl zFK cy z0 sp (zTys cy) G zYN (fun y => Cond.code (zYN y) (zCN y) (zMQ y) (zRT y) :: zTs) d K) (hG : zz_GF z0 G) (hP : ∀ U, G U → zz_GD zS zS2 zLg z0 sp U) (h1 : K 0 [.ref 0] zWa = some ([], zW1)) (h2 : K 1 [.ref 171] zWb = some ([], zW2)) : zz_B l zTs D zcl zFK cy z0 sp (zTys cy) G "ToolMillLaw" mn 7 code d zF_0 zF_13 := by
  have b0 : zz_B l zTs D zcl zFK cy z0 sp (zTys cy) G "ToolMillLaw" mn 7 code d zF_0 zF_1 := zz_O_B (zlw_0 hKS hG hP) rfl rfl
  have b1 : zz_B l zTs D zcl zFK cy z0 sp (zTys cy) G "ToolMillLaw" mn 7 code d zF_1 zF_2 := zz_O_B (zlw_3 hKS hG hP) rfl rfl
  have b2 : zz_B l zTs D zcl zFK cy z0 sp (zTys cy) G "ToolMillLaw" mn 7 code d zF_2 zF_3 := zz_O_B (zlw_4 hKS hG hP) rfl ((show (za_callV 1 0 0 7) K zF_2 = zz_cr 7 [(0, .ref 1999999)] [.ref 0] (K 0 [.ref 0] zWa) from rfl).trans (by rw [h1]; rfl))
  have b3 : zz_B l zTs D zcl zFK cy z0 sp (zTys cy) G "ToolMillLaw" mn 7 code d zF_3 zF_4 := zz_O_B (zlw_7 hKS hG hP) rfl rfl
  have b4 : zz_B l zTs D zcl zFK cy z0 sp (zTys cy) G "ToolMillLaw" mn 7 code d zF_4 zF_5 := zz_O_B (zlw_8 hKS hG hP) rfl rfl
  have b5 : zz_B l zTs D zcl zFK cy z0 sp (zTys cy) G "ToolMillLaw" mn 7 code d zF_5 zF_6 := zz_O_B (zlw_11 hKS hG hP) rfl rfl
  have b6 : zz_B l zTs D zcl zFK cy z0 sp (zTys cy) G "ToolMillLaw" mn 7 code d zF_6 zF_7 := zz_O_B (zlw_12 hKS hG hP) rfl ((show (za_callV 0 1 0 15) K zF_6 = zz_cr 15 [(1, .ref 0), (0, .ref 1999999)] [.ref 171] (K 1 [.ref 171] zWb) from rfl).trans (by rw [h2]; rfl))
  have b7 : zz_B l zTs D zcl zFK cy z0 sp (zTys cy) G "ToolMillLaw" mn 7 code d zF_7 zF_8 := zz_O_B (zlw_15 hKS hG hP) rfl rfl
  have b8 : zz_B l zTs D zcl zFK cy z0 sp (zTys cy) G "ToolMillLaw" mn 7 code d zF_8 zF_9 := zz_O_B (zlw_16 hKS hG hP) rfl rfl
  have b9 : zz_B l zTs D zcl zFK cy z0 sp (zTys cy) G "ToolMillLaw" mn 7 code d zF_9 zF_10 := zz_O_B (zlw_17 hKS hG hP) rfl rfl
  have b10 : zz_B l zTs D zcl zFK cy z0 sp (zTys cy) G "ToolMillLaw" mn 7 code d zF_10 zF_11 := zz_O_B (zlw_19 hKS hG hP) rfl rfl
  have b11 : zz_B l zTs D zcl zFK cy z0 sp (zTys cy) G "ToolMillLaw" mn 7 code d zF_11 zF_12 := zz_O_B (zlw_20 hKS hG hP) rfl rfl
  have b12 : zz_B l zTs D zcl zFK cy z0 sp (zTys cy) G "ToolMillLaw" mn 7 code d zF_12 zF_13 := zz_O_B (zlw_21 hKS hG hP) rfl rfl
  exact zz_B_tr b0 (zz_B_tr b1 (zz_B_tr b2 (zz_B_tr b3 (zz_B_tr b4 (zz_B_tr b5 (zz_B_tr b6 (zz_B_tr b7 (zz_B_tr b8 (zz_B_tr b9 (zz_B_tr b10 (zz_B_tr b11 (b12))))))))))))
