/-! the law's own rows, by program -/
theorem zd_900_0 : decode code 0 = .ok (.new 8, 3) := by decide +kernel
theorem zlw_0 {l : Launch} {D : va_G} {cy : Nat → ClassId} {z0 : Nat} {sp : Nat → Nat} {G : State → Prop} {mn : String} {d : Nat} {K : zz_K} (hKS : zz_KS l D zcl zFK cy z0 sp (zTys cy) G zYN (fun y => Cond.code (zYN y) (zCN y) (zMQ y) (zRT y) :: zTs) d K) (hsp0 : sp 18446744073709551616 = 0) (hG : zz_GF z0 G) (hP : ∀ U, G U → zz_GD zS zS2 zLg z0 sp U) : zz_O l zTs D zcl zFK cy z0 sp (zTys cy) G "ToolMillLaw" mn 7 code d K 0 (za_new 1 17 3) := zo_new hsp0 zd_900_0 rfl zU_1 zYk_1 zDf_1 zw_3041 zw_3042 zw_1505
theorem zd_900_3 : decode code 3 = .ok (.dup, 1) := by decide +kernel
theorem zlw_3 {l : Launch} {D : va_G} {cy : Nat → ClassId} {z0 : Nat} {sp : Nat → Nat} {G : State → Prop} {mn : String} {d : Nat} {K : zz_K} (hKS : zz_KS l D zcl zFK cy z0 sp (zTys cy) G zYN (fun y => Cond.code (zYN y) (zCN y) (zMQ y) (zRT y) :: zTs) d K) (hsp0 : sp 18446744073709551616 = 0) (hG : zz_GF z0 G) (hP : ∀ U, G U → zz_GD zS zS2 zLg z0 sp U) : zz_O l zTs D zcl zFK cy z0 sp (zTys cy) G "ToolMillLaw" mn 7 code d K 3 (za_dup 4) := zo_dup zd_900_3
theorem zd_900_4 : decode code 4 = .ok (.invokespecial 90, 3) := by decide +kernel
theorem zlw_4 {l : Launch} {D : va_G} {cy : Nat → ClassId} {z0 : Nat} {sp : Nat → Nat} {G : State → Prop} {mn : String} {d : Nat} {K : zz_K} (hKS : zz_KS l D zcl zFK cy z0 sp (zTys cy) G zYN (fun y => Cond.code (zYN y) (zCN y) (zMQ y) (zRT y) :: zTs) d K) (hsp0 : sp 18446744073709551616 = 0) (hG : zz_GF z0 G) (hP : ∀ U, G U → zz_GD zS zS2 zLg z0 sp U) : zz_O l zTs D zcl zFK cy z0 sp (zTys cy) G "ToolMillLaw" mn 7 code d K 4 (za_callV 1 0 0 7) := zcI_0_1 hKS hG zd_900_4 zw_3043
theorem zd_900_7 : decode code 7 = .ok (.astore_n 1, 1) := by decide +kernel
theorem zlw_7 {l : Launch} {D : va_G} {cy : Nat → ClassId} {z0 : Nat} {sp : Nat → Nat} {G : State → Prop} {mn : String} {d : Nat} {K : zz_K} (hKS : zz_KS l D zcl zFK cy z0 sp (zTys cy) G zYN (fun y => Cond.code (zYN y) (zCN y) (zMQ y) (zRT y) :: zTs) d K) (hsp0 : sp 18446744073709551616 = 0) (hG : zz_GF z0 G) (hP : ∀ U, G U → zz_GD zS zS2 zLg z0 sp U) : zz_O l zTs D zcl zFK cy z0 sp (zTys cy) G "ToolMillLaw" mn 7 code d K 7 (za_astore 1 8) := zo_astore_n zd_900_7 rfl (by decide)
theorem zd_900_8 : decode code 8 = .ok (.new 91, 3) := by decide +kernel
theorem zlw_8 {l : Launch} {D : va_G} {cy : Nat → ClassId} {z0 : Nat} {sp : Nat → Nat} {G : State → Prop} {mn : String} {d : Nat} {K : zz_K} (hKS : zz_KS l D zcl zFK cy z0 sp (zTys cy) G zYN (fun y => Cond.code (zYN y) (zCN y) (zMQ y) (zRT y) :: zTs) d K) (hsp0 : sp 18446744073709551616 = 0) (hG : zz_GF z0 G) (hP : ∀ U, G U → zz_GD zS zS2 zLg z0 sp U) : zz_O l zTs D zcl zFK cy z0 sp (zTys cy) G "ToolMillLaw" mn 7 code d K 8 (za_new 0 243 11) := zo_new hsp0 zd_900_8 rfl zU_0 zYk_0 zDf_0 zw_3044 zw_3045 zw_1473
theorem zd_900_11 : decode code 11 = .ok (.dup, 1) := by decide +kernel
theorem zlw_11 {l : Launch} {D : va_G} {cy : Nat → ClassId} {z0 : Nat} {sp : Nat → Nat} {G : State → Prop} {mn : String} {d : Nat} {K : zz_K} (hKS : zz_KS l D zcl zFK cy z0 sp (zTys cy) G zYN (fun y => Cond.code (zYN y) (zCN y) (zMQ y) (zRT y) :: zTs) d K) (hsp0 : sp 18446744073709551616 = 0) (hG : zz_GF z0 G) (hP : ∀ U, G U → zz_GD zS zS2 zLg z0 sp U) : zz_O l zTs D zcl zFK cy z0 sp (zTys cy) G "ToolMillLaw" mn 7 code d K 11 (za_dup 12) := zo_dup zd_900_11
theorem zd_900_12 : decode code 12 = .ok (.invokespecial 93, 3) := by decide +kernel
theorem zlw_12 {l : Launch} {D : va_G} {cy : Nat → ClassId} {z0 : Nat} {sp : Nat → Nat} {G : State → Prop} {mn : String} {d : Nat} {K : zz_K} (hKS : zz_KS l D zcl zFK cy z0 sp (zTys cy) G zYN (fun y => Cond.code (zYN y) (zCN y) (zMQ y) (zRT y) :: zTs) d K) (hsp0 : sp 18446744073709551616 = 0) (hG : zz_GF z0 G) (hP : ∀ U, G U → zz_GD zS zS2 zLg z0 sp U) : zz_O l zTs D zcl zFK cy z0 sp (zTys cy) G "ToolMillLaw" mn 7 code d K 12 (za_callV 0 24 0 15) := zcI_24_0 hKS hG zd_900_12 zw_3046
theorem zd_900_15 : decode code 15 = .ok (.astore_n 2, 1) := by decide +kernel
theorem zlw_15 {l : Launch} {D : va_G} {cy : Nat → ClassId} {z0 : Nat} {sp : Nat → Nat} {G : State → Prop} {mn : String} {d : Nat} {K : zz_K} (hKS : zz_KS l D zcl zFK cy z0 sp (zTys cy) G zYN (fun y => Cond.code (zYN y) (zCN y) (zMQ y) (zRT y) :: zTs) d K) (hsp0 : sp 18446744073709551616 = 0) (hG : zz_GF z0 G) (hP : ∀ U, G U → zz_GD zS zS2 zLg z0 sp U) : zz_O l zTs D zcl zFK cy z0 sp (zTys cy) G "ToolMillLaw" mn 7 code d K 15 (za_astore 2 16) := zo_astore_n zd_900_15 rfl (by decide)
theorem zd_900_16 : decode code 16 = .ok (.iconst 1, 1) := by decide +kernel
theorem zlw_16 {l : Launch} {D : va_G} {cy : Nat → ClassId} {z0 : Nat} {sp : Nat → Nat} {G : State → Prop} {mn : String} {d : Nat} {K : zz_K} (hKS : zz_KS l D zcl zFK cy z0 sp (zTys cy) G zYN (fun y => Cond.code (zYN y) (zCN y) (zMQ y) (zRT y) :: zTs) d K) (hsp0 : sp 18446744073709551616 = 0) (hG : zz_GF z0 G) (hP : ∀ U, G U → zz_GD zS zS2 zLg z0 sp U) : zz_O l zTs D zcl zFK cy z0 sp (zTys cy) G "ToolMillLaw" mn 7 code d K 16 (za_const (.int (Int32.ofNat 1)) 17) := zo_iconst zd_900_16 (by decide)
theorem zd_900_17 : decode code 17 = .ok (.newarray .long, 2) := by decide +kernel
theorem zlw_17 {l : Launch} {D : va_G} {cy : Nat → ClassId} {z0 : Nat} {sp : Nat → Nat} {G : State → Prop} {mn : String} {d : Nat} {K : zz_K} (hKS : zz_KS l D zcl zFK cy z0 sp (zTys cy) G zYN (fun y => Cond.code (zYN y) (zCN y) (zMQ y) (zRT y) :: zTs) d K) (hsp0 : sp 18446744073709551616 = 0) (hG : zz_GF z0 G) (hP : ∀ U, G U → zz_GD zS zS2 zLg z0 sp U) : zz_O l zTs D zcl zFK cy z0 sp (zTys cy) G "ToolMillLaw" mn 7 code d K 17 (za_newa 1 3 19) := zo_newL hsp0 zd_900_17 zw_125 rfl
theorem zd_900_19 : decode code 19 = .ok (.astore_n 3, 1) := by decide +kernel
theorem zlw_19 {l : Launch} {D : va_G} {cy : Nat → ClassId} {z0 : Nat} {sp : Nat → Nat} {G : State → Prop} {mn : String} {d : Nat} {K : zz_K} (hKS : zz_KS l D zcl zFK cy z0 sp (zTys cy) G zYN (fun y => Cond.code (zYN y) (zCN y) (zMQ y) (zRT y) :: zTs) d K) (hsp0 : sp 18446744073709551616 = 0) (hG : zz_GF z0 G) (hP : ∀ U, G U → zz_GD zS zS2 zLg z0 sp U) : zz_O l zTs D zcl zFK cy z0 sp (zTys cy) G "ToolMillLaw" mn 7 code d K 19 (za_astore 3 20) := zo_astore_n zd_900_19 rfl (by decide)
theorem zd_900_20 : decode code 20 = .ok (.iconst 0, 1) := by decide +kernel
theorem zlw_20 {l : Launch} {D : va_G} {cy : Nat → ClassId} {z0 : Nat} {sp : Nat → Nat} {G : State → Prop} {mn : String} {d : Nat} {K : zz_K} (hKS : zz_KS l D zcl zFK cy z0 sp (zTys cy) G zYN (fun y => Cond.code (zYN y) (zCN y) (zMQ y) (zRT y) :: zTs) d K) (hsp0 : sp 18446744073709551616 = 0) (hG : zz_GF z0 G) (hP : ∀ U, G U → zz_GD zS zS2 zLg z0 sp U) : zz_O l zTs D zcl zFK cy z0 sp (zTys cy) G "ToolMillLaw" mn 7 code d K 20 (za_const (.int (Int32.ofNat 0)) 21) := zo_iconst zd_900_20 (by decide)
theorem zd_900_21 : decode code 21 = .ok (.istore 4, 2) := by decide +kernel
theorem zlw_21 {l : Launch} {D : va_G} {cy : Nat → ClassId} {z0 : Nat} {sp : Nat → Nat} {G : State → Prop} {mn : String} {d : Nat} {K : zz_K} (hKS : zz_KS l D zcl zFK cy z0 sp (zTys cy) G zYN (fun y => Cond.code (zYN y) (zCN y) (zMQ y) (zRT y) :: zTs) d K) (hsp0 : sp 18446744073709551616 = 0) (hG : zz_GF z0 G) (hP : ∀ U, G U → zz_GD zS zS2 zLg z0 sp U) : zz_O l zTs D zcl zFK cy z0 sp (zTys cy) G "ToolMillLaw" mn 7 code d K 21 (za_istore 4 23) := zo_istore zd_900_21 (by decide)
theorem zd_900_23 : decode code 23 = .ok (.iload 4, 2) := by decide +kernel
theorem zlw_23 {l : Launch} {D : va_G} {cy : Nat → ClassId} {z0 : Nat} {sp : Nat → Nat} {G : State → Prop} {mn : String} {d : Nat} {K : zz_K} (hKS : zz_KS l D zcl zFK cy z0 sp (zTys cy) G zYN (fun y => Cond.code (zYN y) (zCN y) (zMQ y) (zRT y) :: zTs) d K) (hsp0 : sp 18446744073709551616 = 0) (hG : zz_GF z0 G) (hP : ∀ U, G U → zz_GD zS zS2 zLg z0 sp U) : zz_O l zTs D zcl zFK cy z0 sp (zTys cy) G "ToolMillLaw" mn 7 code d K 23 (za_iload 4 25) := zo_iload zd_900_23
theorem zd_900_25 : decode code 25 = .ok (.aload_n 0, 1) := by decide +kernel
theorem zlw_25 {l : Launch} {D : va_G} {cy : Nat → ClassId} {z0 : Nat} {sp : Nat → Nat} {G : State → Prop} {mn : String} {d : Nat} {K : zz_K} (hKS : zz_KS l D zcl zFK cy z0 sp (zTys cy) G zYN (fun y => Cond.code (zYN y) (zCN y) (zMQ y) (zRT y) :: zTs) d K) (hsp0 : sp 18446744073709551616 = 0) (hG : zz_GF z0 G) (hP : ∀ U, G U → zz_GD zS zS2 zLg z0 sp U) : zz_O l zTs D zcl zFK cy z0 sp (zTys cy) G "ToolMillLaw" mn 7 code d K 25 (za_aload 0 26) := zo_aload_n zd_900_25 rfl
theorem zd_900_27 : decode code 27 = .ok (.iconst 4, 1) := by decide +kernel
theorem zlw_27 {l : Launch} {D : va_G} {cy : Nat → ClassId} {z0 : Nat} {sp : Nat → Nat} {G : State → Prop} {mn : String} {d : Nat} {K : zz_K} (hKS : zz_KS l D zcl zFK cy z0 sp (zTys cy) G zYN (fun y => Cond.code (zYN y) (zCN y) (zMQ y) (zRT y) :: zTs) d K) (hsp0 : sp 18446744073709551616 = 0) (hG : zz_GF z0 G) (hP : ∀ U, G U → zz_GD zS zS2 zLg z0 sp U) : zz_O l zTs D zcl zFK cy z0 sp (zTys cy) G "ToolMillLaw" mn 7 code d K 27 (za_const (.int (Int32.ofNat 4)) 28) := zo_iconst zd_900_27 (by decide)
theorem zd_900_28 : decode code 28 = .ok (.isub, 1) := by decide +kernel
theorem zlw_28 {l : Launch} {D : va_G} {cy : Nat → ClassId} {z0 : Nat} {sp : Nat → Nat} {G : State → Prop} {mn : String} {d : Nat} {K : zz_K} (hKS : zz_KS l D zcl zFK cy z0 sp (zTys cy) G zYN (fun y => Cond.code (zYN y) (zCN y) (zMQ y) (zRT y) :: zTs) d K) (hsp0 : sp 18446744073709551616 = 0) (hG : zz_GF z0 G) (hP : ∀ U, G U → zz_GD zS zS2 zLg z0 sp U) : zz_O l zTs D zcl zFK cy z0 sp (zTys cy) G "ToolMillLaw" mn 7 code d K 28 (za_isub 29) := zo_isub zd_900_28
theorem zd_900_29 : decode code 29 = .ok (.if_icmp .gt 876, 3) := by decide +kernel
theorem zlw_29 {l : Launch} {D : va_G} {cy : Nat → ClassId} {z0 : Nat} {sp : Nat → Nat} {G : State → Prop} {mn : String} {d : Nat} {K : zz_K} (hKS : zz_KS l D zcl zFK cy z0 sp (zTys cy) G zYN (fun y => Cond.code (zYN y) (zCN y) (zMQ y) (zRT y) :: zTs) d K) (hsp0 : sp 18446744073709551616 = 0) (hG : zz_GF z0 G) (hP : ∀ U, G U → zz_GD zS zS2 zLg z0 sp U) : zz_O l zTs D zcl zFK cy z0 sp (zTys cy) G "ToolMillLaw" mn 7 code d K 29 (za_icmp_gt 905 32) := zo_icmp_gt zd_900_29 (by decide)
theorem zd_900_32 : decode code 32 = .ok (.aload_n 0, 1) := by decide +kernel
theorem zlw_32 {l : Launch} {D : va_G} {cy : Nat → ClassId} {z0 : Nat} {sp : Nat → Nat} {G : State → Prop} {mn : String} {d : Nat} {K : zz_K} (hKS : zz_KS l D zcl zFK cy z0 sp (zTys cy) G zYN (fun y => Cond.code (zYN y) (zCN y) (zMQ y) (zRT y) :: zTs) d K) (hsp0 : sp 18446744073709551616 = 0) (hG : zz_GF z0 G) (hP : ∀ U, G U → zz_GD zS zS2 zLg z0 sp U) : zz_O l zTs D zcl zFK cy z0 sp (zTys cy) G "ToolMillLaw" mn 7 code d K 32 (za_aload 0 33) := zo_aload_n zd_900_32 rfl
theorem zd_900_33 : decode code 33 = .ok (.iload 4, 2) := by decide +kernel
theorem zlw_33 {l : Launch} {D : va_G} {cy : Nat → ClassId} {z0 : Nat} {sp : Nat → Nat} {G : State → Prop} {mn : String} {d : Nat} {K : zz_K} (hKS : zz_KS l D zcl zFK cy z0 sp (zTys cy) G zYN (fun y => Cond.code (zYN y) (zCN y) (zMQ y) (zRT y) :: zTs) d K) (hsp0 : sp 18446744073709551616 = 0) (hG : zz_GF z0 G) (hP : ∀ U, G U → zz_GD zS zS2 zLg z0 sp U) : zz_O l zTs D zcl zFK cy z0 sp (zTys cy) G "ToolMillLaw" mn 7 code d K 33 (za_iload 4 35) := zo_iload zd_900_33
theorem zd_900_36 : decode code 36 = .ok (.bipush 31, 2) := by decide +kernel
theorem zlw_36 {l : Launch} {D : va_G} {cy : Nat → ClassId} {z0 : Nat} {sp : Nat → Nat} {G : State → Prop} {mn : String} {d : Nat} {K : zz_K} (hKS : zz_KS l D zcl zFK cy z0 sp (zTys cy) G zYN (fun y => Cond.code (zYN y) (zCN y) (zMQ y) (zRT y) :: zTs) d K) (hsp0 : sp 18446744073709551616 = 0) (hG : zz_GF z0 G) (hP : ∀ U, G U → zz_GD zS zS2 zLg z0 sp U) : zz_O l zTs D zcl zFK cy z0 sp (zTys cy) G "ToolMillLaw" mn 7 code d K 36 (za_const (.int (Int32.ofNat 31)) 38) := zo_bipush zd_900_36 (by decide)
theorem zd_900_38 : decode code 38 = .ok (.iand, 1) := by decide +kernel
theorem zlw_38 {l : Launch} {D : va_G} {cy : Nat → ClassId} {z0 : Nat} {sp : Nat → Nat} {G : State → Prop} {mn : String} {d : Nat} {K : zz_K} (hKS : zz_KS l D zcl zFK cy z0 sp (zTys cy) G zYN (fun y => Cond.code (zYN y) (zCN y) (zMQ y) (zRT y) :: zTs) d K) (hsp0 : sp 18446744073709551616 = 0) (hG : zz_GF z0 G) (hP : ∀ U, G U → zz_GD zS zS2 zLg z0 sp U) : zz_O l zTs D zcl zFK cy z0 sp (zTys cy) G "ToolMillLaw" mn 7 code d K 38 (za_iand 39) := zo_iand zd_900_38
theorem zd_900_39 : decode code 39 = .ok (.tableswitch 860 0 22 #[105, 133, 169, 185, 201, 212, 240, 280, 320, 372, 424, 476, 528, 556, 596, 624, 652, 680, 708, 736, 776, 804, 832], 105) := by decide +kernel
theorem zlw_39 {l : Launch} {D : va_G} {cy : Nat → ClassId} {z0 : Nat} {sp : Nat → Nat} {G : State → Prop} {mn : String} {d : Nat} {K : zz_K} (hKS : zz_KS l D zcl zFK cy z0 sp (zTys cy) G zYN (fun y => Cond.code (zYN y) (zCN y) (zMQ y) (zRT y) :: zTs) d K) (hsp0 : sp 18446744073709551616 = 0) (hG : zz_GF z0 G) (hP : ∀ U, G U → zz_GD zS zS2 zLg z0 sp U) : zz_O l zTs D zcl zFK cy z0 sp (zTys cy) G "ToolMillLaw" mn 7 code d K 39 (za_tsw (0) (22) 899 [144, 172, 208, 224, 240, 251, 279, 319, 359, 411, 463, 515, 567, 595, 635, 663, 691, 719, 747, 775, 815, 843, 871]) := zo_tsw zd_900_39 (by decide) (by decide)
theorem zd_900_144 : decode code 144 = .ok (.aload_n 1, 1) := by decide +kernel
theorem zlw_144 {l : Launch} {D : va_G} {cy : Nat → ClassId} {z0 : Nat} {sp : Nat → Nat} {G : State → Prop} {mn : String} {d : Nat} {K : zz_K} (hKS : zz_KS l D zcl zFK cy z0 sp (zTys cy) G zYN (fun y => Cond.code (zYN y) (zCN y) (zMQ y) (zRT y) :: zTs) d K) (hsp0 : sp 18446744073709551616 = 0) (hG : zz_GF z0 G) (hP : ∀ U, G U → zz_GD zS zS2 zLg z0 sp U) : zz_O l zTs D zcl zFK cy z0 sp (zTys cy) G "ToolMillLaw" mn 7 code d K 144 (za_aload 1 145) := zo_aload_n zd_900_144 rfl
theorem zd_900_145 : decode code 145 = .ok (.aload_n 0, 1) := by decide +kernel
theorem zlw_145 {l : Launch} {D : va_G} {cy : Nat → ClassId} {z0 : Nat} {sp : Nat → Nat} {G : State → Prop} {mn : String} {d : Nat} {K : zz_K} (hKS : zz_KS l D zcl zFK cy z0 sp (zTys cy) G zYN (fun y => Cond.code (zYN y) (zCN y) (zMQ y) (zRT y) :: zTs) d K) (hsp0 : sp 18446744073709551616 = 0) (hG : zz_GF z0 G) (hP : ∀ U, G U → zz_GD zS zS2 zLg z0 sp U) : zz_O l zTs D zcl zFK cy z0 sp (zTys cy) G "ToolMillLaw" mn 7 code d K 145 (za_aload 0 146) := zo_aload_n zd_900_145 rfl
theorem zd_900_146 : decode code 146 = .ok (.iload 4, 2) := by decide +kernel
theorem zlw_146 {l : Launch} {D : va_G} {cy : Nat → ClassId} {z0 : Nat} {sp : Nat → Nat} {G : State → Prop} {mn : String} {d : Nat} {K : zz_K} (hKS : zz_KS l D zcl zFK cy z0 sp (zTys cy) G zYN (fun y => Cond.code (zYN y) (zCN y) (zMQ y) (zRT y) :: zTs) d K) (hsp0 : sp 18446744073709551616 = 0) (hG : zz_GF z0 G) (hP : ∀ U, G U → zz_GD zS zS2 zLg z0 sp U) : zz_O l zTs D zcl zFK cy z0 sp (zTys cy) G "ToolMillLaw" mn 7 code d K 146 (za_iload 4 148) := zo_iload zd_900_146
theorem zd_900_148 : decode code 148 = .ok (.iconst 1, 1) := by decide +kernel
theorem zlw_148 {l : Launch} {D : va_G} {cy : Nat → ClassId} {z0 : Nat} {sp : Nat → Nat} {G : State → Prop} {mn : String} {d : Nat} {K : zz_K} (hKS : zz_KS l D zcl zFK cy z0 sp (zTys cy) G zYN (fun y => Cond.code (zYN y) (zCN y) (zMQ y) (zRT y) :: zTs) d K) (hsp0 : sp 18446744073709551616 = 0) (hG : zz_GF z0 G) (hP : ∀ U, G U → zz_GD zS zS2 zLg z0 sp U) : zz_O l zTs D zcl zFK cy z0 sp (zTys cy) G "ToolMillLaw" mn 7 code d K 148 (za_const (.int (Int32.ofNat 1)) 149) := zo_iconst zd_900_148 (by decide)
theorem zd_900_149 : decode code 149 = .ok (.iadd, 1) := by decide +kernel
theorem zlw_149 {l : Launch} {D : va_G} {cy : Nat → ClassId} {z0 : Nat} {sp : Nat → Nat} {G : State → Prop} {mn : String} {d : Nat} {K : zz_K} (hKS : zz_KS l D zcl zFK cy z0 sp (zTys cy) G zYN (fun y => Cond.code (zYN y) (zCN y) (zMQ y) (zRT y) :: zTs) d K) (hsp0 : sp 18446744073709551616 = 0) (hG : zz_GF z0 G) (hP : ∀ U, G U → zz_GD zS zS2 zLg z0 sp U) : zz_O l zTs D zcl zFK cy z0 sp (zTys cy) G "ToolMillLaw" mn 7 code d K 149 (za_iadd 150) := zo_iadd zd_900_149
theorem zd_900_151 : decode code 151 = .ok (.aload_n 3, 1) := by decide +kernel
theorem zlw_151 {l : Launch} {D : va_G} {cy : Nat → ClassId} {z0 : Nat} {sp : Nat → Nat} {G : State → Prop} {mn : String} {d : Nat} {K : zz_K} (hKS : zz_KS l D zcl zFK cy z0 sp (zTys cy) G zYN (fun y => Cond.code (zYN y) (zCN y) (zMQ y) (zRT y) :: zTs) d K) (hsp0 : sp 18446744073709551616 = 0) (hG : zz_GF z0 G) (hP : ∀ U, G U → zz_GD zS zS2 zLg z0 sp U) : zz_O l zTs D zcl zFK cy z0 sp (zTys cy) G "ToolMillLaw" mn 7 code d K 151 (za_aload 3 152) := zo_aload_n zd_900_151 rfl
theorem zd_900_155 : decode code 155 = .ok (.istore 5, 2) := by decide +kernel
theorem zlw_155 {l : Launch} {D : va_G} {cy : Nat → ClassId} {z0 : Nat} {sp : Nat → Nat} {G : State → Prop} {mn : String} {d : Nat} {K : zz_K} (hKS : zz_KS l D zcl zFK cy z0 sp (zTys cy) G zYN (fun y => Cond.code (zYN y) (zCN y) (zMQ y) (zRT y) :: zTs) d K) (hsp0 : sp 18446744073709551616 = 0) (hG : zz_GF z0 G) (hP : ∀ U, G U → zz_GD zS zS2 zLg z0 sp U) : zz_O l zTs D zcl zFK cy z0 sp (zTys cy) G "ToolMillLaw" mn 7 code d K 155 (za_istore 5 157) := zo_istore zd_900_155 (by decide)
theorem zd_900_157 : decode code 157 = .ok (.aload_n 2, 1) := by decide +kernel
theorem zlw_157 {l : Launch} {D : va_G} {cy : Nat → ClassId} {z0 : Nat} {sp : Nat → Nat} {G : State → Prop} {mn : String} {d : Nat} {K : zz_K} (hKS : zz_KS l D zcl zFK cy z0 sp (zTys cy) G zYN (fun y => Cond.code (zYN y) (zCN y) (zMQ y) (zRT y) :: zTs) d K) (hsp0 : sp 18446744073709551616 = 0) (hG : zz_GF z0 G) (hP : ∀ U, G U → zz_GD zS zS2 zLg z0 sp U) : zz_O l zTs D zcl zFK cy z0 sp (zTys cy) G "ToolMillLaw" mn 7 code d K 157 (za_aload 2 158) := zo_aload_n zd_900_157 rfl
theorem zd_900_158 : decode code 158 = .ok (.aload_n 0, 1) := by decide +kernel
theorem zlw_158 {l : Launch} {D : va_G} {cy : Nat → ClassId} {z0 : Nat} {sp : Nat → Nat} {G : State → Prop} {mn : String} {d : Nat} {K : zz_K} (hKS : zz_KS l D zcl zFK cy z0 sp (zTys cy) G zYN (fun y => Cond.code (zYN y) (zCN y) (zMQ y) (zRT y) :: zTs) d K) (hsp0 : sp 18446744073709551616 = 0) (hG : zz_GF z0 G) (hP : ∀ U, G U → zz_GD zS zS2 zLg z0 sp U) : zz_O l zTs D zcl zFK cy z0 sp (zTys cy) G "ToolMillLaw" mn 7 code d K 158 (za_aload 0 159) := zo_aload_n zd_900_158 rfl
theorem zd_900_159 : decode code 159 = .ok (.iload 4, 2) := by decide +kernel
theorem zlw_159 {l : Launch} {D : va_G} {cy : Nat → ClassId} {z0 : Nat} {sp : Nat → Nat} {G : State → Prop} {mn : String} {d : Nat} {K : zz_K} (hKS : zz_KS l D zcl zFK cy z0 sp (zTys cy) G zYN (fun y => Cond.code (zYN y) (zCN y) (zMQ y) (zRT y) :: zTs) d K) (hsp0 : sp 18446744073709551616 = 0) (hG : zz_GF z0 G) (hP : ∀ U, G U → zz_GD zS zS2 zLg z0 sp U) : zz_O l zTs D zcl zFK cy z0 sp (zTys cy) G "ToolMillLaw" mn 7 code d K 159 (za_iload 4 161) := zo_iload zd_900_159
theorem zd_900_161 : decode code 161 = .ok (.iconst 1, 1) := by decide +kernel
theorem zlw_161 {l : Launch} {D : va_G} {cy : Nat → ClassId} {z0 : Nat} {sp : Nat → Nat} {G : State → Prop} {mn : String} {d : Nat} {K : zz_K} (hKS : zz_KS l D zcl zFK cy z0 sp (zTys cy) G zYN (fun y => Cond.code (zYN y) (zCN y) (zMQ y) (zRT y) :: zTs) d K) (hsp0 : sp 18446744073709551616 = 0) (hG : zz_GF z0 G) (hP : ∀ U, G U → zz_GD zS zS2 zLg z0 sp U) : zz_O l zTs D zcl zFK cy z0 sp (zTys cy) G "ToolMillLaw" mn 7 code d K 161 (za_const (.int (Int32.ofNat 1)) 162) := zo_iconst zd_900_161 (by decide)
theorem zd_900_162 : decode code 162 = .ok (.iadd, 1) := by decide +kernel
theorem zlw_162 {l : Launch} {D : va_G} {cy : Nat → ClassId} {z0 : Nat} {sp : Nat → Nat} {G : State → Prop} {mn : String} {d : Nat} {K : zz_K} (hKS : zz_KS l D zcl zFK cy z0 sp (zTys cy) G zYN (fun y => Cond.code (zYN y) (zCN y) (zMQ y) (zRT y) :: zTs) d K) (hsp0 : sp 18446744073709551616 = 0) (hG : zz_GF z0 G) (hP : ∀ U, G U → zz_GD zS zS2 zLg z0 sp U) : zz_O l zTs D zcl zFK cy z0 sp (zTys cy) G "ToolMillLaw" mn 7 code d K 162 (za_iadd 163) := zo_iadd zd_900_162
theorem zd_900_164 : decode code 164 = .ok (.invokevirtual 99, 3) := by decide +kernel
theorem zlw_164 {l : Launch} {D : va_G} {cy : Nat → ClassId} {z0 : Nat} {sp : Nat → Nat} {G : State → Prop} {mn : String} {d : Nat} {K : zz_K} (hKS : zz_KS l D zcl zFK cy z0 sp (zTys cy) G zYN (fun y => Cond.code (zYN y) (zCN y) (zMQ y) (zRT y) :: zTs) d K) (hsp0 : sp 18446744073709551616 = 0) (hG : zz_GF z0 G) (hP : ∀ U, G U → zz_GD zS zS2 zLg z0 sp U) : zz_O l zTs D zcl zFK cy z0 sp (zTys cy) G "ToolMillLaw" mn 7 code d K 164 (za_callV 0 25 1 167) := zcV_25 hKS hG zd_900_164 zw_3047
theorem zd_900_167 : decode code 167 = .ok (.istore 6, 2) := by decide +kernel
theorem zlw_167 {l : Launch} {D : va_G} {cy : Nat → ClassId} {z0 : Nat} {sp : Nat → Nat} {G : State → Prop} {mn : String} {d : Nat} {K : zz_K} (hKS : zz_KS l D zcl zFK cy z0 sp (zTys cy) G zYN (fun y => Cond.code (zYN y) (zCN y) (zMQ y) (zRT y) :: zTs) d K) (hsp0 : sp 18446744073709551616 = 0) (hG : zz_GF z0 G) (hP : ∀ U, G U → zz_GD zS zS2 zLg z0 sp U) : zz_O l zTs D zcl zFK cy z0 sp (zTys cy) G "ToolMillLaw" mn 7 code d K 167 (za_istore 6 169) := zo_istore zd_900_167 (by decide)
theorem zd_900_169 : decode code 169 = .ok (.goto 730, 3) := by decide +kernel
theorem zlw_169 {l : Launch} {D : va_G} {cy : Nat → ClassId} {z0 : Nat} {sp : Nat → Nat} {G : State → Prop} {mn : String} {d : Nat} {K : zz_K} (hKS : zz_KS l D zcl zFK cy z0 sp (zTys cy) G zYN (fun y => Cond.code (zYN y) (zCN y) (zMQ y) (zRT y) :: zTs) d K) (hsp0 : sp 18446744073709551616 = 0) (hG : zz_GF z0 G) (hP : ∀ U, G U → zz_GD zS zS2 zLg z0 sp U) : zz_O l zTs D zcl zFK cy z0 sp (zTys cy) G "ToolMillLaw" mn 7 code d K 169 (za_goto 899) := zo_goto zd_900_169 (by decide)
theorem zd_900_172 : decode code 172 = .ok (.aload_n 1, 1) := by decide +kernel
theorem zlw_172 {l : Launch} {D : va_G} {cy : Nat → ClassId} {z0 : Nat} {sp : Nat → Nat} {G : State → Prop} {mn : String} {d : Nat} {K : zz_K} (hKS : zz_KS l D zcl zFK cy z0 sp (zTys cy) G zYN (fun y => Cond.code (zYN y) (zCN y) (zMQ y) (zRT y) :: zTs) d K) (hsp0 : sp 18446744073709551616 = 0) (hG : zz_GF z0 G) (hP : ∀ U, G U → zz_GD zS zS2 zLg z0 sp U) : zz_O l zTs D zcl zFK cy z0 sp (zTys cy) G "ToolMillLaw" mn 7 code d K 172 (za_aload 1 173) := zo_aload_n zd_900_172 rfl
theorem zd_900_173 : decode code 173 = .ok (.aload_n 0, 1) := by decide +kernel
theorem zlw_173 {l : Launch} {D : va_G} {cy : Nat → ClassId} {z0 : Nat} {sp : Nat → Nat} {G : State → Prop} {mn : String} {d : Nat} {K : zz_K} (hKS : zz_KS l D zcl zFK cy z0 sp (zTys cy) G zYN (fun y => Cond.code (zYN y) (zCN y) (zMQ y) (zRT y) :: zTs) d K) (hsp0 : sp 18446744073709551616 = 0) (hG : zz_GF z0 G) (hP : ∀ U, G U → zz_GD zS zS2 zLg z0 sp U) : zz_O l zTs D zcl zFK cy z0 sp (zTys cy) G "ToolMillLaw" mn 7 code d K 173 (za_aload 0 174) := zo_aload_n zd_900_173 rfl
theorem zd_900_174 : decode code 174 = .ok (.iload 4, 2) := by decide +kernel
theorem zlw_174 {l : Launch} {D : va_G} {cy : Nat → ClassId} {z0 : Nat} {sp : Nat → Nat} {G : State → Prop} {mn : String} {d : Nat} {K : zz_K} (hKS : zz_KS l D zcl zFK cy z0 sp (zTys cy) G zYN (fun y => Cond.code (zYN y) (zCN y) (zMQ y) (zRT y) :: zTs) d K) (hsp0 : sp 18446744073709551616 = 0) (hG : zz_GF z0 G) (hP : ∀ U, G U → zz_GD zS zS2 zLg z0 sp U) : zz_O l zTs D zcl zFK cy z0 sp (zTys cy) G "ToolMillLaw" mn 7 code d K 174 (za_iload 4 176) := zo_iload zd_900_174
theorem zd_900_176 : decode code 176 = .ok (.iconst 1, 1) := by decide +kernel
theorem zlw_176 {l : Launch} {D : va_G} {cy : Nat → ClassId} {z0 : Nat} {sp : Nat → Nat} {G : State → Prop} {mn : String} {d : Nat} {K : zz_K} (hKS : zz_KS l D zcl zFK cy z0 sp (zTys cy) G zYN (fun y => Cond.code (zYN y) (zCN y) (zMQ y) (zRT y) :: zTs) d K) (hsp0 : sp 18446744073709551616 = 0) (hG : zz_GF z0 G) (hP : ∀ U, G U → zz_GD zS zS2 zLg z0 sp U) : zz_O l zTs D zcl zFK cy z0 sp (zTys cy) G "ToolMillLaw" mn 7 code d K 176 (za_const (.int (Int32.ofNat 1)) 177) := zo_iconst zd_900_176 (by decide)
theorem zd_900_177 : decode code 177 = .ok (.iadd, 1) := by decide +kernel
theorem zlw_177 {l : Launch} {D : va_G} {cy : Nat → ClassId} {z0 : Nat} {sp : Nat → Nat} {G : State → Prop} {mn : String} {d : Nat} {K : zz_K} (hKS : zz_KS l D zcl zFK cy z0 sp (zTys cy) G zYN (fun y => Cond.code (zYN y) (zCN y) (zMQ y) (zRT y) :: zTs) d K) (hsp0 : sp 18446744073709551616 = 0) (hG : zz_GF z0 G) (hP : ∀ U, G U → zz_GD zS zS2 zLg z0 sp U) : zz_O l zTs D zcl zFK cy z0 sp (zTys cy) G "ToolMillLaw" mn 7 code d K 177 (za_iadd 178) := zo_iadd zd_900_177
theorem zd_900_182 : decode code 182 = .ok (.istore 5, 2) := by decide +kernel
theorem zlw_182 {l : Launch} {D : va_G} {cy : Nat → ClassId} {z0 : Nat} {sp : Nat → Nat} {G : State → Prop} {mn : String} {d : Nat} {K : zz_K} (hKS : zz_KS l D zcl zFK cy z0 sp (zTys cy) G zYN (fun y => Cond.code (zYN y) (zCN y) (zMQ y) (zRT y) :: zTs) d K) (hsp0 : sp 18446744073709551616 = 0) (hG : zz_GF z0 G) (hP : ∀ U, G U → zz_GD zS zS2 zLg z0 sp U) : zz_O l zTs D zcl zFK cy z0 sp (zTys cy) G "ToolMillLaw" mn 7 code d K 182 (za_istore 5 184) := zo_istore zd_900_182 (by decide)
theorem zd_900_184 : decode code 184 = .ok (.aload_n 2, 1) := by decide +kernel
theorem zlw_184 {l : Launch} {D : va_G} {cy : Nat → ClassId} {z0 : Nat} {sp : Nat → Nat} {G : State → Prop} {mn : String} {d : Nat} {K : zz_K} (hKS : zz_KS l D zcl zFK cy z0 sp (zTys cy) G zYN (fun y => Cond.code (zYN y) (zCN y) (zMQ y) (zRT y) :: zTs) d K) (hsp0 : sp 18446744073709551616 = 0) (hG : zz_GF z0 G) (hP : ∀ U, G U → zz_GD zS zS2 zLg z0 sp U) : zz_O l zTs D zcl zFK cy z0 sp (zTys cy) G "ToolMillLaw" mn 7 code d K 184 (za_aload 2 185) := zo_aload_n zd_900_184 rfl
theorem zd_900_185 : decode code 185 = .ok (.aload_n 0, 1) := by decide +kernel
theorem zlw_185 {l : Launch} {D : va_G} {cy : Nat → ClassId} {z0 : Nat} {sp : Nat → Nat} {G : State → Prop} {mn : String} {d : Nat} {K : zz_K} (hKS : zz_KS l D zcl zFK cy z0 sp (zTys cy) G zYN (fun y => Cond.code (zYN y) (zCN y) (zMQ y) (zRT y) :: zTs) d K) (hsp0 : sp 18446744073709551616 = 0) (hG : zz_GF z0 G) (hP : ∀ U, G U → zz_GD zS zS2 zLg z0 sp U) : zz_O l zTs D zcl zFK cy z0 sp (zTys cy) G "ToolMillLaw" mn 7 code d K 185 (za_aload 0 186) := zo_aload_n zd_900_185 rfl
theorem zd_900_186 : decode code 186 = .ok (.iload 4, 2) := by decide +kernel
theorem zlw_186 {l : Launch} {D : va_G} {cy : Nat → ClassId} {z0 : Nat} {sp : Nat → Nat} {G : State → Prop} {mn : String} {d : Nat} {K : zz_K} (hKS : zz_KS l D zcl zFK cy z0 sp (zTys cy) G zYN (fun y => Cond.code (zYN y) (zCN y) (zMQ y) (zRT y) :: zTs) d K) (hsp0 : sp 18446744073709551616 = 0) (hG : zz_GF z0 G) (hP : ∀ U, G U → zz_GD zS zS2 zLg z0 sp U) : zz_O l zTs D zcl zFK cy z0 sp (zTys cy) G "ToolMillLaw" mn 7 code d K 186 (za_iload 4 188) := zo_iload zd_900_186
theorem zd_900_188 : decode code 188 = .ok (.iconst 1, 1) := by decide +kernel
theorem zlw_188 {l : Launch} {D : va_G} {cy : Nat → ClassId} {z0 : Nat} {sp : Nat → Nat} {G : State → Prop} {mn : String} {d : Nat} {K : zz_K} (hKS : zz_KS l D zcl zFK cy z0 sp (zTys cy) G zYN (fun y => Cond.code (zYN y) (zCN y) (zMQ y) (zRT y) :: zTs) d K) (hsp0 : sp 18446744073709551616 = 0) (hG : zz_GF z0 G) (hP : ∀ U, G U → zz_GD zS zS2 zLg z0 sp U) : zz_O l zTs D zcl zFK cy z0 sp (zTys cy) G "ToolMillLaw" mn 7 code d K 188 (za_const (.int (Int32.ofNat 1)) 189) := zo_iconst zd_900_188 (by decide)
theorem zd_900_189 : decode code 189 = .ok (.iadd, 1) := by decide +kernel
theorem zlw_189 {l : Launch} {D : va_G} {cy : Nat → ClassId} {z0 : Nat} {sp : Nat → Nat} {G : State → Prop} {mn : String} {d : Nat} {K : zz_K} (hKS : zz_KS l D zcl zFK cy z0 sp (zTys cy) G zYN (fun y => Cond.code (zYN y) (zCN y) (zMQ y) (zRT y) :: zTs) d K) (hsp0 : sp 18446744073709551616 = 0) (hG : zz_GF z0 G) (hP : ∀ U, G U → zz_GD zS zS2 zLg z0 sp U) : zz_O l zTs D zcl zFK cy z0 sp (zTys cy) G "ToolMillLaw" mn 7 code d K 189 (za_iadd 190) := zo_iadd zd_900_189
theorem zd_900_191 : decode code 191 = .ok (.invokevirtual 103, 3) := by decide +kernel
theorem zlw_191 {l : Launch} {D : va_G} {cy : Nat → ClassId} {z0 : Nat} {sp : Nat → Nat} {G : State → Prop} {mn : String} {d : Nat} {K : zz_K} (hKS : zz_KS l D zcl zFK cy z0 sp (zTys cy) G zYN (fun y => Cond.code (zYN y) (zCN y) (zMQ y) (zRT y) :: zTs) d K) (hsp0 : sp 18446744073709551616 = 0) (hG : zz_GF z0 G) (hP : ∀ U, G U → zz_GD zS zS2 zLg z0 sp U) : zz_O l zTs D zcl zFK cy z0 sp (zTys cy) G "ToolMillLaw" mn 7 code d K 191 (za_callV 0 26 1 194) := zcV_26 hKS hG zd_900_191 zw_3048
theorem zd_900_194 : decode code 194 = .ok (.aload_n 2, 1) := by decide +kernel
theorem zlw_194 {l : Launch} {D : va_G} {cy : Nat → ClassId} {z0 : Nat} {sp : Nat → Nat} {G : State → Prop} {mn : String} {d : Nat} {K : zz_K} (hKS : zz_KS l D zcl zFK cy z0 sp (zTys cy) G zYN (fun y => Cond.code (zYN y) (zCN y) (zMQ y) (zRT y) :: zTs) d K) (hsp0 : sp 18446744073709551616 = 0) (hG : zz_GF z0 G) (hP : ∀ U, G U → zz_GD zS zS2 zLg z0 sp U) : zz_O l zTs D zcl zFK cy z0 sp (zTys cy) G "ToolMillLaw" mn 7 code d K 194 (za_aload 2 195) := zo_aload_n zd_900_194 rfl
theorem zd_900_195 : decode code 195 = .ok (.invokevirtual 104, 3) := by decide +kernel
theorem zlw_195 {l : Launch} {D : va_G} {cy : Nat → ClassId} {z0 : Nat} {sp : Nat → Nat} {G : State → Prop} {mn : String} {d : Nat} {K : zz_K} (hKS : zz_KS l D zcl zFK cy z0 sp (zTys cy) G zYN (fun y => Cond.code (zYN y) (zCN y) (zMQ y) (zRT y) :: zTs) d K) (hsp0 : sp 18446744073709551616 = 0) (hG : zz_GF z0 G) (hP : ∀ U, G U → zz_GD zS zS2 zLg z0 sp U) : zz_O l zTs D zcl zFK cy z0 sp (zTys cy) G "ToolMillLaw" mn 7 code d K 195 (za_callV 0 48 0 198) := zcV_48 hKS hG zd_900_195 zw_3049
theorem zd_900_198 : decode code 198 = .ok (.iload 5, 2) := by decide +kernel
theorem zlw_198 {l : Launch} {D : va_G} {cy : Nat → ClassId} {z0 : Nat} {sp : Nat → Nat} {G : State → Prop} {mn : String} {d : Nat} {K : zz_K} (hKS : zz_KS l D zcl zFK cy z0 sp (zTys cy) G zYN (fun y => Cond.code (zYN y) (zCN y) (zMQ y) (zRT y) :: zTs) d K) (hsp0 : sp 18446744073709551616 = 0) (hG : zz_GF z0 G) (hP : ∀ U, G U → zz_GD zS zS2 zLg z0 sp U) : zz_O l zTs D zcl zFK cy z0 sp (zTys cy) G "ToolMillLaw" mn 7 code d K 198 (za_iload 5 200) := zo_iload zd_900_198
theorem zd_900_200 : decode code 200 = .ok (.if_icmp .eq 5, 3) := by decide +kernel
theorem zlw_200 {l : Launch} {D : va_G} {cy : Nat → ClassId} {z0 : Nat} {sp : Nat → Nat} {G : State → Prop} {mn : String} {d : Nat} {K : zz_K} (hKS : zz_KS l D zcl zFK cy z0 sp (zTys cy) G zYN (fun y => Cond.code (zYN y) (zCN y) (zMQ y) (zRT y) :: zTs) d K) (hsp0 : sp 18446744073709551616 = 0) (hG : zz_GF z0 G) (hP : ∀ U, G U → zz_GD zS zS2 zLg z0 sp U) : zz_O l zTs D zcl zFK cy z0 sp (zTys cy) G "ToolMillLaw" mn 7 code d K 200 (za_icmp_eq 205 203) := zo_icmp_eq zd_900_200 (by decide)
theorem zd_900_203 : decode code 203 = .ok (.iconst 0, 1) := by decide +kernel
theorem zlw_203 {l : Launch} {D : va_G} {cy : Nat → ClassId} {z0 : Nat} {sp : Nat → Nat} {G : State → Prop} {mn : String} {d : Nat} {K : zz_K} (hKS : zz_KS l D zcl zFK cy z0 sp (zTys cy) G zYN (fun y => Cond.code (zYN y) (zCN y) (zMQ y) (zRT y) :: zTs) d K) (hsp0 : sp 18446744073709551616 = 0) (hG : zz_GF z0 G) (hP : ∀ U, G U → zz_GD zS zS2 zLg z0 sp U) : zz_O l zTs D zcl zFK cy z0 sp (zTys cy) G "ToolMillLaw" mn 7 code d K 203 (za_const (.int (Int32.ofNat 0)) 204) := zo_iconst zd_900_203 (by decide)
theorem zd_900_205 : decode code 205 = .ok (.goto 694, 3) := by decide +kernel
theorem zlw_205 {l : Launch} {D : va_G} {cy : Nat → ClassId} {z0 : Nat} {sp : Nat → Nat} {G : State → Prop} {mn : String} {d : Nat} {K : zz_K} (hKS : zz_KS l D zcl zFK cy z0 sp (zTys cy) G zYN (fun y => Cond.code (zYN y) (zCN y) (zMQ y) (zRT y) :: zTs) d K) (hsp0 : sp 18446744073709551616 = 0) (hG : zz_GF z0 G) (hP : ∀ U, G U → zz_GD zS zS2 zLg z0 sp U) : zz_O l zTs D zcl zFK cy z0 sp (zTys cy) G "ToolMillLaw" mn 7 code d K 205 (za_goto 899) := zo_goto zd_900_205 (by decide)
theorem zd_900_208 : decode code 208 = .ok (.aload_n 1, 1) := by decide +kernel
theorem zlw_208 {l : Launch} {D : va_G} {cy : Nat → ClassId} {z0 : Nat} {sp : Nat → Nat} {G : State → Prop} {mn : String} {d : Nat} {K : zz_K} (hKS : zz_KS l D zcl zFK cy z0 sp (zTys cy) G zYN (fun y => Cond.code (zYN y) (zCN y) (zMQ y) (zRT y) :: zTs) d K) (hsp0 : sp 18446744073709551616 = 0) (hG : zz_GF z0 G) (hP : ∀ U, G U → zz_GD zS zS2 zLg z0 sp U) : zz_O l zTs D zcl zFK cy z0 sp (zTys cy) G "ToolMillLaw" mn 7 code d K 208 (za_aload 1 209) := zo_aload_n zd_900_208 rfl
theorem zd_900_209 : decode code 209 = .ok (.aload_n 3, 1) := by decide +kernel
theorem zlw_209 {l : Launch} {D : va_G} {cy : Nat → ClassId} {z0 : Nat} {sp : Nat → Nat} {G : State → Prop} {mn : String} {d : Nat} {K : zz_K} (hKS : zz_KS l D zcl zFK cy z0 sp (zTys cy) G zYN (fun y => Cond.code (zYN y) (zCN y) (zMQ y) (zRT y) :: zTs) d K) (hsp0 : sp 18446744073709551616 = 0) (hG : zz_GF z0 G) (hP : ∀ U, G U → zz_GD zS zS2 zLg z0 sp U) : zz_O l zTs D zcl zFK cy z0 sp (zTys cy) G "ToolMillLaw" mn 7 code d K 209 (za_aload 3 210) := zo_aload_n zd_900_209 rfl
theorem zd_900_213 : decode code 213 = .ok (.istore 5, 2) := by decide +kernel
theorem zlw_213 {l : Launch} {D : va_G} {cy : Nat → ClassId} {z0 : Nat} {sp : Nat → Nat} {G : State → Prop} {mn : String} {d : Nat} {K : zz_K} (hKS : zz_KS l D zcl zFK cy z0 sp (zTys cy) G zYN (fun y => Cond.code (zYN y) (zCN y) (zMQ y) (zRT y) :: zTs) d K) (hsp0 : sp 18446744073709551616 = 0) (hG : zz_GF z0 G) (hP : ∀ U, G U → zz_GD zS zS2 zLg z0 sp U) : zz_O l zTs D zcl zFK cy z0 sp (zTys cy) G "ToolMillLaw" mn 7 code d K 213 (za_istore 5 215) := zo_istore zd_900_213 (by decide)
theorem zd_900_215 : decode code 215 = .ok (.aload_n 2, 1) := by decide +kernel
theorem zlw_215 {l : Launch} {D : va_G} {cy : Nat → ClassId} {z0 : Nat} {sp : Nat → Nat} {G : State → Prop} {mn : String} {d : Nat} {K : zz_K} (hKS : zz_KS l D zcl zFK cy z0 sp (zTys cy) G zYN (fun y => Cond.code (zYN y) (zCN y) (zMQ y) (zRT y) :: zTs) d K) (hsp0 : sp 18446744073709551616 = 0) (hG : zz_GF z0 G) (hP : ∀ U, G U → zz_GD zS zS2 zLg z0 sp U) : zz_O l zTs D zcl zFK cy z0 sp (zTys cy) G "ToolMillLaw" mn 7 code d K 215 (za_aload 2 216) := zo_aload_n zd_900_215 rfl
theorem zd_900_216 : decode code 216 = .ok (.invokevirtual 110, 3) := by decide +kernel
theorem zlw_216 {l : Launch} {D : va_G} {cy : Nat → ClassId} {z0 : Nat} {sp : Nat → Nat} {G : State → Prop} {mn : String} {d : Nat} {K : zz_K} (hKS : zz_KS l D zcl zFK cy z0 sp (zTys cy) G zYN (fun y => Cond.code (zYN y) (zCN y) (zMQ y) (zRT y) :: zTs) d K) (hsp0 : sp 18446744073709551616 = 0) (hG : zz_GF z0 G) (hP : ∀ U, G U → zz_GD zS zS2 zLg z0 sp U) : zz_O l zTs D zcl zFK cy z0 sp (zTys cy) G "ToolMillLaw" mn 7 code d K 216 (za_callV 0 27 0 219) := zcV_27 hKS hG zd_900_216 zw_3050
theorem zd_900_219 : decode code 219 = .ok (.istore 6, 2) := by decide +kernel
theorem zlw_219 {l : Launch} {D : va_G} {cy : Nat → ClassId} {z0 : Nat} {sp : Nat → Nat} {G : State → Prop} {mn : String} {d : Nat} {K : zz_K} (hKS : zz_KS l D zcl zFK cy z0 sp (zTys cy) G zYN (fun y => Cond.code (zYN y) (zCN y) (zMQ y) (zRT y) :: zTs) d K) (hsp0 : sp 18446744073709551616 = 0) (hG : zz_GF z0 G) (hP : ∀ U, G U → zz_GD zS zS2 zLg z0 sp U) : zz_O l zTs D zcl zFK cy z0 sp (zTys cy) G "ToolMillLaw" mn 7 code d K 219 (za_istore 6 221) := zo_istore zd_900_219 (by decide)
theorem zd_900_221 : decode code 221 = .ok (.goto 678, 3) := by decide +kernel
theorem zlw_221 {l : Launch} {D : va_G} {cy : Nat → ClassId} {z0 : Nat} {sp : Nat → Nat} {G : State → Prop} {mn : String} {d : Nat} {K : zz_K} (hKS : zz_KS l D zcl zFK cy z0 sp (zTys cy) G zYN (fun y => Cond.code (zYN y) (zCN y) (zMQ y) (zRT y) :: zTs) d K) (hsp0 : sp 18446744073709551616 = 0) (hG : zz_GF z0 G) (hP : ∀ U, G U → zz_GD zS zS2 zLg z0 sp U) : zz_O l zTs D zcl zFK cy z0 sp (zTys cy) G "ToolMillLaw" mn 7 code d K 221 (za_goto 899) := zo_goto zd_900_221 (by decide)
theorem zd_900_224 : decode code 224 = .ok (.aload_n 1, 1) := by decide +kernel
theorem zlw_224 {l : Launch} {D : va_G} {cy : Nat → ClassId} {z0 : Nat} {sp : Nat → Nat} {G : State → Prop} {mn : String} {d : Nat} {K : zz_K} (hKS : zz_KS l D zcl zFK cy z0 sp (zTys cy) G zYN (fun y => Cond.code (zYN y) (zCN y) (zMQ y) (zRT y) :: zTs) d K) (hsp0 : sp 18446744073709551616 = 0) (hG : zz_GF z0 G) (hP : ∀ U, G U → zz_GD zS zS2 zLg z0 sp U) : zz_O l zTs D zcl zFK cy z0 sp (zTys cy) G "ToolMillLaw" mn 7 code d K 224 (za_aload 1 225) := zo_aload_n zd_900_224 rfl
theorem zd_900_225 : decode code 225 = .ok (.aload_n 3, 1) := by decide +kernel
theorem zlw_225 {l : Launch} {D : va_G} {cy : Nat → ClassId} {z0 : Nat} {sp : Nat → Nat} {G : State → Prop} {mn : String} {d : Nat} {K : zz_K} (hKS : zz_KS l D zcl zFK cy z0 sp (zTys cy) G zYN (fun y => Cond.code (zYN y) (zCN y) (zMQ y) (zRT y) :: zTs) d K) (hsp0 : sp 18446744073709551616 = 0) (hG : zz_GF z0 G) (hP : ∀ U, G U → zz_GD zS zS2 zLg z0 sp U) : zz_O l zTs D zcl zFK cy z0 sp (zTys cy) G "ToolMillLaw" mn 7 code d K 225 (za_aload 3 226) := zo_aload_n zd_900_225 rfl
theorem zd_900_229 : decode code 229 = .ok (.istore 5, 2) := by decide +kernel
theorem zlw_229 {l : Launch} {D : va_G} {cy : Nat → ClassId} {z0 : Nat} {sp : Nat → Nat} {G : State → Prop} {mn : String} {d : Nat} {K : zz_K} (hKS : zz_KS l D zcl zFK cy z0 sp (zTys cy) G zYN (fun y => Cond.code (zYN y) (zCN y) (zMQ y) (zRT y) :: zTs) d K) (hsp0 : sp 18446744073709551616 = 0) (hG : zz_GF z0 G) (hP : ∀ U, G U → zz_GD zS zS2 zLg z0 sp U) : zz_O l zTs D zcl zFK cy z0 sp (zTys cy) G "ToolMillLaw" mn 7 code d K 229 (za_istore 5 231) := zo_istore zd_900_229 (by decide)
theorem zd_900_231 : decode code 231 = .ok (.aload_n 2, 1) := by decide +kernel
theorem zlw_231 {l : Launch} {D : va_G} {cy : Nat → ClassId} {z0 : Nat} {sp : Nat → Nat} {G : State → Prop} {mn : String} {d : Nat} {K : zz_K} (hKS : zz_KS l D zcl zFK cy z0 sp (zTys cy) G zYN (fun y => Cond.code (zYN y) (zCN y) (zMQ y) (zRT y) :: zTs) d K) (hsp0 : sp 18446744073709551616 = 0) (hG : zz_GF z0 G) (hP : ∀ U, G U → zz_GD zS zS2 zLg z0 sp U) : zz_O l zTs D zcl zFK cy z0 sp (zTys cy) G "ToolMillLaw" mn 7 code d K 231 (za_aload 2 232) := zo_aload_n zd_900_231 rfl
theorem zd_900_232 : decode code 232 = .ok (.invokevirtual 113, 3) := by decide +kernel
theorem zlw_232 {l : Launch} {D : va_G} {cy : Nat → ClassId} {z0 : Nat} {sp : Nat → Nat} {G : State → Prop} {mn : String} {d : Nat} {K : zz_K} (hKS : zz_KS l D zcl zFK cy z0 sp (zTys cy) G zYN (fun y => Cond.code (zYN y) (zCN y) (zMQ y) (zRT y) :: zTs) d K) (hsp0 : sp 18446744073709551616 = 0) (hG : zz_GF z0 G) (hP : ∀ U, G U → zz_GD zS zS2 zLg z0 sp U) : zz_O l zTs D zcl zFK cy z0 sp (zTys cy) G "ToolMillLaw" mn 7 code d K 232 (za_callV 0 28 0 235) := zcV_28 hKS hG zd_900_232 zw_3051
theorem zd_900_235 : decode code 235 = .ok (.istore 6, 2) := by decide +kernel
theorem zlw_235 {l : Launch} {D : va_G} {cy : Nat → ClassId} {z0 : Nat} {sp : Nat → Nat} {G : State → Prop} {mn : String} {d : Nat} {K : zz_K} (hKS : zz_KS l D zcl zFK cy z0 sp (zTys cy) G zYN (fun y => Cond.code (zYN y) (zCN y) (zMQ y) (zRT y) :: zTs) d K) (hsp0 : sp 18446744073709551616 = 0) (hG : zz_GF z0 G) (hP : ∀ U, G U → zz_GD zS zS2 zLg z0 sp U) : zz_O l zTs D zcl zFK cy z0 sp (zTys cy) G "ToolMillLaw" mn 7 code d K 235 (za_istore 6 237) := zo_istore zd_900_235 (by decide)
theorem zd_900_237 : decode code 237 = .ok (.goto 662, 3) := by decide +kernel
theorem zlw_237 {l : Launch} {D : va_G} {cy : Nat → ClassId} {z0 : Nat} {sp : Nat → Nat} {G : State → Prop} {mn : String} {d : Nat} {K : zz_K} (hKS : zz_KS l D zcl zFK cy z0 sp (zTys cy) G zYN (fun y => Cond.code (zYN y) (zCN y) (zMQ y) (zRT y) :: zTs) d K) (hsp0 : sp 18446744073709551616 = 0) (hG : zz_GF z0 G) (hP : ∀ U, G U → zz_GD zS zS2 zLg z0 sp U) : zz_O l zTs D zcl zFK cy z0 sp (zTys cy) G "ToolMillLaw" mn 7 code d K 237 (za_goto 899) := zo_goto zd_900_237 (by decide)
theorem zd_900_240 : decode code 240 = .ok (.aload_n 1, 1) := by decide +kernel
theorem zlw_240 {l : Launch} {D : va_G} {cy : Nat → ClassId} {z0 : Nat} {sp : Nat → Nat} {G : State → Prop} {mn : String} {d : Nat} {K : zz_K} (hKS : zz_KS l D zcl zFK cy z0 sp (zTys cy) G zYN (fun y => Cond.code (zYN y) (zCN y) (zMQ y) (zRT y) :: zTs) d K) (hsp0 : sp 18446744073709551616 = 0) (hG : zz_GF z0 G) (hP : ∀ U, G U → zz_GD zS zS2 zLg z0 sp U) : zz_O l zTs D zcl zFK cy z0 sp (zTys cy) G "ToolMillLaw" mn 7 code d K 240 (za_aload 1 241) := zo_aload_n zd_900_240 rfl
theorem zd_900_241 : decode code 241 = .ok (.invokevirtual 114, 3) := by decide +kernel
theorem zlw_241 {l : Launch} {D : va_G} {cy : Nat → ClassId} {z0 : Nat} {sp : Nat → Nat} {G : State → Prop} {mn : String} {d : Nat} {K : zz_K} (hKS : zz_KS l D zcl zFK cy z0 sp (zTys cy) G zYN (fun y => Cond.code (zYN y) (zCN y) (zMQ y) (zRT y) :: zTs) d K) (hsp0 : sp 18446744073709551616 = 0) (hG : zz_GF z0 G) (hP : ∀ U, G U → zz_GD zS zS2 zLg z0 sp U) : zz_O l zTs D zcl zFK cy z0 sp (zTys cy) G "ToolMillLaw" mn 7 code d K 241 (za_callV 1 5 0 244) := zcV_5 hKS hG zd_900_241 zw_3052
theorem zd_900_244 : decode code 244 = .ok (.aload_n 2, 1) := by decide +kernel
theorem zlw_244 {l : Launch} {D : va_G} {cy : Nat → ClassId} {z0 : Nat} {sp : Nat → Nat} {G : State → Prop} {mn : String} {d : Nat} {K : zz_K} (hKS : zz_KS l D zcl zFK cy z0 sp (zTys cy) G zYN (fun y => Cond.code (zYN y) (zCN y) (zMQ y) (zRT y) :: zTs) d K) (hsp0 : sp 18446744073709551616 = 0) (hG : zz_GF z0 G) (hP : ∀ U, G U → zz_GD zS zS2 zLg z0 sp U) : zz_O l zTs D zcl zFK cy z0 sp (zTys cy) G "ToolMillLaw" mn 7 code d K 244 (za_aload 2 245) := zo_aload_n zd_900_244 rfl
theorem zd_900_245 : decode code 245 = .ok (.invokevirtual 117, 3) := by decide +kernel
theorem zlw_245 {l : Launch} {D : va_G} {cy : Nat → ClassId} {z0 : Nat} {sp : Nat → Nat} {G : State → Prop} {mn : String} {d : Nat} {K : zz_K} (hKS : zz_KS l D zcl zFK cy z0 sp (zTys cy) G zYN (fun y => Cond.code (zYN y) (zCN y) (zMQ y) (zRT y) :: zTs) d K) (hsp0 : sp 18446744073709551616 = 0) (hG : zz_GF z0 G) (hP : ∀ U, G U → zz_GD zS zS2 zLg z0 sp U) : zz_O l zTs D zcl zFK cy z0 sp (zTys cy) G "ToolMillLaw" mn 7 code d K 245 (za_callV 0 29 0 248) := zcV_29 hKS hG zd_900_245 zw_3053
theorem zd_900_248 : decode code 248 = .ok (.goto 651, 3) := by decide +kernel
theorem zlw_248 {l : Launch} {D : va_G} {cy : Nat → ClassId} {z0 : Nat} {sp : Nat → Nat} {G : State → Prop} {mn : String} {d : Nat} {K : zz_K} (hKS : zz_KS l D zcl zFK cy z0 sp (zTys cy) G zYN (fun y => Cond.code (zYN y) (zCN y) (zMQ y) (zRT y) :: zTs) d K) (hsp0 : sp 18446744073709551616 = 0) (hG : zz_GF z0 G) (hP : ∀ U, G U → zz_GD zS zS2 zLg z0 sp U) : zz_O l zTs D zcl zFK cy z0 sp (zTys cy) G "ToolMillLaw" mn 7 code d K 248 (za_goto 899) := zo_goto zd_900_248 (by decide)
theorem zd_900_251 : decode code 251 = .ok (.aload_n 1, 1) := by decide +kernel
theorem zlw_251 {l : Launch} {D : va_G} {cy : Nat → ClassId} {z0 : Nat} {sp : Nat → Nat} {G : State → Prop} {mn : String} {d : Nat} {K : zz_K} (hKS : zz_KS l D zcl zFK cy z0 sp (zTys cy) G zYN (fun y => Cond.code (zYN y) (zCN y) (zMQ y) (zRT y) :: zTs) d K) (hsp0 : sp 18446744073709551616 = 0) (hG : zz_GF z0 G) (hP : ∀ U, G U → zz_GD zS zS2 zLg z0 sp U) : zz_O l zTs D zcl zFK cy z0 sp (zTys cy) G "ToolMillLaw" mn 7 code d K 251 (za_aload 1 252) := zo_aload_n zd_900_251 rfl
theorem zd_900_252 : decode code 252 = .ok (.aload_n 0, 1) := by decide +kernel
theorem zlw_252 {l : Launch} {D : va_G} {cy : Nat → ClassId} {z0 : Nat} {sp : Nat → Nat} {G : State → Prop} {mn : String} {d : Nat} {K : zz_K} (hKS : zz_KS l D zcl zFK cy z0 sp (zTys cy) G zYN (fun y => Cond.code (zYN y) (zCN y) (zMQ y) (zRT y) :: zTs) d K) (hsp0 : sp 18446744073709551616 = 0) (hG : zz_GF z0 G) (hP : ∀ U, G U → zz_GD zS zS2 zLg z0 sp U) : zz_O l zTs D zcl zFK cy z0 sp (zTys cy) G "ToolMillLaw" mn 7 code d K 252 (za_aload 0 253) := zo_aload_n zd_900_252 rfl
theorem zd_900_253 : decode code 253 = .ok (.iload 4, 2) := by decide +kernel
theorem zlw_253 {l : Launch} {D : va_G} {cy : Nat → ClassId} {z0 : Nat} {sp : Nat → Nat} {G : State → Prop} {mn : String} {d : Nat} {K : zz_K} (hKS : zz_KS l D zcl zFK cy z0 sp (zTys cy) G zYN (fun y => Cond.code (zYN y) (zCN y) (zMQ y) (zRT y) :: zTs) d K) (hsp0 : sp 18446744073709551616 = 0) (hG : zz_GF z0 G) (hP : ∀ U, G U → zz_GD zS zS2 zLg z0 sp U) : zz_O l zTs D zcl zFK cy z0 sp (zTys cy) G "ToolMillLaw" mn 7 code d K 253 (za_iload 4 255) := zo_iload zd_900_253
theorem zd_900_255 : decode code 255 = .ok (.iconst 1, 1) := by decide +kernel
theorem zlw_255 {l : Launch} {D : va_G} {cy : Nat → ClassId} {z0 : Nat} {sp : Nat → Nat} {G : State → Prop} {mn : String} {d : Nat} {K : zz_K} (hKS : zz_KS l D zcl zFK cy z0 sp (zTys cy) G zYN (fun y => Cond.code (zYN y) (zCN y) (zMQ y) (zRT y) :: zTs) d K) (hsp0 : sp 18446744073709551616 = 0) (hG : zz_GF z0 G) (hP : ∀ U, G U → zz_GD zS zS2 zLg z0 sp U) : zz_O l zTs D zcl zFK cy z0 sp (zTys cy) G "ToolMillLaw" mn 7 code d K 255 (za_const (.int (Int32.ofNat 1)) 256) := zo_iconst zd_900_255 (by decide)
theorem zd_900_256 : decode code 256 = .ok (.iadd, 1) := by decide +kernel
theorem zlw_256 {l : Launch} {D : va_G} {cy : Nat → ClassId} {z0 : Nat} {sp : Nat → Nat} {G : State → Prop} {mn : String} {d : Nat} {K : zz_K} (hKS : zz_KS l D zcl zFK cy z0 sp (zTys cy) G zYN (fun y => Cond.code (zYN y) (zCN y) (zMQ y) (zRT y) :: zTs) d K) (hsp0 : sp 18446744073709551616 = 0) (hG : zz_GF z0 G) (hP : ∀ U, G U → zz_GD zS zS2 zLg z0 sp U) : zz_O l zTs D zcl zFK cy z0 sp (zTys cy) G "ToolMillLaw" mn 7 code d K 256 (za_iadd 257) := zo_iadd zd_900_256
theorem zd_900_258 : decode code 258 = .ok (.aload_n 3, 1) := by decide +kernel
theorem zlw_258 {l : Launch} {D : va_G} {cy : Nat → ClassId} {z0 : Nat} {sp : Nat → Nat} {G : State → Prop} {mn : String} {d : Nat} {K : zz_K} (hKS : zz_KS l D zcl zFK cy z0 sp (zTys cy) G zYN (fun y => Cond.code (zYN y) (zCN y) (zMQ y) (zRT y) :: zTs) d K) (hsp0 : sp 18446744073709551616 = 0) (hG : zz_GF z0 G) (hP : ∀ U, G U → zz_GD zS zS2 zLg z0 sp U) : zz_O l zTs D zcl zFK cy z0 sp (zTys cy) G "ToolMillLaw" mn 7 code d K 258 (za_aload 3 259) := zo_aload_n zd_900_258 rfl
theorem zd_900_262 : decode code 262 = .ok (.istore 5, 2) := by decide +kernel
theorem zlw_262 {l : Launch} {D : va_G} {cy : Nat → ClassId} {z0 : Nat} {sp : Nat → Nat} {G : State → Prop} {mn : String} {d : Nat} {K : zz_K} (hKS : zz_KS l D zcl zFK cy z0 sp (zTys cy) G zYN (fun y => Cond.code (zYN y) (zCN y) (zMQ y) (zRT y) :: zTs) d K) (hsp0 : sp 18446744073709551616 = 0) (hG : zz_GF z0 G) (hP : ∀ U, G U → zz_GD zS zS2 zLg z0 sp U) : zz_O l zTs D zcl zFK cy z0 sp (zTys cy) G "ToolMillLaw" mn 7 code d K 262 (za_istore 5 264) := zo_istore zd_900_262 (by decide)
theorem zd_900_264 : decode code 264 = .ok (.aload_n 2, 1) := by decide +kernel
theorem zlw_264 {l : Launch} {D : va_G} {cy : Nat → ClassId} {z0 : Nat} {sp : Nat → Nat} {G : State → Prop} {mn : String} {d : Nat} {K : zz_K} (hKS : zz_KS l D zcl zFK cy z0 sp (zTys cy) G zYN (fun y => Cond.code (zYN y) (zCN y) (zMQ y) (zRT y) :: zTs) d K) (hsp0 : sp 18446744073709551616 = 0) (hG : zz_GF z0 G) (hP : ∀ U, G U → zz_GD zS zS2 zLg z0 sp U) : zz_O l zTs D zcl zFK cy z0 sp (zTys cy) G "ToolMillLaw" mn 7 code d K 264 (za_aload 2 265) := zo_aload_n zd_900_264 rfl
theorem zd_900_265 : decode code 265 = .ok (.aload_n 0, 1) := by decide +kernel
theorem zlw_265 {l : Launch} {D : va_G} {cy : Nat → ClassId} {z0 : Nat} {sp : Nat → Nat} {G : State → Prop} {mn : String} {d : Nat} {K : zz_K} (hKS : zz_KS l D zcl zFK cy z0 sp (zTys cy) G zYN (fun y => Cond.code (zYN y) (zCN y) (zMQ y) (zRT y) :: zTs) d K) (hsp0 : sp 18446744073709551616 = 0) (hG : zz_GF z0 G) (hP : ∀ U, G U → zz_GD zS zS2 zLg z0 sp U) : zz_O l zTs D zcl zFK cy z0 sp (zTys cy) G "ToolMillLaw" mn 7 code d K 265 (za_aload 0 266) := zo_aload_n zd_900_265 rfl
theorem zd_900_266 : decode code 266 = .ok (.iload 4, 2) := by decide +kernel
theorem zlw_266 {l : Launch} {D : va_G} {cy : Nat → ClassId} {z0 : Nat} {sp : Nat → Nat} {G : State → Prop} {mn : String} {d : Nat} {K : zz_K} (hKS : zz_KS l D zcl zFK cy z0 sp (zTys cy) G zYN (fun y => Cond.code (zYN y) (zCN y) (zMQ y) (zRT y) :: zTs) d K) (hsp0 : sp 18446744073709551616 = 0) (hG : zz_GF z0 G) (hP : ∀ U, G U → zz_GD zS zS2 zLg z0 sp U) : zz_O l zTs D zcl zFK cy z0 sp (zTys cy) G "ToolMillLaw" mn 7 code d K 266 (za_iload 4 268) := zo_iload zd_900_266
theorem zd_900_268 : decode code 268 = .ok (.iconst 1, 1) := by decide +kernel
theorem zlw_268 {l : Launch} {D : va_G} {cy : Nat → ClassId} {z0 : Nat} {sp : Nat → Nat} {G : State → Prop} {mn : String} {d : Nat} {K : zz_K} (hKS : zz_KS l D zcl zFK cy z0 sp (zTys cy) G zYN (fun y => Cond.code (zYN y) (zCN y) (zMQ y) (zRT y) :: zTs) d K) (hsp0 : sp 18446744073709551616 = 0) (hG : zz_GF z0 G) (hP : ∀ U, G U → zz_GD zS zS2 zLg z0 sp U) : zz_O l zTs D zcl zFK cy z0 sp (zTys cy) G "ToolMillLaw" mn 7 code d K 268 (za_const (.int (Int32.ofNat 1)) 269) := zo_iconst zd_900_268 (by decide)
theorem zd_900_269 : decode code 269 = .ok (.iadd, 1) := by decide +kernel
theorem zlw_269 {l : Launch} {D : va_G} {cy : Nat → ClassId} {z0 : Nat} {sp : Nat → Nat} {G : State → Prop} {mn : String} {d : Nat} {K : zz_K} (hKS : zz_KS l D zcl zFK cy z0 sp (zTys cy) G zYN (fun y => Cond.code (zYN y) (zCN y) (zMQ y) (zRT y) :: zTs) d K) (hsp0 : sp 18446744073709551616 = 0) (hG : zz_GF z0 G) (hP : ∀ U, G U → zz_GD zS zS2 zLg z0 sp U) : zz_O l zTs D zcl zFK cy z0 sp (zTys cy) G "ToolMillLaw" mn 7 code d K 269 (za_iadd 270) := zo_iadd zd_900_269
theorem zd_900_271 : decode code 271 = .ok (.invokevirtual 120, 3) := by decide +kernel
theorem zlw_271 {l : Launch} {D : va_G} {cy : Nat → ClassId} {z0 : Nat} {sp : Nat → Nat} {G : State → Prop} {mn : String} {d : Nat} {K : zz_K} (hKS : zz_KS l D zcl zFK cy z0 sp (zTys cy) G zYN (fun y => Cond.code (zYN y) (zCN y) (zMQ y) (zRT y) :: zTs) d K) (hsp0 : sp 18446744073709551616 = 0) (hG : zz_GF z0 G) (hP : ∀ U, G U → zz_GD zS zS2 zLg z0 sp U) : zz_O l zTs D zcl zFK cy z0 sp (zTys cy) G "ToolMillLaw" mn 7 code d K 271 (za_callV 0 30 1 274) := zcV_30 hKS hG zd_900_271 zw_3054
theorem zd_900_274 : decode code 274 = .ok (.istore 6, 2) := by decide +kernel
theorem zlw_274 {l : Launch} {D : va_G} {cy : Nat → ClassId} {z0 : Nat} {sp : Nat → Nat} {G : State → Prop} {mn : String} {d : Nat} {K : zz_K} (hKS : zz_KS l D zcl zFK cy z0 sp (zTys cy) G zYN (fun y => Cond.code (zYN y) (zCN y) (zMQ y) (zRT y) :: zTs) d K) (hsp0 : sp 18446744073709551616 = 0) (hG : zz_GF z0 G) (hP : ∀ U, G U → zz_GD zS zS2 zLg z0 sp U) : zz_O l zTs D zcl zFK cy z0 sp (zTys cy) G "ToolMillLaw" mn 7 code d K 274 (za_istore 6 276) := zo_istore zd_900_274 (by decide)
theorem zd_900_276 : decode code 276 = .ok (.goto 623, 3) := by decide +kernel
theorem zlw_276 {l : Launch} {D : va_G} {cy : Nat → ClassId} {z0 : Nat} {sp : Nat → Nat} {G : State → Prop} {mn : String} {d : Nat} {K : zz_K} (hKS : zz_KS l D zcl zFK cy z0 sp (zTys cy) G zYN (fun y => Cond.code (zYN y) (zCN y) (zMQ y) (zRT y) :: zTs) d K) (hsp0 : sp 18446744073709551616 = 0) (hG : zz_GF z0 G) (hP : ∀ U, G U → zz_GD zS zS2 zLg z0 sp U) : zz_O l zTs D zcl zFK cy z0 sp (zTys cy) G "ToolMillLaw" mn 7 code d K 276 (za_goto 899) := zo_goto zd_900_276 (by decide)
theorem zd_900_279 : decode code 279 = .ok (.aload_n 1, 1) := by decide +kernel
theorem zlw_279 {l : Launch} {D : va_G} {cy : Nat → ClassId} {z0 : Nat} {sp : Nat → Nat} {G : State → Prop} {mn : String} {d : Nat} {K : zz_K} (hKS : zz_KS l D zcl zFK cy z0 sp (zTys cy) G zYN (fun y => Cond.code (zYN y) (zCN y) (zMQ y) (zRT y) :: zTs) d K) (hsp0 : sp 18446744073709551616 = 0) (hG : zz_GF z0 G) (hP : ∀ U, G U → zz_GD zS zS2 zLg z0 sp U) : zz_O l zTs D zcl zFK cy z0 sp (zTys cy) G "ToolMillLaw" mn 7 code d K 279 (za_aload 1 280) := zo_aload_n zd_900_279 rfl
theorem zd_900_280 : decode code 280 = .ok (.aload_n 0, 1) := by decide +kernel
theorem zlw_280 {l : Launch} {D : va_G} {cy : Nat → ClassId} {z0 : Nat} {sp : Nat → Nat} {G : State → Prop} {mn : String} {d : Nat} {K : zz_K} (hKS : zz_KS l D zcl zFK cy z0 sp (zTys cy) G zYN (fun y => Cond.code (zYN y) (zCN y) (zMQ y) (zRT y) :: zTs) d K) (hsp0 : sp 18446744073709551616 = 0) (hG : zz_GF z0 G) (hP : ∀ U, G U → zz_GD zS zS2 zLg z0 sp U) : zz_O l zTs D zcl zFK cy z0 sp (zTys cy) G "ToolMillLaw" mn 7 code d K 280 (za_aload 0 281) := zo_aload_n zd_900_280 rfl
theorem zd_900_281 : decode code 281 = .ok (.iload 4, 2) := by decide +kernel
theorem zlw_281 {l : Launch} {D : va_G} {cy : Nat → ClassId} {z0 : Nat} {sp : Nat → Nat} {G : State → Prop} {mn : String} {d : Nat} {K : zz_K} (hKS : zz_KS l D zcl zFK cy z0 sp (zTys cy) G zYN (fun y => Cond.code (zYN y) (zCN y) (zMQ y) (zRT y) :: zTs) d K) (hsp0 : sp 18446744073709551616 = 0) (hG : zz_GF z0 G) (hP : ∀ U, G U → zz_GD zS zS2 zLg z0 sp U) : zz_O l zTs D zcl zFK cy z0 sp (zTys cy) G "ToolMillLaw" mn 7 code d K 281 (za_iload 4 283) := zo_iload zd_900_281
theorem zd_900_283 : decode code 283 = .ok (.iconst 1, 1) := by decide +kernel
theorem zlw_283 {l : Launch} {D : va_G} {cy : Nat → ClassId} {z0 : Nat} {sp : Nat → Nat} {G : State → Prop} {mn : String} {d : Nat} {K : zz_K} (hKS : zz_KS l D zcl zFK cy z0 sp (zTys cy) G zYN (fun y => Cond.code (zYN y) (zCN y) (zMQ y) (zRT y) :: zTs) d K) (hsp0 : sp 18446744073709551616 = 0) (hG : zz_GF z0 G) (hP : ∀ U, G U → zz_GD zS zS2 zLg z0 sp U) : zz_O l zTs D zcl zFK cy z0 sp (zTys cy) G "ToolMillLaw" mn 7 code d K 283 (za_const (.int (Int32.ofNat 1)) 284) := zo_iconst zd_900_283 (by decide)
theorem zd_900_284 : decode code 284 = .ok (.iadd, 1) := by decide +kernel
theorem zlw_284 {l : Launch} {D : va_G} {cy : Nat → ClassId} {z0 : Nat} {sp : Nat → Nat} {G : State → Prop} {mn : String} {d : Nat} {K : zz_K} (hKS : zz_KS l D zcl zFK cy z0 sp (zTys cy) G zYN (fun y => Cond.code (zYN y) (zCN y) (zMQ y) (zRT y) :: zTs) d K) (hsp0 : sp 18446744073709551616 = 0) (hG : zz_GF z0 G) (hP : ∀ U, G U → zz_GD zS zS2 zLg z0 sp U) : zz_O l zTs D zcl zFK cy z0 sp (zTys cy) G "ToolMillLaw" mn 7 code d K 284 (za_iadd 285) := zo_iadd zd_900_284
theorem zd_900_286 : decode code 286 = .ok (.aload_n 0, 1) := by decide +kernel
theorem zlw_286 {l : Launch} {D : va_G} {cy : Nat → ClassId} {z0 : Nat} {sp : Nat → Nat} {G : State → Prop} {mn : String} {d : Nat} {K : zz_K} (hKS : zz_KS l D zcl zFK cy z0 sp (zTys cy) G zYN (fun y => Cond.code (zYN y) (zCN y) (zMQ y) (zRT y) :: zTs) d K) (hsp0 : sp 18446744073709551616 = 0) (hG : zz_GF z0 G) (hP : ∀ U, G U → zz_GD zS zS2 zLg z0 sp U) : zz_O l zTs D zcl zFK cy z0 sp (zTys cy) G "ToolMillLaw" mn 7 code d K 286 (za_aload 0 287) := zo_aload_n zd_900_286 rfl
theorem zd_900_287 : decode code 287 = .ok (.iload 4, 2) := by decide +kernel
theorem zlw_287 {l : Launch} {D : va_G} {cy : Nat → ClassId} {z0 : Nat} {sp : Nat → Nat} {G : State → Prop} {mn : String} {d : Nat} {K : zz_K} (hKS : zz_KS l D zcl zFK cy z0 sp (zTys cy) G zYN (fun y => Cond.code (zYN y) (zCN y) (zMQ y) (zRT y) :: zTs) d K) (hsp0 : sp 18446744073709551616 = 0) (hG : zz_GF z0 G) (hP : ∀ U, G U → zz_GD zS zS2 zLg z0 sp U) : zz_O l zTs D zcl zFK cy z0 sp (zTys cy) G "ToolMillLaw" mn 7 code d K 287 (za_iload 4 289) := zo_iload zd_900_287
theorem zd_900_289 : decode code 289 = .ok (.iconst 2, 1) := by decide +kernel
theorem zlw_289 {l : Launch} {D : va_G} {cy : Nat → ClassId} {z0 : Nat} {sp : Nat → Nat} {G : State → Prop} {mn : String} {d : Nat} {K : zz_K} (hKS : zz_KS l D zcl zFK cy z0 sp (zTys cy) G zYN (fun y => Cond.code (zYN y) (zCN y) (zMQ y) (zRT y) :: zTs) d K) (hsp0 : sp 18446744073709551616 = 0) (hG : zz_GF z0 G) (hP : ∀ U, G U → zz_GD zS zS2 zLg z0 sp U) : zz_O l zTs D zcl zFK cy z0 sp (zTys cy) G "ToolMillLaw" mn 7 code d K 289 (za_const (.int (Int32.ofNat 2)) 290) := zo_iconst zd_900_289 (by decide)
theorem zd_900_290 : decode code 290 = .ok (.iadd, 1) := by decide +kernel
theorem zlw_290 {l : Launch} {D : va_G} {cy : Nat → ClassId} {z0 : Nat} {sp : Nat → Nat} {G : State → Prop} {mn : String} {d : Nat} {K : zz_K} (hKS : zz_KS l D zcl zFK cy z0 sp (zTys cy) G zYN (fun y => Cond.code (zYN y) (zCN y) (zMQ y) (zRT y) :: zTs) d K) (hsp0 : sp 18446744073709551616 = 0) (hG : zz_GF z0 G) (hP : ∀ U, G U → zz_GD zS zS2 zLg z0 sp U) : zz_O l zTs D zcl zFK cy z0 sp (zTys cy) G "ToolMillLaw" mn 7 code d K 290 (za_iadd 291) := zo_iadd zd_900_290
theorem zd_900_292 : decode code 292 = .ok (.aload_n 3, 1) := by decide +kernel
theorem zlw_292 {l : Launch} {D : va_G} {cy : Nat → ClassId} {z0 : Nat} {sp : Nat → Nat} {G : State → Prop} {mn : String} {d : Nat} {K : zz_K} (hKS : zz_KS l D zcl zFK cy z0 sp (zTys cy) G zYN (fun y => Cond.code (zYN y) (zCN y) (zMQ y) (zRT y) :: zTs) d K) (hsp0 : sp 18446744073709551616 = 0) (hG : zz_GF z0 G) (hP : ∀ U, G U → zz_GD zS zS2 zLg z0 sp U) : zz_O l zTs D zcl zFK cy z0 sp (zTys cy) G "ToolMillLaw" mn 7 code d K 292 (za_aload 3 293) := zo_aload_n zd_900_292 rfl
theorem zd_900_296 : decode code 296 = .ok (.istore 5, 2) := by decide +kernel
theorem zlw_296 {l : Launch} {D : va_G} {cy : Nat → ClassId} {z0 : Nat} {sp : Nat → Nat} {G : State → Prop} {mn : String} {d : Nat} {K : zz_K} (hKS : zz_KS l D zcl zFK cy z0 sp (zTys cy) G zYN (fun y => Cond.code (zYN y) (zCN y) (zMQ y) (zRT y) :: zTs) d K) (hsp0 : sp 18446744073709551616 = 0) (hG : zz_GF z0 G) (hP : ∀ U, G U → zz_GD zS zS2 zLg z0 sp U) : zz_O l zTs D zcl zFK cy z0 sp (zTys cy) G "ToolMillLaw" mn 7 code d K 296 (za_istore 5 298) := zo_istore zd_900_296 (by decide)
theorem zd_900_298 : decode code 298 = .ok (.aload_n 2, 1) := by decide +kernel
theorem zlw_298 {l : Launch} {D : va_G} {cy : Nat → ClassId} {z0 : Nat} {sp : Nat → Nat} {G : State → Prop} {mn : String} {d : Nat} {K : zz_K} (hKS : zz_KS l D zcl zFK cy z0 sp (zTys cy) G zYN (fun y => Cond.code (zYN y) (zCN y) (zMQ y) (zRT y) :: zTs) d K) (hsp0 : sp 18446744073709551616 = 0) (hG : zz_GF z0 G) (hP : ∀ U, G U → zz_GD zS zS2 zLg z0 sp U) : zz_O l zTs D zcl zFK cy z0 sp (zTys cy) G "ToolMillLaw" mn 7 code d K 298 (za_aload 2 299) := zo_aload_n zd_900_298 rfl
theorem zd_900_299 : decode code 299 = .ok (.aload_n 0, 1) := by decide +kernel
theorem zlw_299 {l : Launch} {D : va_G} {cy : Nat → ClassId} {z0 : Nat} {sp : Nat → Nat} {G : State → Prop} {mn : String} {d : Nat} {K : zz_K} (hKS : zz_KS l D zcl zFK cy z0 sp (zTys cy) G zYN (fun y => Cond.code (zYN y) (zCN y) (zMQ y) (zRT y) :: zTs) d K) (hsp0 : sp 18446744073709551616 = 0) (hG : zz_GF z0 G) (hP : ∀ U, G U → zz_GD zS zS2 zLg z0 sp U) : zz_O l zTs D zcl zFK cy z0 sp (zTys cy) G "ToolMillLaw" mn 7 code d K 299 (za_aload 0 300) := zo_aload_n zd_900_299 rfl
theorem zd_900_300 : decode code 300 = .ok (.iload 4, 2) := by decide +kernel
theorem zlw_300 {l : Launch} {D : va_G} {cy : Nat → ClassId} {z0 : Nat} {sp : Nat → Nat} {G : State → Prop} {mn : String} {d : Nat} {K : zz_K} (hKS : zz_KS l D zcl zFK cy z0 sp (zTys cy) G zYN (fun y => Cond.code (zYN y) (zCN y) (zMQ y) (zRT y) :: zTs) d K) (hsp0 : sp 18446744073709551616 = 0) (hG : zz_GF z0 G) (hP : ∀ U, G U → zz_GD zS zS2 zLg z0 sp U) : zz_O l zTs D zcl zFK cy z0 sp (zTys cy) G "ToolMillLaw" mn 7 code d K 300 (za_iload 4 302) := zo_iload zd_900_300
theorem zd_900_302 : decode code 302 = .ok (.iconst 1, 1) := by decide +kernel
theorem zlw_302 {l : Launch} {D : va_G} {cy : Nat → ClassId} {z0 : Nat} {sp : Nat → Nat} {G : State → Prop} {mn : String} {d : Nat} {K : zz_K} (hKS : zz_KS l D zcl zFK cy z0 sp (zTys cy) G zYN (fun y => Cond.code (zYN y) (zCN y) (zMQ y) (zRT y) :: zTs) d K) (hsp0 : sp 18446744073709551616 = 0) (hG : zz_GF z0 G) (hP : ∀ U, G U → zz_GD zS zS2 zLg z0 sp U) : zz_O l zTs D zcl zFK cy z0 sp (zTys cy) G "ToolMillLaw" mn 7 code d K 302 (za_const (.int (Int32.ofNat 1)) 303) := zo_iconst zd_900_302 (by decide)
theorem zd_900_303 : decode code 303 = .ok (.iadd, 1) := by decide +kernel
theorem zlw_303 {l : Launch} {D : va_G} {cy : Nat → ClassId} {z0 : Nat} {sp : Nat → Nat} {G : State → Prop} {mn : String} {d : Nat} {K : zz_K} (hKS : zz_KS l D zcl zFK cy z0 sp (zTys cy) G zYN (fun y => Cond.code (zYN y) (zCN y) (zMQ y) (zRT y) :: zTs) d K) (hsp0 : sp 18446744073709551616 = 0) (hG : zz_GF z0 G) (hP : ∀ U, G U → zz_GD zS zS2 zLg z0 sp U) : zz_O l zTs D zcl zFK cy z0 sp (zTys cy) G "ToolMillLaw" mn 7 code d K 303 (za_iadd 304) := zo_iadd zd_900_303
theorem zd_900_305 : decode code 305 = .ok (.aload_n 0, 1) := by decide +kernel
theorem zlw_305 {l : Launch} {D : va_G} {cy : Nat → ClassId} {z0 : Nat} {sp : Nat → Nat} {G : State → Prop} {mn : String} {d : Nat} {K : zz_K} (hKS : zz_KS l D zcl zFK cy z0 sp (zTys cy) G zYN (fun y => Cond.code (zYN y) (zCN y) (zMQ y) (zRT y) :: zTs) d K) (hsp0 : sp 18446744073709551616 = 0) (hG : zz_GF z0 G) (hP : ∀ U, G U → zz_GD zS zS2 zLg z0 sp U) : zz_O l zTs D zcl zFK cy z0 sp (zTys cy) G "ToolMillLaw" mn 7 code d K 305 (za_aload 0 306) := zo_aload_n zd_900_305 rfl
theorem zd_900_306 : decode code 306 = .ok (.iload 4, 2) := by decide +kernel
theorem zlw_306 {l : Launch} {D : va_G} {cy : Nat → ClassId} {z0 : Nat} {sp : Nat → Nat} {G : State → Prop} {mn : String} {d : Nat} {K : zz_K} (hKS : zz_KS l D zcl zFK cy z0 sp (zTys cy) G zYN (fun y => Cond.code (zYN y) (zCN y) (zMQ y) (zRT y) :: zTs) d K) (hsp0 : sp 18446744073709551616 = 0) (hG : zz_GF z0 G) (hP : ∀ U, G U → zz_GD zS zS2 zLg z0 sp U) : zz_O l zTs D zcl zFK cy z0 sp (zTys cy) G "ToolMillLaw" mn 7 code d K 306 (za_iload 4 308) := zo_iload zd_900_306
theorem zd_900_308 : decode code 308 = .ok (.iconst 2, 1) := by decide +kernel
theorem zlw_308 {l : Launch} {D : va_G} {cy : Nat → ClassId} {z0 : Nat} {sp : Nat → Nat} {G : State → Prop} {mn : String} {d : Nat} {K : zz_K} (hKS : zz_KS l D zcl zFK cy z0 sp (zTys cy) G zYN (fun y => Cond.code (zYN y) (zCN y) (zMQ y) (zRT y) :: zTs) d K) (hsp0 : sp 18446744073709551616 = 0) (hG : zz_GF z0 G) (hP : ∀ U, G U → zz_GD zS zS2 zLg z0 sp U) : zz_O l zTs D zcl zFK cy z0 sp (zTys cy) G "ToolMillLaw" mn 7 code d K 308 (za_const (.int (Int32.ofNat 2)) 309) := zo_iconst zd_900_308 (by decide)
theorem zd_900_309 : decode code 309 = .ok (.iadd, 1) := by decide +kernel
theorem zlw_309 {l : Launch} {D : va_G} {cy : Nat → ClassId} {z0 : Nat} {sp : Nat → Nat} {G : State → Prop} {mn : String} {d : Nat} {K : zz_K} (hKS : zz_KS l D zcl zFK cy z0 sp (zTys cy) G zYN (fun y => Cond.code (zYN y) (zCN y) (zMQ y) (zRT y) :: zTs) d K) (hsp0 : sp 18446744073709551616 = 0) (hG : zz_GF z0 G) (hP : ∀ U, G U → zz_GD zS zS2 zLg z0 sp U) : zz_O l zTs D zcl zFK cy z0 sp (zTys cy) G "ToolMillLaw" mn 7 code d K 309 (za_iadd 310) := zo_iadd zd_900_309
theorem zd_900_311 : decode code 311 = .ok (.invokevirtual 124, 3) := by decide +kernel
theorem zlw_311 {l : Launch} {D : va_G} {cy : Nat → ClassId} {z0 : Nat} {sp : Nat → Nat} {G : State → Prop} {mn : String} {d : Nat} {K : zz_K} (hKS : zz_KS l D zcl zFK cy z0 sp (zTys cy) G zYN (fun y => Cond.code (zYN y) (zCN y) (zMQ y) (zRT y) :: zTs) d K) (hsp0 : sp 18446744073709551616 = 0) (hG : zz_GF z0 G) (hP : ∀ U, G U → zz_GD zS zS2 zLg z0 sp U) : zz_O l zTs D zcl zFK cy z0 sp (zTys cy) G "ToolMillLaw" mn 7 code d K 311 (za_callV 0 31 2 314) := zcV_31 hKS hG zd_900_311 zw_3055
theorem zd_900_314 : decode code 314 = .ok (.istore 6, 2) := by decide +kernel
theorem zlw_314 {l : Launch} {D : va_G} {cy : Nat → ClassId} {z0 : Nat} {sp : Nat → Nat} {G : State → Prop} {mn : String} {d : Nat} {K : zz_K} (hKS : zz_KS l D zcl zFK cy z0 sp (zTys cy) G zYN (fun y => Cond.code (zYN y) (zCN y) (zMQ y) (zRT y) :: zTs) d K) (hsp0 : sp 18446744073709551616 = 0) (hG : zz_GF z0 G) (hP : ∀ U, G U → zz_GD zS zS2 zLg z0 sp U) : zz_O l zTs D zcl zFK cy z0 sp (zTys cy) G "ToolMillLaw" mn 7 code d K 314 (za_istore 6 316) := zo_istore zd_900_314 (by decide)
theorem zd_900_316 : decode code 316 = .ok (.goto 583, 3) := by decide +kernel
theorem zlw_316 {l : Launch} {D : va_G} {cy : Nat → ClassId} {z0 : Nat} {sp : Nat → Nat} {G : State → Prop} {mn : String} {d : Nat} {K : zz_K} (hKS : zz_KS l D zcl zFK cy z0 sp (zTys cy) G zYN (fun y => Cond.code (zYN y) (zCN y) (zMQ y) (zRT y) :: zTs) d K) (hsp0 : sp 18446744073709551616 = 0) (hG : zz_GF z0 G) (hP : ∀ U, G U → zz_GD zS zS2 zLg z0 sp U) : zz_O l zTs D zcl zFK cy z0 sp (zTys cy) G "ToolMillLaw" mn 7 code d K 316 (za_goto 899) := zo_goto zd_900_316 (by decide)
theorem zd_900_319 : decode code 319 = .ok (.aload_n 1, 1) := by decide +kernel
theorem zlw_319 {l : Launch} {D : va_G} {cy : Nat → ClassId} {z0 : Nat} {sp : Nat → Nat} {G : State → Prop} {mn : String} {d : Nat} {K : zz_K} (hKS : zz_KS l D zcl zFK cy z0 sp (zTys cy) G zYN (fun y => Cond.code (zYN y) (zCN y) (zMQ y) (zRT y) :: zTs) d K) (hsp0 : sp 18446744073709551616 = 0) (hG : zz_GF z0 G) (hP : ∀ U, G U → zz_GD zS zS2 zLg z0 sp U) : zz_O l zTs D zcl zFK cy z0 sp (zTys cy) G "ToolMillLaw" mn 7 code d K 319 (za_aload 1 320) := zo_aload_n zd_900_319 rfl
theorem zd_900_320 : decode code 320 = .ok (.aload_n 0, 1) := by decide +kernel
theorem zlw_320 {l : Launch} {D : va_G} {cy : Nat → ClassId} {z0 : Nat} {sp : Nat → Nat} {G : State → Prop} {mn : String} {d : Nat} {K : zz_K} (hKS : zz_KS l D zcl zFK cy z0 sp (zTys cy) G zYN (fun y => Cond.code (zYN y) (zCN y) (zMQ y) (zRT y) :: zTs) d K) (hsp0 : sp 18446744073709551616 = 0) (hG : zz_GF z0 G) (hP : ∀ U, G U → zz_GD zS zS2 zLg z0 sp U) : zz_O l zTs D zcl zFK cy z0 sp (zTys cy) G "ToolMillLaw" mn 7 code d K 320 (za_aload 0 321) := zo_aload_n zd_900_320 rfl
theorem zd_900_321 : decode code 321 = .ok (.iload 4, 2) := by decide +kernel
theorem zlw_321 {l : Launch} {D : va_G} {cy : Nat → ClassId} {z0 : Nat} {sp : Nat → Nat} {G : State → Prop} {mn : String} {d : Nat} {K : zz_K} (hKS : zz_KS l D zcl zFK cy z0 sp (zTys cy) G zYN (fun y => Cond.code (zYN y) (zCN y) (zMQ y) (zRT y) :: zTs) d K) (hsp0 : sp 18446744073709551616 = 0) (hG : zz_GF z0 G) (hP : ∀ U, G U → zz_GD zS zS2 zLg z0 sp U) : zz_O l zTs D zcl zFK cy z0 sp (zTys cy) G "ToolMillLaw" mn 7 code d K 321 (za_iload 4 323) := zo_iload zd_900_321
theorem zd_900_323 : decode code 323 = .ok (.iconst 1, 1) := by decide +kernel
theorem zlw_323 {l : Launch} {D : va_G} {cy : Nat → ClassId} {z0 : Nat} {sp : Nat → Nat} {G : State → Prop} {mn : String} {d : Nat} {K : zz_K} (hKS : zz_KS l D zcl zFK cy z0 sp (zTys cy) G zYN (fun y => Cond.code (zYN y) (zCN y) (zMQ y) (zRT y) :: zTs) d K) (hsp0 : sp 18446744073709551616 = 0) (hG : zz_GF z0 G) (hP : ∀ U, G U → zz_GD zS zS2 zLg z0 sp U) : zz_O l zTs D zcl zFK cy z0 sp (zTys cy) G "ToolMillLaw" mn 7 code d K 323 (za_const (.int (Int32.ofNat 1)) 324) := zo_iconst zd_900_323 (by decide)
theorem zd_900_324 : decode code 324 = .ok (.iadd, 1) := by decide +kernel
theorem zlw_324 {l : Launch} {D : va_G} {cy : Nat → ClassId} {z0 : Nat} {sp : Nat → Nat} {G : State → Prop} {mn : String} {d : Nat} {K : zz_K} (hKS : zz_KS l D zcl zFK cy z0 sp (zTys cy) G zYN (fun y => Cond.code (zYN y) (zCN y) (zMQ y) (zRT y) :: zTs) d K) (hsp0 : sp 18446744073709551616 = 0) (hG : zz_GF z0 G) (hP : ∀ U, G U → zz_GD zS zS2 zLg z0 sp U) : zz_O l zTs D zcl zFK cy z0 sp (zTys cy) G "ToolMillLaw" mn 7 code d K 324 (za_iadd 325) := zo_iadd zd_900_324
theorem zd_900_326 : decode code 326 = .ok (.aload_n 0, 1) := by decide +kernel
theorem zlw_326 {l : Launch} {D : va_G} {cy : Nat → ClassId} {z0 : Nat} {sp : Nat → Nat} {G : State → Prop} {mn : String} {d : Nat} {K : zz_K} (hKS : zz_KS l D zcl zFK cy z0 sp (zTys cy) G zYN (fun y => Cond.code (zYN y) (zCN y) (zMQ y) (zRT y) :: zTs) d K) (hsp0 : sp 18446744073709551616 = 0) (hG : zz_GF z0 G) (hP : ∀ U, G U → zz_GD zS zS2 zLg z0 sp U) : zz_O l zTs D zcl zFK cy z0 sp (zTys cy) G "ToolMillLaw" mn 7 code d K 326 (za_aload 0 327) := zo_aload_n zd_900_326 rfl
theorem zd_900_327 : decode code 327 = .ok (.iload 4, 2) := by decide +kernel
theorem zlw_327 {l : Launch} {D : va_G} {cy : Nat → ClassId} {z0 : Nat} {sp : Nat → Nat} {G : State → Prop} {mn : String} {d : Nat} {K : zz_K} (hKS : zz_KS l D zcl zFK cy z0 sp (zTys cy) G zYN (fun y => Cond.code (zYN y) (zCN y) (zMQ y) (zRT y) :: zTs) d K) (hsp0 : sp 18446744073709551616 = 0) (hG : zz_GF z0 G) (hP : ∀ U, G U → zz_GD zS zS2 zLg z0 sp U) : zz_O l zTs D zcl zFK cy z0 sp (zTys cy) G "ToolMillLaw" mn 7 code d K 327 (za_iload 4 329) := zo_iload zd_900_327
theorem zd_900_329 : decode code 329 = .ok (.iconst 2, 1) := by decide +kernel
theorem zlw_329 {l : Launch} {D : va_G} {cy : Nat → ClassId} {z0 : Nat} {sp : Nat → Nat} {G : State → Prop} {mn : String} {d : Nat} {K : zz_K} (hKS : zz_KS l D zcl zFK cy z0 sp (zTys cy) G zYN (fun y => Cond.code (zYN y) (zCN y) (zMQ y) (zRT y) :: zTs) d K) (hsp0 : sp 18446744073709551616 = 0) (hG : zz_GF z0 G) (hP : ∀ U, G U → zz_GD zS zS2 zLg z0 sp U) : zz_O l zTs D zcl zFK cy z0 sp (zTys cy) G "ToolMillLaw" mn 7 code d K 329 (za_const (.int (Int32.ofNat 2)) 330) := zo_iconst zd_900_329 (by decide)
theorem zd_900_330 : decode code 330 = .ok (.iadd, 1) := by decide +kernel
theorem zlw_330 {l : Launch} {D : va_G} {cy : Nat → ClassId} {z0 : Nat} {sp : Nat → Nat} {G : State → Prop} {mn : String} {d : Nat} {K : zz_K} (hKS : zz_KS l D zcl zFK cy z0 sp (zTys cy) G zYN (fun y => Cond.code (zYN y) (zCN y) (zMQ y) (zRT y) :: zTs) d K) (hsp0 : sp 18446744073709551616 = 0) (hG : zz_GF z0 G) (hP : ∀ U, G U → zz_GD zS zS2 zLg z0 sp U) : zz_O l zTs D zcl zFK cy z0 sp (zTys cy) G "ToolMillLaw" mn 7 code d K 330 (za_iadd 331) := zo_iadd zd_900_330
theorem zd_900_332 : decode code 332 = .ok (.aload_n 3, 1) := by decide +kernel
theorem zlw_332 {l : Launch} {D : va_G} {cy : Nat → ClassId} {z0 : Nat} {sp : Nat → Nat} {G : State → Prop} {mn : String} {d : Nat} {K : zz_K} (hKS : zz_KS l D zcl zFK cy z0 sp (zTys cy) G zYN (fun y => Cond.code (zYN y) (zCN y) (zMQ y) (zRT y) :: zTs) d K) (hsp0 : sp 18446744073709551616 = 0) (hG : zz_GF z0 G) (hP : ∀ U, G U → zz_GD zS zS2 zLg z0 sp U) : zz_O l zTs D zcl zFK cy z0 sp (zTys cy) G "ToolMillLaw" mn 7 code d K 332 (za_aload 3 333) := zo_aload_n zd_900_332 rfl
theorem zd_900_336 : decode code 336 = .ok (.istore 5, 2) := by decide +kernel
theorem zlw_336 {l : Launch} {D : va_G} {cy : Nat → ClassId} {z0 : Nat} {sp : Nat → Nat} {G : State → Prop} {mn : String} {d : Nat} {K : zz_K} (hKS : zz_KS l D zcl zFK cy z0 sp (zTys cy) G zYN (fun y => Cond.code (zYN y) (zCN y) (zMQ y) (zRT y) :: zTs) d K) (hsp0 : sp 18446744073709551616 = 0) (hG : zz_GF z0 G) (hP : ∀ U, G U → zz_GD zS zS2 zLg z0 sp U) : zz_O l zTs D zcl zFK cy z0 sp (zTys cy) G "ToolMillLaw" mn 7 code d K 336 (za_istore 5 338) := zo_istore zd_900_336 (by decide)
theorem zd_900_338 : decode code 338 = .ok (.aload_n 2, 1) := by decide +kernel
theorem zlw_338 {l : Launch} {D : va_G} {cy : Nat → ClassId} {z0 : Nat} {sp : Nat → Nat} {G : State → Prop} {mn : String} {d : Nat} {K : zz_K} (hKS : zz_KS l D zcl zFK cy z0 sp (zTys cy) G zYN (fun y => Cond.code (zYN y) (zCN y) (zMQ y) (zRT y) :: zTs) d K) (hsp0 : sp 18446744073709551616 = 0) (hG : zz_GF z0 G) (hP : ∀ U, G U → zz_GD zS zS2 zLg z0 sp U) : zz_O l zTs D zcl zFK cy z0 sp (zTys cy) G "ToolMillLaw" mn 7 code d K 338 (za_aload 2 339) := zo_aload_n zd_900_338 rfl
theorem zd_900_339 : decode code 339 = .ok (.aload_n 0, 1) := by decide +kernel
theorem zlw_339 {l : Launch} {D : va_G} {cy : Nat → ClassId} {z0 : Nat} {sp : Nat → Nat} {G : State → Prop} {mn : String} {d : Nat} {K : zz_K} (hKS : zz_KS l D zcl zFK cy z0 sp (zTys cy) G zYN (fun y => Cond.code (zYN y) (zCN y) (zMQ y) (zRT y) :: zTs) d K) (hsp0 : sp 18446744073709551616 = 0) (hG : zz_GF z0 G) (hP : ∀ U, G U → zz_GD zS zS2 zLg z0 sp U) : zz_O l zTs D zcl zFK cy z0 sp (zTys cy) G "ToolMillLaw" mn 7 code d K 339 (za_aload 0 340) := zo_aload_n zd_900_339 rfl
theorem zd_900_340 : decode code 340 = .ok (.iload 4, 2) := by decide +kernel
theorem zlw_340 {l : Launch} {D : va_G} {cy : Nat → ClassId} {z0 : Nat} {sp : Nat → Nat} {G : State → Prop} {mn : String} {d : Nat} {K : zz_K} (hKS : zz_KS l D zcl zFK cy z0 sp (zTys cy) G zYN (fun y => Cond.code (zYN y) (zCN y) (zMQ y) (zRT y) :: zTs) d K) (hsp0 : sp 18446744073709551616 = 0) (hG : zz_GF z0 G) (hP : ∀ U, G U → zz_GD zS zS2 zLg z0 sp U) : zz_O l zTs D zcl zFK cy z0 sp (zTys cy) G "ToolMillLaw" mn 7 code d K 340 (za_iload 4 342) := zo_iload zd_900_340
theorem zd_900_342 : decode code 342 = .ok (.iconst 1, 1) := by decide +kernel
theorem zlw_342 {l : Launch} {D : va_G} {cy : Nat → ClassId} {z0 : Nat} {sp : Nat → Nat} {G : State → Prop} {mn : String} {d : Nat} {K : zz_K} (hKS : zz_KS l D zcl zFK cy z0 sp (zTys cy) G zYN (fun y => Cond.code (zYN y) (zCN y) (zMQ y) (zRT y) :: zTs) d K) (hsp0 : sp 18446744073709551616 = 0) (hG : zz_GF z0 G) (hP : ∀ U, G U → zz_GD zS zS2 zLg z0 sp U) : zz_O l zTs D zcl zFK cy z0 sp (zTys cy) G "ToolMillLaw" mn 7 code d K 342 (za_const (.int (Int32.ofNat 1)) 343) := zo_iconst zd_900_342 (by decide)
theorem zd_900_343 : decode code 343 = .ok (.iadd, 1) := by decide +kernel
theorem zlw_343 {l : Launch} {D : va_G} {cy : Nat → ClassId} {z0 : Nat} {sp : Nat → Nat} {G : State → Prop} {mn : String} {d : Nat} {K : zz_K} (hKS : zz_KS l D zcl zFK cy z0 sp (zTys cy) G zYN (fun y => Cond.code (zYN y) (zCN y) (zMQ y) (zRT y) :: zTs) d K) (hsp0 : sp 18446744073709551616 = 0) (hG : zz_GF z0 G) (hP : ∀ U, G U → zz_GD zS zS2 zLg z0 sp U) : zz_O l zTs D zcl zFK cy z0 sp (zTys cy) G "ToolMillLaw" mn 7 code d K 343 (za_iadd 344) := zo_iadd zd_900_343
theorem zd_900_345 : decode code 345 = .ok (.aload_n 0, 1) := by decide +kernel
theorem zlw_345 {l : Launch} {D : va_G} {cy : Nat → ClassId} {z0 : Nat} {sp : Nat → Nat} {G : State → Prop} {mn : String} {d : Nat} {K : zz_K} (hKS : zz_KS l D zcl zFK cy z0 sp (zTys cy) G zYN (fun y => Cond.code (zYN y) (zCN y) (zMQ y) (zRT y) :: zTs) d K) (hsp0 : sp 18446744073709551616 = 0) (hG : zz_GF z0 G) (hP : ∀ U, G U → zz_GD zS zS2 zLg z0 sp U) : zz_O l zTs D zcl zFK cy z0 sp (zTys cy) G "ToolMillLaw" mn 7 code d K 345 (za_aload 0 346) := zo_aload_n zd_900_345 rfl
theorem zd_900_346 : decode code 346 = .ok (.iload 4, 2) := by decide +kernel
theorem zlw_346 {l : Launch} {D : va_G} {cy : Nat → ClassId} {z0 : Nat} {sp : Nat → Nat} {G : State → Prop} {mn : String} {d : Nat} {K : zz_K} (hKS : zz_KS l D zcl zFK cy z0 sp (zTys cy) G zYN (fun y => Cond.code (zYN y) (zCN y) (zMQ y) (zRT y) :: zTs) d K) (hsp0 : sp 18446744073709551616 = 0) (hG : zz_GF z0 G) (hP : ∀ U, G U → zz_GD zS zS2 zLg z0 sp U) : zz_O l zTs D zcl zFK cy z0 sp (zTys cy) G "ToolMillLaw" mn 7 code d K 346 (za_iload 4 348) := zo_iload zd_900_346
theorem zd_900_348 : decode code 348 = .ok (.iconst 2, 1) := by decide +kernel
theorem zlw_348 {l : Launch} {D : va_G} {cy : Nat → ClassId} {z0 : Nat} {sp : Nat → Nat} {G : State → Prop} {mn : String} {d : Nat} {K : zz_K} (hKS : zz_KS l D zcl zFK cy z0 sp (zTys cy) G zYN (fun y => Cond.code (zYN y) (zCN y) (zMQ y) (zRT y) :: zTs) d K) (hsp0 : sp 18446744073709551616 = 0) (hG : zz_GF z0 G) (hP : ∀ U, G U → zz_GD zS zS2 zLg z0 sp U) : zz_O l zTs D zcl zFK cy z0 sp (zTys cy) G "ToolMillLaw" mn 7 code d K 348 (za_const (.int (Int32.ofNat 2)) 349) := zo_iconst zd_900_348 (by decide)
theorem zd_900_349 : decode code 349 = .ok (.iadd, 1) := by decide +kernel
theorem zlw_349 {l : Launch} {D : va_G} {cy : Nat → ClassId} {z0 : Nat} {sp : Nat → Nat} {G : State → Prop} {mn : String} {d : Nat} {K : zz_K} (hKS : zz_KS l D zcl zFK cy z0 sp (zTys cy) G zYN (fun y => Cond.code (zYN y) (zCN y) (zMQ y) (zRT y) :: zTs) d K) (hsp0 : sp 18446744073709551616 = 0) (hG : zz_GF z0 G) (hP : ∀ U, G U → zz_GD zS zS2 zLg z0 sp U) : zz_O l zTs D zcl zFK cy z0 sp (zTys cy) G "ToolMillLaw" mn 7 code d K 349 (za_iadd 350) := zo_iadd zd_900_349
theorem zd_900_351 : decode code 351 = .ok (.invokevirtual 127, 3) := by decide +kernel
theorem zlw_351 {l : Launch} {D : va_G} {cy : Nat → ClassId} {z0 : Nat} {sp : Nat → Nat} {G : State → Prop} {mn : String} {d : Nat} {K : zz_K} (hKS : zz_KS l D zcl zFK cy z0 sp (zTys cy) G zYN (fun y => Cond.code (zYN y) (zCN y) (zMQ y) (zRT y) :: zTs) d K) (hsp0 : sp 18446744073709551616 = 0) (hG : zz_GF z0 G) (hP : ∀ U, G U → zz_GD zS zS2 zLg z0 sp U) : zz_O l zTs D zcl zFK cy z0 sp (zTys cy) G "ToolMillLaw" mn 7 code d K 351 (za_callV 0 32 2 354) := zcV_32 hKS hG zd_900_351 zw_3056
theorem zd_900_354 : decode code 354 = .ok (.istore 6, 2) := by decide +kernel
theorem zlw_354 {l : Launch} {D : va_G} {cy : Nat → ClassId} {z0 : Nat} {sp : Nat → Nat} {G : State → Prop} {mn : String} {d : Nat} {K : zz_K} (hKS : zz_KS l D zcl zFK cy z0 sp (zTys cy) G zYN (fun y => Cond.code (zYN y) (zCN y) (zMQ y) (zRT y) :: zTs) d K) (hsp0 : sp 18446744073709551616 = 0) (hG : zz_GF z0 G) (hP : ∀ U, G U → zz_GD zS zS2 zLg z0 sp U) : zz_O l zTs D zcl zFK cy z0 sp (zTys cy) G "ToolMillLaw" mn 7 code d K 354 (za_istore 6 356) := zo_istore zd_900_354 (by decide)
theorem zd_900_356 : decode code 356 = .ok (.goto 543, 3) := by decide +kernel
theorem zlw_356 {l : Launch} {D : va_G} {cy : Nat → ClassId} {z0 : Nat} {sp : Nat → Nat} {G : State → Prop} {mn : String} {d : Nat} {K : zz_K} (hKS : zz_KS l D zcl zFK cy z0 sp (zTys cy) G zYN (fun y => Cond.code (zYN y) (zCN y) (zMQ y) (zRT y) :: zTs) d K) (hsp0 : sp 18446744073709551616 = 0) (hG : zz_GF z0 G) (hP : ∀ U, G U → zz_GD zS zS2 zLg z0 sp U) : zz_O l zTs D zcl zFK cy z0 sp (zTys cy) G "ToolMillLaw" mn 7 code d K 356 (za_goto 899) := zo_goto zd_900_356 (by decide)
theorem zd_900_359 : decode code 359 = .ok (.aload_n 1, 1) := by decide +kernel
theorem zlw_359 {l : Launch} {D : va_G} {cy : Nat → ClassId} {z0 : Nat} {sp : Nat → Nat} {G : State → Prop} {mn : String} {d : Nat} {K : zz_K} (hKS : zz_KS l D zcl zFK cy z0 sp (zTys cy) G zYN (fun y => Cond.code (zYN y) (zCN y) (zMQ y) (zRT y) :: zTs) d K) (hsp0 : sp 18446744073709551616 = 0) (hG : zz_GF z0 G) (hP : ∀ U, G U → zz_GD zS zS2 zLg z0 sp U) : zz_O l zTs D zcl zFK cy z0 sp (zTys cy) G "ToolMillLaw" mn 7 code d K 359 (za_aload 1 360) := zo_aload_n zd_900_359 rfl
theorem zd_900_360 : decode code 360 = .ok (.aload_n 0, 1) := by decide +kernel
theorem zlw_360 {l : Launch} {D : va_G} {cy : Nat → ClassId} {z0 : Nat} {sp : Nat → Nat} {G : State → Prop} {mn : String} {d : Nat} {K : zz_K} (hKS : zz_KS l D zcl zFK cy z0 sp (zTys cy) G zYN (fun y => Cond.code (zYN y) (zCN y) (zMQ y) (zRT y) :: zTs) d K) (hsp0 : sp 18446744073709551616 = 0) (hG : zz_GF z0 G) (hP : ∀ U, G U → zz_GD zS zS2 zLg z0 sp U) : zz_O l zTs D zcl zFK cy z0 sp (zTys cy) G "ToolMillLaw" mn 7 code d K 360 (za_aload 0 361) := zo_aload_n zd_900_360 rfl
theorem zd_900_361 : decode code 361 = .ok (.iload 4, 2) := by decide +kernel
theorem zlw_361 {l : Launch} {D : va_G} {cy : Nat → ClassId} {z0 : Nat} {sp : Nat → Nat} {G : State → Prop} {mn : String} {d : Nat} {K : zz_K} (hKS : zz_KS l D zcl zFK cy z0 sp (zTys cy) G zYN (fun y => Cond.code (zYN y) (zCN y) (zMQ y) (zRT y) :: zTs) d K) (hsp0 : sp 18446744073709551616 = 0) (hG : zz_GF z0 G) (hP : ∀ U, G U → zz_GD zS zS2 zLg z0 sp U) : zz_O l zTs D zcl zFK cy z0 sp (zTys cy) G "ToolMillLaw" mn 7 code d K 361 (za_iload 4 363) := zo_iload zd_900_361
theorem zd_900_363 : decode code 363 = .ok (.iconst 1, 1) := by decide +kernel
theorem zlw_363 {l : Launch} {D : va_G} {cy : Nat → ClassId} {z0 : Nat} {sp : Nat → Nat} {G : State → Prop} {mn : String} {d : Nat} {K : zz_K} (hKS : zz_KS l D zcl zFK cy z0 sp (zTys cy) G zYN (fun y => Cond.code (zYN y) (zCN y) (zMQ y) (zRT y) :: zTs) d K) (hsp0 : sp 18446744073709551616 = 0) (hG : zz_GF z0 G) (hP : ∀ U, G U → zz_GD zS zS2 zLg z0 sp U) : zz_O l zTs D zcl zFK cy z0 sp (zTys cy) G "ToolMillLaw" mn 7 code d K 363 (za_const (.int (Int32.ofNat 1)) 364) := zo_iconst zd_900_363 (by decide)
theorem zd_900_364 : decode code 364 = .ok (.iadd, 1) := by decide +kernel
theorem zlw_364 {l : Launch} {D : va_G} {cy : Nat → ClassId} {z0 : Nat} {sp : Nat → Nat} {G : State → Prop} {mn : String} {d : Nat} {K : zz_K} (hKS : zz_KS l D zcl zFK cy z0 sp (zTys cy) G zYN (fun y => Cond.code (zYN y) (zCN y) (zMQ y) (zRT y) :: zTs) d K) (hsp0 : sp 18446744073709551616 = 0) (hG : zz_GF z0 G) (hP : ∀ U, G U → zz_GD zS zS2 zLg z0 sp U) : zz_O l zTs D zcl zFK cy z0 sp (zTys cy) G "ToolMillLaw" mn 7 code d K 364 (za_iadd 365) := zo_iadd zd_900_364
theorem zd_900_366 : decode code 366 = .ok (.aload_n 0, 1) := by decide +kernel
theorem zlw_366 {l : Launch} {D : va_G} {cy : Nat → ClassId} {z0 : Nat} {sp : Nat → Nat} {G : State → Prop} {mn : String} {d : Nat} {K : zz_K} (hKS : zz_KS l D zcl zFK cy z0 sp (zTys cy) G zYN (fun y => Cond.code (zYN y) (zCN y) (zMQ y) (zRT y) :: zTs) d K) (hsp0 : sp 18446744073709551616 = 0) (hG : zz_GF z0 G) (hP : ∀ U, G U → zz_GD zS zS2 zLg z0 sp U) : zz_O l zTs D zcl zFK cy z0 sp (zTys cy) G "ToolMillLaw" mn 7 code d K 366 (za_aload 0 367) := zo_aload_n zd_900_366 rfl
theorem zd_900_367 : decode code 367 = .ok (.iload 4, 2) := by decide +kernel
theorem zlw_367 {l : Launch} {D : va_G} {cy : Nat → ClassId} {z0 : Nat} {sp : Nat → Nat} {G : State → Prop} {mn : String} {d : Nat} {K : zz_K} (hKS : zz_KS l D zcl zFK cy z0 sp (zTys cy) G zYN (fun y => Cond.code (zYN y) (zCN y) (zMQ y) (zRT y) :: zTs) d K) (hsp0 : sp 18446744073709551616 = 0) (hG : zz_GF z0 G) (hP : ∀ U, G U → zz_GD zS zS2 zLg z0 sp U) : zz_O l zTs D zcl zFK cy z0 sp (zTys cy) G "ToolMillLaw" mn 7 code d K 367 (za_iload 4 369) := zo_iload zd_900_367
theorem zd_900_369 : decode code 369 = .ok (.iconst 2, 1) := by decide +kernel
theorem zlw_369 {l : Launch} {D : va_G} {cy : Nat → ClassId} {z0 : Nat} {sp : Nat → Nat} {G : State → Prop} {mn : String} {d : Nat} {K : zz_K} (hKS : zz_KS l D zcl zFK cy z0 sp (zTys cy) G zYN (fun y => Cond.code (zYN y) (zCN y) (zMQ y) (zRT y) :: zTs) d K) (hsp0 : sp 18446744073709551616 = 0) (hG : zz_GF z0 G) (hP : ∀ U, G U → zz_GD zS zS2 zLg z0 sp U) : zz_O l zTs D zcl zFK cy z0 sp (zTys cy) G "ToolMillLaw" mn 7 code d K 369 (za_const (.int (Int32.ofNat 2)) 370) := zo_iconst zd_900_369 (by decide)
theorem zd_900_370 : decode code 370 = .ok (.iadd, 1) := by decide +kernel
theorem zlw_370 {l : Launch} {D : va_G} {cy : Nat → ClassId} {z0 : Nat} {sp : Nat → Nat} {G : State → Prop} {mn : String} {d : Nat} {K : zz_K} (hKS : zz_KS l D zcl zFK cy z0 sp (zTys cy) G zYN (fun y => Cond.code (zYN y) (zCN y) (zMQ y) (zRT y) :: zTs) d K) (hsp0 : sp 18446744073709551616 = 0) (hG : zz_GF z0 G) (hP : ∀ U, G U → zz_GD zS zS2 zLg z0 sp U) : zz_O l zTs D zcl zFK cy z0 sp (zTys cy) G "ToolMillLaw" mn 7 code d K 370 (za_iadd 371) := zo_iadd zd_900_370
theorem zd_900_372 : decode code 372 = .ok (.aload_n 0, 1) := by decide +kernel
theorem zlw_372 {l : Launch} {D : va_G} {cy : Nat → ClassId} {z0 : Nat} {sp : Nat → Nat} {G : State → Prop} {mn : String} {d : Nat} {K : zz_K} (hKS : zz_KS l D zcl zFK cy z0 sp (zTys cy) G zYN (fun y => Cond.code (zYN y) (zCN y) (zMQ y) (zRT y) :: zTs) d K) (hsp0 : sp 18446744073709551616 = 0) (hG : zz_GF z0 G) (hP : ∀ U, G U → zz_GD zS zS2 zLg z0 sp U) : zz_O l zTs D zcl zFK cy z0 sp (zTys cy) G "ToolMillLaw" mn 7 code d K 372 (za_aload 0 373) := zo_aload_n zd_900_372 rfl
theorem zd_900_373 : decode code 373 = .ok (.iload 4, 2) := by decide +kernel
theorem zlw_373 {l : Launch} {D : va_G} {cy : Nat → ClassId} {z0 : Nat} {sp : Nat → Nat} {G : State → Prop} {mn : String} {d : Nat} {K : zz_K} (hKS : zz_KS l D zcl zFK cy z0 sp (zTys cy) G zYN (fun y => Cond.code (zYN y) (zCN y) (zMQ y) (zRT y) :: zTs) d K) (hsp0 : sp 18446744073709551616 = 0) (hG : zz_GF z0 G) (hP : ∀ U, G U → zz_GD zS zS2 zLg z0 sp U) : zz_O l zTs D zcl zFK cy z0 sp (zTys cy) G "ToolMillLaw" mn 7 code d K 373 (za_iload 4 375) := zo_iload zd_900_373
theorem zd_900_375 : decode code 375 = .ok (.iconst 3, 1) := by decide +kernel
theorem zlw_375 {l : Launch} {D : va_G} {cy : Nat → ClassId} {z0 : Nat} {sp : Nat → Nat} {G : State → Prop} {mn : String} {d : Nat} {K : zz_K} (hKS : zz_KS l D zcl zFK cy z0 sp (zTys cy) G zYN (fun y => Cond.code (zYN y) (zCN y) (zMQ y) (zRT y) :: zTs) d K) (hsp0 : sp 18446744073709551616 = 0) (hG : zz_GF z0 G) (hP : ∀ U, G U → zz_GD zS zS2 zLg z0 sp U) : zz_O l zTs D zcl zFK cy z0 sp (zTys cy) G "ToolMillLaw" mn 7 code d K 375 (za_const (.int (Int32.ofNat 3)) 376) := zo_iconst zd_900_375 (by decide)
theorem zd_900_376 : decode code 376 = .ok (.iadd, 1) := by decide +kernel
theorem zlw_376 {l : Launch} {D : va_G} {cy : Nat → ClassId} {z0 : Nat} {sp : Nat → Nat} {G : State → Prop} {mn : String} {d : Nat} {K : zz_K} (hKS : zz_KS l D zcl zFK cy z0 sp (zTys cy) G zYN (fun y => Cond.code (zYN y) (zCN y) (zMQ y) (zRT y) :: zTs) d K) (hsp0 : sp 18446744073709551616 = 0) (hG : zz_GF z0 G) (hP : ∀ U, G U → zz_GD zS zS2 zLg z0 sp U) : zz_O l zTs D zcl zFK cy z0 sp (zTys cy) G "ToolMillLaw" mn 7 code d K 376 (za_iadd 377) := zo_iadd zd_900_376
theorem zd_900_378 : decode code 378 = .ok (.aload_n 3, 1) := by decide +kernel
theorem zlw_378 {l : Launch} {D : va_G} {cy : Nat → ClassId} {z0 : Nat} {sp : Nat → Nat} {G : State → Prop} {mn : String} {d : Nat} {K : zz_K} (hKS : zz_KS l D zcl zFK cy z0 sp (zTys cy) G zYN (fun y => Cond.code (zYN y) (zCN y) (zMQ y) (zRT y) :: zTs) d K) (hsp0 : sp 18446744073709551616 = 0) (hG : zz_GF z0 G) (hP : ∀ U, G U → zz_GD zS zS2 zLg z0 sp U) : zz_O l zTs D zcl zFK cy z0 sp (zTys cy) G "ToolMillLaw" mn 7 code d K 378 (za_aload 3 379) := zo_aload_n zd_900_378 rfl
theorem zd_900_382 : decode code 382 = .ok (.istore 5, 2) := by decide +kernel
theorem zlw_382 {l : Launch} {D : va_G} {cy : Nat → ClassId} {z0 : Nat} {sp : Nat → Nat} {G : State → Prop} {mn : String} {d : Nat} {K : zz_K} (hKS : zz_KS l D zcl zFK cy z0 sp (zTys cy) G zYN (fun y => Cond.code (zYN y) (zCN y) (zMQ y) (zRT y) :: zTs) d K) (hsp0 : sp 18446744073709551616 = 0) (hG : zz_GF z0 G) (hP : ∀ U, G U → zz_GD zS zS2 zLg z0 sp U) : zz_O l zTs D zcl zFK cy z0 sp (zTys cy) G "ToolMillLaw" mn 7 code d K 382 (za_istore 5 384) := zo_istore zd_900_382 (by decide)
theorem zd_900_384 : decode code 384 = .ok (.aload_n 2, 1) := by decide +kernel
theorem zlw_384 {l : Launch} {D : va_G} {cy : Nat → ClassId} {z0 : Nat} {sp : Nat → Nat} {G : State → Prop} {mn : String} {d : Nat} {K : zz_K} (hKS : zz_KS l D zcl zFK cy z0 sp (zTys cy) G zYN (fun y => Cond.code (zYN y) (zCN y) (zMQ y) (zRT y) :: zTs) d K) (hsp0 : sp 18446744073709551616 = 0) (hG : zz_GF z0 G) (hP : ∀ U, G U → zz_GD zS zS2 zLg z0 sp U) : zz_O l zTs D zcl zFK cy z0 sp (zTys cy) G "ToolMillLaw" mn 7 code d K 384 (za_aload 2 385) := zo_aload_n zd_900_384 rfl
theorem zd_900_385 : decode code 385 = .ok (.aload_n 0, 1) := by decide +kernel
theorem zlw_385 {l : Launch} {D : va_G} {cy : Nat → ClassId} {z0 : Nat} {sp : Nat → Nat} {G : State → Prop} {mn : String} {d : Nat} {K : zz_K} (hKS : zz_KS l D zcl zFK cy z0 sp (zTys cy) G zYN (fun y => Cond.code (zYN y) (zCN y) (zMQ y) (zRT y) :: zTs) d K) (hsp0 : sp 18446744073709551616 = 0) (hG : zz_GF z0 G) (hP : ∀ U, G U → zz_GD zS zS2 zLg z0 sp U) : zz_O l zTs D zcl zFK cy z0 sp (zTys cy) G "ToolMillLaw" mn 7 code d K 385 (za_aload 0 386) := zo_aload_n zd_900_385 rfl
theorem zd_900_386 : decode code 386 = .ok (.iload 4, 2) := by decide +kernel
theorem zlw_386 {l : Launch} {D : va_G} {cy : Nat → ClassId} {z0 : Nat} {sp : Nat → Nat} {G : State → Prop} {mn : String} {d : Nat} {K : zz_K} (hKS : zz_KS l D zcl zFK cy z0 sp (zTys cy) G zYN (fun y => Cond.code (zYN y) (zCN y) (zMQ y) (zRT y) :: zTs) d K) (hsp0 : sp 18446744073709551616 = 0) (hG : zz_GF z0 G) (hP : ∀ U, G U → zz_GD zS zS2 zLg z0 sp U) : zz_O l zTs D zcl zFK cy z0 sp (zTys cy) G "ToolMillLaw" mn 7 code d K 386 (za_iload 4 388) := zo_iload zd_900_386
theorem zd_900_388 : decode code 388 = .ok (.iconst 1, 1) := by decide +kernel
theorem zlw_388 {l : Launch} {D : va_G} {cy : Nat → ClassId} {z0 : Nat} {sp : Nat → Nat} {G : State → Prop} {mn : String} {d : Nat} {K : zz_K} (hKS : zz_KS l D zcl zFK cy z0 sp (zTys cy) G zYN (fun y => Cond.code (zYN y) (zCN y) (zMQ y) (zRT y) :: zTs) d K) (hsp0 : sp 18446744073709551616 = 0) (hG : zz_GF z0 G) (hP : ∀ U, G U → zz_GD zS zS2 zLg z0 sp U) : zz_O l zTs D zcl zFK cy z0 sp (zTys cy) G "ToolMillLaw" mn 7 code d K 388 (za_const (.int (Int32.ofNat 1)) 389) := zo_iconst zd_900_388 (by decide)
theorem zd_900_389 : decode code 389 = .ok (.iadd, 1) := by decide +kernel
theorem zlw_389 {l : Launch} {D : va_G} {cy : Nat → ClassId} {z0 : Nat} {sp : Nat → Nat} {G : State → Prop} {mn : String} {d : Nat} {K : zz_K} (hKS : zz_KS l D zcl zFK cy z0 sp (zTys cy) G zYN (fun y => Cond.code (zYN y) (zCN y) (zMQ y) (zRT y) :: zTs) d K) (hsp0 : sp 18446744073709551616 = 0) (hG : zz_GF z0 G) (hP : ∀ U, G U → zz_GD zS zS2 zLg z0 sp U) : zz_O l zTs D zcl zFK cy z0 sp (zTys cy) G "ToolMillLaw" mn 7 code d K 389 (za_iadd 390) := zo_iadd zd_900_389
theorem zd_900_391 : decode code 391 = .ok (.aload_n 0, 1) := by decide +kernel
theorem zlw_391 {l : Launch} {D : va_G} {cy : Nat → ClassId} {z0 : Nat} {sp : Nat → Nat} {G : State → Prop} {mn : String} {d : Nat} {K : zz_K} (hKS : zz_KS l D zcl zFK cy z0 sp (zTys cy) G zYN (fun y => Cond.code (zYN y) (zCN y) (zMQ y) (zRT y) :: zTs) d K) (hsp0 : sp 18446744073709551616 = 0) (hG : zz_GF z0 G) (hP : ∀ U, G U → zz_GD zS zS2 zLg z0 sp U) : zz_O l zTs D zcl zFK cy z0 sp (zTys cy) G "ToolMillLaw" mn 7 code d K 391 (za_aload 0 392) := zo_aload_n zd_900_391 rfl
theorem zd_900_392 : decode code 392 = .ok (.iload 4, 2) := by decide +kernel
theorem zlw_392 {l : Launch} {D : va_G} {cy : Nat → ClassId} {z0 : Nat} {sp : Nat → Nat} {G : State → Prop} {mn : String} {d : Nat} {K : zz_K} (hKS : zz_KS l D zcl zFK cy z0 sp (zTys cy) G zYN (fun y => Cond.code (zYN y) (zCN y) (zMQ y) (zRT y) :: zTs) d K) (hsp0 : sp 18446744073709551616 = 0) (hG : zz_GF z0 G) (hP : ∀ U, G U → zz_GD zS zS2 zLg z0 sp U) : zz_O l zTs D zcl zFK cy z0 sp (zTys cy) G "ToolMillLaw" mn 7 code d K 392 (za_iload 4 394) := zo_iload zd_900_392
theorem zd_900_394 : decode code 394 = .ok (.iconst 2, 1) := by decide +kernel
theorem zlw_394 {l : Launch} {D : va_G} {cy : Nat → ClassId} {z0 : Nat} {sp : Nat → Nat} {G : State → Prop} {mn : String} {d : Nat} {K : zz_K} (hKS : zz_KS l D zcl zFK cy z0 sp (zTys cy) G zYN (fun y => Cond.code (zYN y) (zCN y) (zMQ y) (zRT y) :: zTs) d K) (hsp0 : sp 18446744073709551616 = 0) (hG : zz_GF z0 G) (hP : ∀ U, G U → zz_GD zS zS2 zLg z0 sp U) : zz_O l zTs D zcl zFK cy z0 sp (zTys cy) G "ToolMillLaw" mn 7 code d K 394 (za_const (.int (Int32.ofNat 2)) 395) := zo_iconst zd_900_394 (by decide)
theorem zd_900_395 : decode code 395 = .ok (.iadd, 1) := by decide +kernel
theorem zlw_395 {l : Launch} {D : va_G} {cy : Nat → ClassId} {z0 : Nat} {sp : Nat → Nat} {G : State → Prop} {mn : String} {d : Nat} {K : zz_K} (hKS : zz_KS l D zcl zFK cy z0 sp (zTys cy) G zYN (fun y => Cond.code (zYN y) (zCN y) (zMQ y) (zRT y) :: zTs) d K) (hsp0 : sp 18446744073709551616 = 0) (hG : zz_GF z0 G) (hP : ∀ U, G U → zz_GD zS zS2 zLg z0 sp U) : zz_O l zTs D zcl zFK cy z0 sp (zTys cy) G "ToolMillLaw" mn 7 code d K 395 (za_iadd 396) := zo_iadd zd_900_395
theorem zd_900_397 : decode code 397 = .ok (.aload_n 0, 1) := by decide +kernel
theorem zlw_397 {l : Launch} {D : va_G} {cy : Nat → ClassId} {z0 : Nat} {sp : Nat → Nat} {G : State → Prop} {mn : String} {d : Nat} {K : zz_K} (hKS : zz_KS l D zcl zFK cy z0 sp (zTys cy) G zYN (fun y => Cond.code (zYN y) (zCN y) (zMQ y) (zRT y) :: zTs) d K) (hsp0 : sp 18446744073709551616 = 0) (hG : zz_GF z0 G) (hP : ∀ U, G U → zz_GD zS zS2 zLg z0 sp U) : zz_O l zTs D zcl zFK cy z0 sp (zTys cy) G "ToolMillLaw" mn 7 code d K 397 (za_aload 0 398) := zo_aload_n zd_900_397 rfl
theorem zd_900_398 : decode code 398 = .ok (.iload 4, 2) := by decide +kernel
theorem zlw_398 {l : Launch} {D : va_G} {cy : Nat → ClassId} {z0 : Nat} {sp : Nat → Nat} {G : State → Prop} {mn : String} {d : Nat} {K : zz_K} (hKS : zz_KS l D zcl zFK cy z0 sp (zTys cy) G zYN (fun y => Cond.code (zYN y) (zCN y) (zMQ y) (zRT y) :: zTs) d K) (hsp0 : sp 18446744073709551616 = 0) (hG : zz_GF z0 G) (hP : ∀ U, G U → zz_GD zS zS2 zLg z0 sp U) : zz_O l zTs D zcl zFK cy z0 sp (zTys cy) G "ToolMillLaw" mn 7 code d K 398 (za_iload 4 400) := zo_iload zd_900_398
theorem zd_900_400 : decode code 400 = .ok (.iconst 3, 1) := by decide +kernel
theorem zlw_400 {l : Launch} {D : va_G} {cy : Nat → ClassId} {z0 : Nat} {sp : Nat → Nat} {G : State → Prop} {mn : String} {d : Nat} {K : zz_K} (hKS : zz_KS l D zcl zFK cy z0 sp (zTys cy) G zYN (fun y => Cond.code (zYN y) (zCN y) (zMQ y) (zRT y) :: zTs) d K) (hsp0 : sp 18446744073709551616 = 0) (hG : zz_GF z0 G) (hP : ∀ U, G U → zz_GD zS zS2 zLg z0 sp U) : zz_O l zTs D zcl zFK cy z0 sp (zTys cy) G "ToolMillLaw" mn 7 code d K 400 (za_const (.int (Int32.ofNat 3)) 401) := zo_iconst zd_900_400 (by decide)
theorem zd_900_401 : decode code 401 = .ok (.iadd, 1) := by decide +kernel
theorem zlw_401 {l : Launch} {D : va_G} {cy : Nat → ClassId} {z0 : Nat} {sp : Nat → Nat} {G : State → Prop} {mn : String} {d : Nat} {K : zz_K} (hKS : zz_KS l D zcl zFK cy z0 sp (zTys cy) G zYN (fun y => Cond.code (zYN y) (zCN y) (zMQ y) (zRT y) :: zTs) d K) (hsp0 : sp 18446744073709551616 = 0) (hG : zz_GF z0 G) (hP : ∀ U, G U → zz_GD zS zS2 zLg z0 sp U) : zz_O l zTs D zcl zFK cy z0 sp (zTys cy) G "ToolMillLaw" mn 7 code d K 401 (za_iadd 402) := zo_iadd zd_900_401
theorem zd_900_403 : decode code 403 = .ok (.invokevirtual 131, 3) := by decide +kernel
theorem zlw_403 {l : Launch} {D : va_G} {cy : Nat → ClassId} {z0 : Nat} {sp : Nat → Nat} {G : State → Prop} {mn : String} {d : Nat} {K : zz_K} (hKS : zz_KS l D zcl zFK cy z0 sp (zTys cy) G zYN (fun y => Cond.code (zYN y) (zCN y) (zMQ y) (zRT y) :: zTs) d K) (hsp0 : sp 18446744073709551616 = 0) (hG : zz_GF z0 G) (hP : ∀ U, G U → zz_GD zS zS2 zLg z0 sp U) : zz_O l zTs D zcl zFK cy z0 sp (zTys cy) G "ToolMillLaw" mn 7 code d K 403 (za_callV 0 33 3 406) := zcV_33 hKS hG zd_900_403 zw_3057
theorem zd_900_406 : decode code 406 = .ok (.istore 6, 2) := by decide +kernel
theorem zlw_406 {l : Launch} {D : va_G} {cy : Nat → ClassId} {z0 : Nat} {sp : Nat → Nat} {G : State → Prop} {mn : String} {d : Nat} {K : zz_K} (hKS : zz_KS l D zcl zFK cy z0 sp (zTys cy) G zYN (fun y => Cond.code (zYN y) (zCN y) (zMQ y) (zRT y) :: zTs) d K) (hsp0 : sp 18446744073709551616 = 0) (hG : zz_GF z0 G) (hP : ∀ U, G U → zz_GD zS zS2 zLg z0 sp U) : zz_O l zTs D zcl zFK cy z0 sp (zTys cy) G "ToolMillLaw" mn 7 code d K 406 (za_istore 6 408) := zo_istore zd_900_406 (by decide)
theorem zd_900_408 : decode code 408 = .ok (.goto 491, 3) := by decide +kernel
theorem zlw_408 {l : Launch} {D : va_G} {cy : Nat → ClassId} {z0 : Nat} {sp : Nat → Nat} {G : State → Prop} {mn : String} {d : Nat} {K : zz_K} (hKS : zz_KS l D zcl zFK cy z0 sp (zTys cy) G zYN (fun y => Cond.code (zYN y) (zCN y) (zMQ y) (zRT y) :: zTs) d K) (hsp0 : sp 18446744073709551616 = 0) (hG : zz_GF z0 G) (hP : ∀ U, G U → zz_GD zS zS2 zLg z0 sp U) : zz_O l zTs D zcl zFK cy z0 sp (zTys cy) G "ToolMillLaw" mn 7 code d K 408 (za_goto 899) := zo_goto zd_900_408 (by decide)
theorem zd_900_411 : decode code 411 = .ok (.aload_n 1, 1) := by decide +kernel
theorem zlw_411 {l : Launch} {D : va_G} {cy : Nat → ClassId} {z0 : Nat} {sp : Nat → Nat} {G : State → Prop} {mn : String} {d : Nat} {K : zz_K} (hKS : zz_KS l D zcl zFK cy z0 sp (zTys cy) G zYN (fun y => Cond.code (zYN y) (zCN y) (zMQ y) (zRT y) :: zTs) d K) (hsp0 : sp 18446744073709551616 = 0) (hG : zz_GF z0 G) (hP : ∀ U, G U → zz_GD zS zS2 zLg z0 sp U) : zz_O l zTs D zcl zFK cy z0 sp (zTys cy) G "ToolMillLaw" mn 7 code d K 411 (za_aload 1 412) := zo_aload_n zd_900_411 rfl
theorem zd_900_412 : decode code 412 = .ok (.aload_n 0, 1) := by decide +kernel
theorem zlw_412 {l : Launch} {D : va_G} {cy : Nat → ClassId} {z0 : Nat} {sp : Nat → Nat} {G : State → Prop} {mn : String} {d : Nat} {K : zz_K} (hKS : zz_KS l D zcl zFK cy z0 sp (zTys cy) G zYN (fun y => Cond.code (zYN y) (zCN y) (zMQ y) (zRT y) :: zTs) d K) (hsp0 : sp 18446744073709551616 = 0) (hG : zz_GF z0 G) (hP : ∀ U, G U → zz_GD zS zS2 zLg z0 sp U) : zz_O l zTs D zcl zFK cy z0 sp (zTys cy) G "ToolMillLaw" mn 7 code d K 412 (za_aload 0 413) := zo_aload_n zd_900_412 rfl
theorem zd_900_413 : decode code 413 = .ok (.iload 4, 2) := by decide +kernel
theorem zlw_413 {l : Launch} {D : va_G} {cy : Nat → ClassId} {z0 : Nat} {sp : Nat → Nat} {G : State → Prop} {mn : String} {d : Nat} {K : zz_K} (hKS : zz_KS l D zcl zFK cy z0 sp (zTys cy) G zYN (fun y => Cond.code (zYN y) (zCN y) (zMQ y) (zRT y) :: zTs) d K) (hsp0 : sp 18446744073709551616 = 0) (hG : zz_GF z0 G) (hP : ∀ U, G U → zz_GD zS zS2 zLg z0 sp U) : zz_O l zTs D zcl zFK cy z0 sp (zTys cy) G "ToolMillLaw" mn 7 code d K 413 (za_iload 4 415) := zo_iload zd_900_413
theorem zd_900_415 : decode code 415 = .ok (.iconst 1, 1) := by decide +kernel
theorem zlw_415 {l : Launch} {D : va_G} {cy : Nat → ClassId} {z0 : Nat} {sp : Nat → Nat} {G : State → Prop} {mn : String} {d : Nat} {K : zz_K} (hKS : zz_KS l D zcl zFK cy z0 sp (zTys cy) G zYN (fun y => Cond.code (zYN y) (zCN y) (zMQ y) (zRT y) :: zTs) d K) (hsp0 : sp 18446744073709551616 = 0) (hG : zz_GF z0 G) (hP : ∀ U, G U → zz_GD zS zS2 zLg z0 sp U) : zz_O l zTs D zcl zFK cy z0 sp (zTys cy) G "ToolMillLaw" mn 7 code d K 415 (za_const (.int (Int32.ofNat 1)) 416) := zo_iconst zd_900_415 (by decide)
theorem zd_900_416 : decode code 416 = .ok (.iadd, 1) := by decide +kernel
theorem zlw_416 {l : Launch} {D : va_G} {cy : Nat → ClassId} {z0 : Nat} {sp : Nat → Nat} {G : State → Prop} {mn : String} {d : Nat} {K : zz_K} (hKS : zz_KS l D zcl zFK cy z0 sp (zTys cy) G zYN (fun y => Cond.code (zYN y) (zCN y) (zMQ y) (zRT y) :: zTs) d K) (hsp0 : sp 18446744073709551616 = 0) (hG : zz_GF z0 G) (hP : ∀ U, G U → zz_GD zS zS2 zLg z0 sp U) : zz_O l zTs D zcl zFK cy z0 sp (zTys cy) G "ToolMillLaw" mn 7 code d K 416 (za_iadd 417) := zo_iadd zd_900_416
theorem zd_900_418 : decode code 418 = .ok (.aload_n 0, 1) := by decide +kernel
theorem zlw_418 {l : Launch} {D : va_G} {cy : Nat → ClassId} {z0 : Nat} {sp : Nat → Nat} {G : State → Prop} {mn : String} {d : Nat} {K : zz_K} (hKS : zz_KS l D zcl zFK cy z0 sp (zTys cy) G zYN (fun y => Cond.code (zYN y) (zCN y) (zMQ y) (zRT y) :: zTs) d K) (hsp0 : sp 18446744073709551616 = 0) (hG : zz_GF z0 G) (hP : ∀ U, G U → zz_GD zS zS2 zLg z0 sp U) : zz_O l zTs D zcl zFK cy z0 sp (zTys cy) G "ToolMillLaw" mn 7 code d K 418 (za_aload 0 419) := zo_aload_n zd_900_418 rfl
theorem zd_900_419 : decode code 419 = .ok (.iload 4, 2) := by decide +kernel
theorem zlw_419 {l : Launch} {D : va_G} {cy : Nat → ClassId} {z0 : Nat} {sp : Nat → Nat} {G : State → Prop} {mn : String} {d : Nat} {K : zz_K} (hKS : zz_KS l D zcl zFK cy z0 sp (zTys cy) G zYN (fun y => Cond.code (zYN y) (zCN y) (zMQ y) (zRT y) :: zTs) d K) (hsp0 : sp 18446744073709551616 = 0) (hG : zz_GF z0 G) (hP : ∀ U, G U → zz_GD zS zS2 zLg z0 sp U) : zz_O l zTs D zcl zFK cy z0 sp (zTys cy) G "ToolMillLaw" mn 7 code d K 419 (za_iload 4 421) := zo_iload zd_900_419
theorem zd_900_421 : decode code 421 = .ok (.iconst 2, 1) := by decide +kernel
theorem zlw_421 {l : Launch} {D : va_G} {cy : Nat → ClassId} {z0 : Nat} {sp : Nat → Nat} {G : State → Prop} {mn : String} {d : Nat} {K : zz_K} (hKS : zz_KS l D zcl zFK cy z0 sp (zTys cy) G zYN (fun y => Cond.code (zYN y) (zCN y) (zMQ y) (zRT y) :: zTs) d K) (hsp0 : sp 18446744073709551616 = 0) (hG : zz_GF z0 G) (hP : ∀ U, G U → zz_GD zS zS2 zLg z0 sp U) : zz_O l zTs D zcl zFK cy z0 sp (zTys cy) G "ToolMillLaw" mn 7 code d K 421 (za_const (.int (Int32.ofNat 2)) 422) := zo_iconst zd_900_421 (by decide)
theorem zd_900_422 : decode code 422 = .ok (.iadd, 1) := by decide +kernel
theorem zlw_422 {l : Launch} {D : va_G} {cy : Nat → ClassId} {z0 : Nat} {sp : Nat → Nat} {G : State → Prop} {mn : String} {d : Nat} {K : zz_K} (hKS : zz_KS l D zcl zFK cy z0 sp (zTys cy) G zYN (fun y => Cond.code (zYN y) (zCN y) (zMQ y) (zRT y) :: zTs) d K) (hsp0 : sp 18446744073709551616 = 0) (hG : zz_GF z0 G) (hP : ∀ U, G U → zz_GD zS zS2 zLg z0 sp U) : zz_O l zTs D zcl zFK cy z0 sp (zTys cy) G "ToolMillLaw" mn 7 code d K 422 (za_iadd 423) := zo_iadd zd_900_422
theorem zd_900_424 : decode code 424 = .ok (.aload_n 0, 1) := by decide +kernel
theorem zlw_424 {l : Launch} {D : va_G} {cy : Nat → ClassId} {z0 : Nat} {sp : Nat → Nat} {G : State → Prop} {mn : String} {d : Nat} {K : zz_K} (hKS : zz_KS l D zcl zFK cy z0 sp (zTys cy) G zYN (fun y => Cond.code (zYN y) (zCN y) (zMQ y) (zRT y) :: zTs) d K) (hsp0 : sp 18446744073709551616 = 0) (hG : zz_GF z0 G) (hP : ∀ U, G U → zz_GD zS zS2 zLg z0 sp U) : zz_O l zTs D zcl zFK cy z0 sp (zTys cy) G "ToolMillLaw" mn 7 code d K 424 (za_aload 0 425) := zo_aload_n zd_900_424 rfl
theorem zd_900_425 : decode code 425 = .ok (.iload 4, 2) := by decide +kernel
theorem zlw_425 {l : Launch} {D : va_G} {cy : Nat → ClassId} {z0 : Nat} {sp : Nat → Nat} {G : State → Prop} {mn : String} {d : Nat} {K : zz_K} (hKS : zz_KS l D zcl zFK cy z0 sp (zTys cy) G zYN (fun y => Cond.code (zYN y) (zCN y) (zMQ y) (zRT y) :: zTs) d K) (hsp0 : sp 18446744073709551616 = 0) (hG : zz_GF z0 G) (hP : ∀ U, G U → zz_GD zS zS2 zLg z0 sp U) : zz_O l zTs D zcl zFK cy z0 sp (zTys cy) G "ToolMillLaw" mn 7 code d K 425 (za_iload 4 427) := zo_iload zd_900_425
theorem zd_900_427 : decode code 427 = .ok (.iconst 3, 1) := by decide +kernel
theorem zlw_427 {l : Launch} {D : va_G} {cy : Nat → ClassId} {z0 : Nat} {sp : Nat → Nat} {G : State → Prop} {mn : String} {d : Nat} {K : zz_K} (hKS : zz_KS l D zcl zFK cy z0 sp (zTys cy) G zYN (fun y => Cond.code (zYN y) (zCN y) (zMQ y) (zRT y) :: zTs) d K) (hsp0 : sp 18446744073709551616 = 0) (hG : zz_GF z0 G) (hP : ∀ U, G U → zz_GD zS zS2 zLg z0 sp U) : zz_O l zTs D zcl zFK cy z0 sp (zTys cy) G "ToolMillLaw" mn 7 code d K 427 (za_const (.int (Int32.ofNat 3)) 428) := zo_iconst zd_900_427 (by decide)
theorem zd_900_428 : decode code 428 = .ok (.iadd, 1) := by decide +kernel
theorem zlw_428 {l : Launch} {D : va_G} {cy : Nat → ClassId} {z0 : Nat} {sp : Nat → Nat} {G : State → Prop} {mn : String} {d : Nat} {K : zz_K} (hKS : zz_KS l D zcl zFK cy z0 sp (zTys cy) G zYN (fun y => Cond.code (zYN y) (zCN y) (zMQ y) (zRT y) :: zTs) d K) (hsp0 : sp 18446744073709551616 = 0) (hG : zz_GF z0 G) (hP : ∀ U, G U → zz_GD zS zS2 zLg z0 sp U) : zz_O l zTs D zcl zFK cy z0 sp (zTys cy) G "ToolMillLaw" mn 7 code d K 428 (za_iadd 429) := zo_iadd zd_900_428
theorem zd_900_430 : decode code 430 = .ok (.aload_n 3, 1) := by decide +kernel
theorem zlw_430 {l : Launch} {D : va_G} {cy : Nat → ClassId} {z0 : Nat} {sp : Nat → Nat} {G : State → Prop} {mn : String} {d : Nat} {K : zz_K} (hKS : zz_KS l D zcl zFK cy z0 sp (zTys cy) G zYN (fun y => Cond.code (zYN y) (zCN y) (zMQ y) (zRT y) :: zTs) d K) (hsp0 : sp 18446744073709551616 = 0) (hG : zz_GF z0 G) (hP : ∀ U, G U → zz_GD zS zS2 zLg z0 sp U) : zz_O l zTs D zcl zFK cy z0 sp (zTys cy) G "ToolMillLaw" mn 7 code d K 430 (za_aload 3 431) := zo_aload_n zd_900_430 rfl
theorem zd_900_434 : decode code 434 = .ok (.istore 5, 2) := by decide +kernel
theorem zlw_434 {l : Launch} {D : va_G} {cy : Nat → ClassId} {z0 : Nat} {sp : Nat → Nat} {G : State → Prop} {mn : String} {d : Nat} {K : zz_K} (hKS : zz_KS l D zcl zFK cy z0 sp (zTys cy) G zYN (fun y => Cond.code (zYN y) (zCN y) (zMQ y) (zRT y) :: zTs) d K) (hsp0 : sp 18446744073709551616 = 0) (hG : zz_GF z0 G) (hP : ∀ U, G U → zz_GD zS zS2 zLg z0 sp U) : zz_O l zTs D zcl zFK cy z0 sp (zTys cy) G "ToolMillLaw" mn 7 code d K 434 (za_istore 5 436) := zo_istore zd_900_434 (by decide)
theorem zd_900_436 : decode code 436 = .ok (.aload_n 2, 1) := by decide +kernel
theorem zlw_436 {l : Launch} {D : va_G} {cy : Nat → ClassId} {z0 : Nat} {sp : Nat → Nat} {G : State → Prop} {mn : String} {d : Nat} {K : zz_K} (hKS : zz_KS l D zcl zFK cy z0 sp (zTys cy) G zYN (fun y => Cond.code (zYN y) (zCN y) (zMQ y) (zRT y) :: zTs) d K) (hsp0 : sp 18446744073709551616 = 0) (hG : zz_GF z0 G) (hP : ∀ U, G U → zz_GD zS zS2 zLg z0 sp U) : zz_O l zTs D zcl zFK cy z0 sp (zTys cy) G "ToolMillLaw" mn 7 code d K 436 (za_aload 2 437) := zo_aload_n zd_900_436 rfl
theorem zd_900_437 : decode code 437 = .ok (.aload_n 0, 1) := by decide +kernel
theorem zlw_437 {l : Launch} {D : va_G} {cy : Nat → ClassId} {z0 : Nat} {sp : Nat → Nat} {G : State → Prop} {mn : String} {d : Nat} {K : zz_K} (hKS : zz_KS l D zcl zFK cy z0 sp (zTys cy) G zYN (fun y => Cond.code (zYN y) (zCN y) (zMQ y) (zRT y) :: zTs) d K) (hsp0 : sp 18446744073709551616 = 0) (hG : zz_GF z0 G) (hP : ∀ U, G U → zz_GD zS zS2 zLg z0 sp U) : zz_O l zTs D zcl zFK cy z0 sp (zTys cy) G "ToolMillLaw" mn 7 code d K 437 (za_aload 0 438) := zo_aload_n zd_900_437 rfl
theorem zd_900_438 : decode code 438 = .ok (.iload 4, 2) := by decide +kernel
theorem zlw_438 {l : Launch} {D : va_G} {cy : Nat → ClassId} {z0 : Nat} {sp : Nat → Nat} {G : State → Prop} {mn : String} {d : Nat} {K : zz_K} (hKS : zz_KS l D zcl zFK cy z0 sp (zTys cy) G zYN (fun y => Cond.code (zYN y) (zCN y) (zMQ y) (zRT y) :: zTs) d K) (hsp0 : sp 18446744073709551616 = 0) (hG : zz_GF z0 G) (hP : ∀ U, G U → zz_GD zS zS2 zLg z0 sp U) : zz_O l zTs D zcl zFK cy z0 sp (zTys cy) G "ToolMillLaw" mn 7 code d K 438 (za_iload 4 440) := zo_iload zd_900_438
theorem zd_900_440 : decode code 440 = .ok (.iconst 1, 1) := by decide +kernel
theorem zlw_440 {l : Launch} {D : va_G} {cy : Nat → ClassId} {z0 : Nat} {sp : Nat → Nat} {G : State → Prop} {mn : String} {d : Nat} {K : zz_K} (hKS : zz_KS l D zcl zFK cy z0 sp (zTys cy) G zYN (fun y => Cond.code (zYN y) (zCN y) (zMQ y) (zRT y) :: zTs) d K) (hsp0 : sp 18446744073709551616 = 0) (hG : zz_GF z0 G) (hP : ∀ U, G U → zz_GD zS zS2 zLg z0 sp U) : zz_O l zTs D zcl zFK cy z0 sp (zTys cy) G "ToolMillLaw" mn 7 code d K 440 (za_const (.int (Int32.ofNat 1)) 441) := zo_iconst zd_900_440 (by decide)
theorem zd_900_441 : decode code 441 = .ok (.iadd, 1) := by decide +kernel
theorem zlw_441 {l : Launch} {D : va_G} {cy : Nat → ClassId} {z0 : Nat} {sp : Nat → Nat} {G : State → Prop} {mn : String} {d : Nat} {K : zz_K} (hKS : zz_KS l D zcl zFK cy z0 sp (zTys cy) G zYN (fun y => Cond.code (zYN y) (zCN y) (zMQ y) (zRT y) :: zTs) d K) (hsp0 : sp 18446744073709551616 = 0) (hG : zz_GF z0 G) (hP : ∀ U, G U → zz_GD zS zS2 zLg z0 sp U) : zz_O l zTs D zcl zFK cy z0 sp (zTys cy) G "ToolMillLaw" mn 7 code d K 441 (za_iadd 442) := zo_iadd zd_900_441
theorem zd_900_443 : decode code 443 = .ok (.aload_n 0, 1) := by decide +kernel
theorem zlw_443 {l : Launch} {D : va_G} {cy : Nat → ClassId} {z0 : Nat} {sp : Nat → Nat} {G : State → Prop} {mn : String} {d : Nat} {K : zz_K} (hKS : zz_KS l D zcl zFK cy z0 sp (zTys cy) G zYN (fun y => Cond.code (zYN y) (zCN y) (zMQ y) (zRT y) :: zTs) d K) (hsp0 : sp 18446744073709551616 = 0) (hG : zz_GF z0 G) (hP : ∀ U, G U → zz_GD zS zS2 zLg z0 sp U) : zz_O l zTs D zcl zFK cy z0 sp (zTys cy) G "ToolMillLaw" mn 7 code d K 443 (za_aload 0 444) := zo_aload_n zd_900_443 rfl
theorem zd_900_444 : decode code 444 = .ok (.iload 4, 2) := by decide +kernel
theorem zlw_444 {l : Launch} {D : va_G} {cy : Nat → ClassId} {z0 : Nat} {sp : Nat → Nat} {G : State → Prop} {mn : String} {d : Nat} {K : zz_K} (hKS : zz_KS l D zcl zFK cy z0 sp (zTys cy) G zYN (fun y => Cond.code (zYN y) (zCN y) (zMQ y) (zRT y) :: zTs) d K) (hsp0 : sp 18446744073709551616 = 0) (hG : zz_GF z0 G) (hP : ∀ U, G U → zz_GD zS zS2 zLg z0 sp U) : zz_O l zTs D zcl zFK cy z0 sp (zTys cy) G "ToolMillLaw" mn 7 code d K 444 (za_iload 4 446) := zo_iload zd_900_444
theorem zd_900_446 : decode code 446 = .ok (.iconst 2, 1) := by decide +kernel
theorem zlw_446 {l : Launch} {D : va_G} {cy : Nat → ClassId} {z0 : Nat} {sp : Nat → Nat} {G : State → Prop} {mn : String} {d : Nat} {K : zz_K} (hKS : zz_KS l D zcl zFK cy z0 sp (zTys cy) G zYN (fun y => Cond.code (zYN y) (zCN y) (zMQ y) (zRT y) :: zTs) d K) (hsp0 : sp 18446744073709551616 = 0) (hG : zz_GF z0 G) (hP : ∀ U, G U → zz_GD zS zS2 zLg z0 sp U) : zz_O l zTs D zcl zFK cy z0 sp (zTys cy) G "ToolMillLaw" mn 7 code d K 446 (za_const (.int (Int32.ofNat 2)) 447) := zo_iconst zd_900_446 (by decide)
theorem zd_900_447 : decode code 447 = .ok (.iadd, 1) := by decide +kernel
theorem zlw_447 {l : Launch} {D : va_G} {cy : Nat → ClassId} {z0 : Nat} {sp : Nat → Nat} {G : State → Prop} {mn : String} {d : Nat} {K : zz_K} (hKS : zz_KS l D zcl zFK cy z0 sp (zTys cy) G zYN (fun y => Cond.code (zYN y) (zCN y) (zMQ y) (zRT y) :: zTs) d K) (hsp0 : sp 18446744073709551616 = 0) (hG : zz_GF z0 G) (hP : ∀ U, G U → zz_GD zS zS2 zLg z0 sp U) : zz_O l zTs D zcl zFK cy z0 sp (zTys cy) G "ToolMillLaw" mn 7 code d K 447 (za_iadd 448) := zo_iadd zd_900_447
theorem zd_900_449 : decode code 449 = .ok (.aload_n 0, 1) := by decide +kernel
theorem zlw_449 {l : Launch} {D : va_G} {cy : Nat → ClassId} {z0 : Nat} {sp : Nat → Nat} {G : State → Prop} {mn : String} {d : Nat} {K : zz_K} (hKS : zz_KS l D zcl zFK cy z0 sp (zTys cy) G zYN (fun y => Cond.code (zYN y) (zCN y) (zMQ y) (zRT y) :: zTs) d K) (hsp0 : sp 18446744073709551616 = 0) (hG : zz_GF z0 G) (hP : ∀ U, G U → zz_GD zS zS2 zLg z0 sp U) : zz_O l zTs D zcl zFK cy z0 sp (zTys cy) G "ToolMillLaw" mn 7 code d K 449 (za_aload 0 450) := zo_aload_n zd_900_449 rfl
theorem zd_900_450 : decode code 450 = .ok (.iload 4, 2) := by decide +kernel
theorem zlw_450 {l : Launch} {D : va_G} {cy : Nat → ClassId} {z0 : Nat} {sp : Nat → Nat} {G : State → Prop} {mn : String} {d : Nat} {K : zz_K} (hKS : zz_KS l D zcl zFK cy z0 sp (zTys cy) G zYN (fun y => Cond.code (zYN y) (zCN y) (zMQ y) (zRT y) :: zTs) d K) (hsp0 : sp 18446744073709551616 = 0) (hG : zz_GF z0 G) (hP : ∀ U, G U → zz_GD zS zS2 zLg z0 sp U) : zz_O l zTs D zcl zFK cy z0 sp (zTys cy) G "ToolMillLaw" mn 7 code d K 450 (za_iload 4 452) := zo_iload zd_900_450
theorem zd_900_452 : decode code 452 = .ok (.iconst 3, 1) := by decide +kernel
theorem zlw_452 {l : Launch} {D : va_G} {cy : Nat → ClassId} {z0 : Nat} {sp : Nat → Nat} {G : State → Prop} {mn : String} {d : Nat} {K : zz_K} (hKS : zz_KS l D zcl zFK cy z0 sp (zTys cy) G zYN (fun y => Cond.code (zYN y) (zCN y) (zMQ y) (zRT y) :: zTs) d K) (hsp0 : sp 18446744073709551616 = 0) (hG : zz_GF z0 G) (hP : ∀ U, G U → zz_GD zS zS2 zLg z0 sp U) : zz_O l zTs D zcl zFK cy z0 sp (zTys cy) G "ToolMillLaw" mn 7 code d K 452 (za_const (.int (Int32.ofNat 3)) 453) := zo_iconst zd_900_452 (by decide)
theorem zd_900_453 : decode code 453 = .ok (.iadd, 1) := by decide +kernel
theorem zlw_453 {l : Launch} {D : va_G} {cy : Nat → ClassId} {z0 : Nat} {sp : Nat → Nat} {G : State → Prop} {mn : String} {d : Nat} {K : zz_K} (hKS : zz_KS l D zcl zFK cy z0 sp (zTys cy) G zYN (fun y => Cond.code (zYN y) (zCN y) (zMQ y) (zRT y) :: zTs) d K) (hsp0 : sp 18446744073709551616 = 0) (hG : zz_GF z0 G) (hP : ∀ U, G U → zz_GD zS zS2 zLg z0 sp U) : zz_O l zTs D zcl zFK cy z0 sp (zTys cy) G "ToolMillLaw" mn 7 code d K 453 (za_iadd 454) := zo_iadd zd_900_453
theorem zd_900_455 : decode code 455 = .ok (.invokevirtual 134, 3) := by decide +kernel
theorem zlw_455 {l : Launch} {D : va_G} {cy : Nat → ClassId} {z0 : Nat} {sp : Nat → Nat} {G : State → Prop} {mn : String} {d : Nat} {K : zz_K} (hKS : zz_KS l D zcl zFK cy z0 sp (zTys cy) G zYN (fun y => Cond.code (zYN y) (zCN y) (zMQ y) (zRT y) :: zTs) d K) (hsp0 : sp 18446744073709551616 = 0) (hG : zz_GF z0 G) (hP : ∀ U, G U → zz_GD zS zS2 zLg z0 sp U) : zz_O l zTs D zcl zFK cy z0 sp (zTys cy) G "ToolMillLaw" mn 7 code d K 455 (za_callV 0 34 3 458) := zcV_34 hKS hG zd_900_455 zw_3058
theorem zd_900_458 : decode code 458 = .ok (.istore 6, 2) := by decide +kernel
theorem zlw_458 {l : Launch} {D : va_G} {cy : Nat → ClassId} {z0 : Nat} {sp : Nat → Nat} {G : State → Prop} {mn : String} {d : Nat} {K : zz_K} (hKS : zz_KS l D zcl zFK cy z0 sp (zTys cy) G zYN (fun y => Cond.code (zYN y) (zCN y) (zMQ y) (zRT y) :: zTs) d K) (hsp0 : sp 18446744073709551616 = 0) (hG : zz_GF z0 G) (hP : ∀ U, G U → zz_GD zS zS2 zLg z0 sp U) : zz_O l zTs D zcl zFK cy z0 sp (zTys cy) G "ToolMillLaw" mn 7 code d K 458 (za_istore 6 460) := zo_istore zd_900_458 (by decide)
theorem zd_900_460 : decode code 460 = .ok (.goto 439, 3) := by decide +kernel
theorem zlw_460 {l : Launch} {D : va_G} {cy : Nat → ClassId} {z0 : Nat} {sp : Nat → Nat} {G : State → Prop} {mn : String} {d : Nat} {K : zz_K} (hKS : zz_KS l D zcl zFK cy z0 sp (zTys cy) G zYN (fun y => Cond.code (zYN y) (zCN y) (zMQ y) (zRT y) :: zTs) d K) (hsp0 : sp 18446744073709551616 = 0) (hG : zz_GF z0 G) (hP : ∀ U, G U → zz_GD zS zS2 zLg z0 sp U) : zz_O l zTs D zcl zFK cy z0 sp (zTys cy) G "ToolMillLaw" mn 7 code d K 460 (za_goto 899) := zo_goto zd_900_460 (by decide)
theorem zd_900_463 : decode code 463 = .ok (.aload_n 1, 1) := by decide +kernel
theorem zlw_463 {l : Launch} {D : va_G} {cy : Nat → ClassId} {z0 : Nat} {sp : Nat → Nat} {G : State → Prop} {mn : String} {d : Nat} {K : zz_K} (hKS : zz_KS l D zcl zFK cy z0 sp (zTys cy) G zYN (fun y => Cond.code (zYN y) (zCN y) (zMQ y) (zRT y) :: zTs) d K) (hsp0 : sp 18446744073709551616 = 0) (hG : zz_GF z0 G) (hP : ∀ U, G U → zz_GD zS zS2 zLg z0 sp U) : zz_O l zTs D zcl zFK cy z0 sp (zTys cy) G "ToolMillLaw" mn 7 code d K 463 (za_aload 1 464) := zo_aload_n zd_900_463 rfl
theorem zd_900_464 : decode code 464 = .ok (.aload_n 0, 1) := by decide +kernel
theorem zlw_464 {l : Launch} {D : va_G} {cy : Nat → ClassId} {z0 : Nat} {sp : Nat → Nat} {G : State → Prop} {mn : String} {d : Nat} {K : zz_K} (hKS : zz_KS l D zcl zFK cy z0 sp (zTys cy) G zYN (fun y => Cond.code (zYN y) (zCN y) (zMQ y) (zRT y) :: zTs) d K) (hsp0 : sp 18446744073709551616 = 0) (hG : zz_GF z0 G) (hP : ∀ U, G U → zz_GD zS zS2 zLg z0 sp U) : zz_O l zTs D zcl zFK cy z0 sp (zTys cy) G "ToolMillLaw" mn 7 code d K 464 (za_aload 0 465) := zo_aload_n zd_900_464 rfl
theorem zd_900_465 : decode code 465 = .ok (.iload 4, 2) := by decide +kernel
theorem zlw_465 {l : Launch} {D : va_G} {cy : Nat → ClassId} {z0 : Nat} {sp : Nat → Nat} {G : State → Prop} {mn : String} {d : Nat} {K : zz_K} (hKS : zz_KS l D zcl zFK cy z0 sp (zTys cy) G zYN (fun y => Cond.code (zYN y) (zCN y) (zMQ y) (zRT y) :: zTs) d K) (hsp0 : sp 18446744073709551616 = 0) (hG : zz_GF z0 G) (hP : ∀ U, G U → zz_GD zS zS2 zLg z0 sp U) : zz_O l zTs D zcl zFK cy z0 sp (zTys cy) G "ToolMillLaw" mn 7 code d K 465 (za_iload 4 467) := zo_iload zd_900_465
theorem zd_900_467 : decode code 467 = .ok (.iconst 1, 1) := by decide +kernel
theorem zlw_467 {l : Launch} {D : va_G} {cy : Nat → ClassId} {z0 : Nat} {sp : Nat → Nat} {G : State → Prop} {mn : String} {d : Nat} {K : zz_K} (hKS : zz_KS l D zcl zFK cy z0 sp (zTys cy) G zYN (fun y => Cond.code (zYN y) (zCN y) (zMQ y) (zRT y) :: zTs) d K) (hsp0 : sp 18446744073709551616 = 0) (hG : zz_GF z0 G) (hP : ∀ U, G U → zz_GD zS zS2 zLg z0 sp U) : zz_O l zTs D zcl zFK cy z0 sp (zTys cy) G "ToolMillLaw" mn 7 code d K 467 (za_const (.int (Int32.ofNat 1)) 468) := zo_iconst zd_900_467 (by decide)
theorem zd_900_468 : decode code 468 = .ok (.iadd, 1) := by decide +kernel
theorem zlw_468 {l : Launch} {D : va_G} {cy : Nat → ClassId} {z0 : Nat} {sp : Nat → Nat} {G : State → Prop} {mn : String} {d : Nat} {K : zz_K} (hKS : zz_KS l D zcl zFK cy z0 sp (zTys cy) G zYN (fun y => Cond.code (zYN y) (zCN y) (zMQ y) (zRT y) :: zTs) d K) (hsp0 : sp 18446744073709551616 = 0) (hG : zz_GF z0 G) (hP : ∀ U, G U → zz_GD zS zS2 zLg z0 sp U) : zz_O l zTs D zcl zFK cy z0 sp (zTys cy) G "ToolMillLaw" mn 7 code d K 468 (za_iadd 469) := zo_iadd zd_900_468
theorem zd_900_470 : decode code 470 = .ok (.aload_n 0, 1) := by decide +kernel
theorem zlw_470 {l : Launch} {D : va_G} {cy : Nat → ClassId} {z0 : Nat} {sp : Nat → Nat} {G : State → Prop} {mn : String} {d : Nat} {K : zz_K} (hKS : zz_KS l D zcl zFK cy z0 sp (zTys cy) G zYN (fun y => Cond.code (zYN y) (zCN y) (zMQ y) (zRT y) :: zTs) d K) (hsp0 : sp 18446744073709551616 = 0) (hG : zz_GF z0 G) (hP : ∀ U, G U → zz_GD zS zS2 zLg z0 sp U) : zz_O l zTs D zcl zFK cy z0 sp (zTys cy) G "ToolMillLaw" mn 7 code d K 470 (za_aload 0 471) := zo_aload_n zd_900_470 rfl
theorem zd_900_471 : decode code 471 = .ok (.iload 4, 2) := by decide +kernel
theorem zlw_471 {l : Launch} {D : va_G} {cy : Nat → ClassId} {z0 : Nat} {sp : Nat → Nat} {G : State → Prop} {mn : String} {d : Nat} {K : zz_K} (hKS : zz_KS l D zcl zFK cy z0 sp (zTys cy) G zYN (fun y => Cond.code (zYN y) (zCN y) (zMQ y) (zRT y) :: zTs) d K) (hsp0 : sp 18446744073709551616 = 0) (hG : zz_GF z0 G) (hP : ∀ U, G U → zz_GD zS zS2 zLg z0 sp U) : zz_O l zTs D zcl zFK cy z0 sp (zTys cy) G "ToolMillLaw" mn 7 code d K 471 (za_iload 4 473) := zo_iload zd_900_471
theorem zd_900_473 : decode code 473 = .ok (.iconst 2, 1) := by decide +kernel
theorem zlw_473 {l : Launch} {D : va_G} {cy : Nat → ClassId} {z0 : Nat} {sp : Nat → Nat} {G : State → Prop} {mn : String} {d : Nat} {K : zz_K} (hKS : zz_KS l D zcl zFK cy z0 sp (zTys cy) G zYN (fun y => Cond.code (zYN y) (zCN y) (zMQ y) (zRT y) :: zTs) d K) (hsp0 : sp 18446744073709551616 = 0) (hG : zz_GF z0 G) (hP : ∀ U, G U → zz_GD zS zS2 zLg z0 sp U) : zz_O l zTs D zcl zFK cy z0 sp (zTys cy) G "ToolMillLaw" mn 7 code d K 473 (za_const (.int (Int32.ofNat 2)) 474) := zo_iconst zd_900_473 (by decide)
theorem zd_900_474 : decode code 474 = .ok (.iadd, 1) := by decide +kernel
theorem zlw_474 {l : Launch} {D : va_G} {cy : Nat → ClassId} {z0 : Nat} {sp : Nat → Nat} {G : State → Prop} {mn : String} {d : Nat} {K : zz_K} (hKS : zz_KS l D zcl zFK cy z0 sp (zTys cy) G zYN (fun y => Cond.code (zYN y) (zCN y) (zMQ y) (zRT y) :: zTs) d K) (hsp0 : sp 18446744073709551616 = 0) (hG : zz_GF z0 G) (hP : ∀ U, G U → zz_GD zS zS2 zLg z0 sp U) : zz_O l zTs D zcl zFK cy z0 sp (zTys cy) G "ToolMillLaw" mn 7 code d K 474 (za_iadd 475) := zo_iadd zd_900_474
theorem zd_900_476 : decode code 476 = .ok (.aload_n 0, 1) := by decide +kernel
theorem zlw_476 {l : Launch} {D : va_G} {cy : Nat → ClassId} {z0 : Nat} {sp : Nat → Nat} {G : State → Prop} {mn : String} {d : Nat} {K : zz_K} (hKS : zz_KS l D zcl zFK cy z0 sp (zTys cy) G zYN (fun y => Cond.code (zYN y) (zCN y) (zMQ y) (zRT y) :: zTs) d K) (hsp0 : sp 18446744073709551616 = 0) (hG : zz_GF z0 G) (hP : ∀ U, G U → zz_GD zS zS2 zLg z0 sp U) : zz_O l zTs D zcl zFK cy z0 sp (zTys cy) G "ToolMillLaw" mn 7 code d K 476 (za_aload 0 477) := zo_aload_n zd_900_476 rfl
theorem zd_900_477 : decode code 477 = .ok (.iload 4, 2) := by decide +kernel
theorem zlw_477 {l : Launch} {D : va_G} {cy : Nat → ClassId} {z0 : Nat} {sp : Nat → Nat} {G : State → Prop} {mn : String} {d : Nat} {K : zz_K} (hKS : zz_KS l D zcl zFK cy z0 sp (zTys cy) G zYN (fun y => Cond.code (zYN y) (zCN y) (zMQ y) (zRT y) :: zTs) d K) (hsp0 : sp 18446744073709551616 = 0) (hG : zz_GF z0 G) (hP : ∀ U, G U → zz_GD zS zS2 zLg z0 sp U) : zz_O l zTs D zcl zFK cy z0 sp (zTys cy) G "ToolMillLaw" mn 7 code d K 477 (za_iload 4 479) := zo_iload zd_900_477
theorem zd_900_479 : decode code 479 = .ok (.iconst 3, 1) := by decide +kernel
theorem zlw_479 {l : Launch} {D : va_G} {cy : Nat → ClassId} {z0 : Nat} {sp : Nat → Nat} {G : State → Prop} {mn : String} {d : Nat} {K : zz_K} (hKS : zz_KS l D zcl zFK cy z0 sp (zTys cy) G zYN (fun y => Cond.code (zYN y) (zCN y) (zMQ y) (zRT y) :: zTs) d K) (hsp0 : sp 18446744073709551616 = 0) (hG : zz_GF z0 G) (hP : ∀ U, G U → zz_GD zS zS2 zLg z0 sp U) : zz_O l zTs D zcl zFK cy z0 sp (zTys cy) G "ToolMillLaw" mn 7 code d K 479 (za_const (.int (Int32.ofNat 3)) 480) := zo_iconst zd_900_479 (by decide)
theorem zd_900_480 : decode code 480 = .ok (.iadd, 1) := by decide +kernel
theorem zlw_480 {l : Launch} {D : va_G} {cy : Nat → ClassId} {z0 : Nat} {sp : Nat → Nat} {G : State → Prop} {mn : String} {d : Nat} {K : zz_K} (hKS : zz_KS l D zcl zFK cy z0 sp (zTys cy) G zYN (fun y => Cond.code (zYN y) (zCN y) (zMQ y) (zRT y) :: zTs) d K) (hsp0 : sp 18446744073709551616 = 0) (hG : zz_GF z0 G) (hP : ∀ U, G U → zz_GD zS zS2 zLg z0 sp U) : zz_O l zTs D zcl zFK cy z0 sp (zTys cy) G "ToolMillLaw" mn 7 code d K 480 (za_iadd 481) := zo_iadd zd_900_480
theorem zd_900_482 : decode code 482 = .ok (.aload_n 3, 1) := by decide +kernel
theorem zlw_482 {l : Launch} {D : va_G} {cy : Nat → ClassId} {z0 : Nat} {sp : Nat → Nat} {G : State → Prop} {mn : String} {d : Nat} {K : zz_K} (hKS : zz_KS l D zcl zFK cy z0 sp (zTys cy) G zYN (fun y => Cond.code (zYN y) (zCN y) (zMQ y) (zRT y) :: zTs) d K) (hsp0 : sp 18446744073709551616 = 0) (hG : zz_GF z0 G) (hP : ∀ U, G U → zz_GD zS zS2 zLg z0 sp U) : zz_O l zTs D zcl zFK cy z0 sp (zTys cy) G "ToolMillLaw" mn 7 code d K 482 (za_aload 3 483) := zo_aload_n zd_900_482 rfl
theorem zd_900_486 : decode code 486 = .ok (.istore 5, 2) := by decide +kernel
theorem zlw_486 {l : Launch} {D : va_G} {cy : Nat → ClassId} {z0 : Nat} {sp : Nat → Nat} {G : State → Prop} {mn : String} {d : Nat} {K : zz_K} (hKS : zz_KS l D zcl zFK cy z0 sp (zTys cy) G zYN (fun y => Cond.code (zYN y) (zCN y) (zMQ y) (zRT y) :: zTs) d K) (hsp0 : sp 18446744073709551616 = 0) (hG : zz_GF z0 G) (hP : ∀ U, G U → zz_GD zS zS2 zLg z0 sp U) : zz_O l zTs D zcl zFK cy z0 sp (zTys cy) G "ToolMillLaw" mn 7 code d K 486 (za_istore 5 488) := zo_istore zd_900_486 (by decide)
theorem zd_900_488 : decode code 488 = .ok (.aload_n 2, 1) := by decide +kernel
theorem zlw_488 {l : Launch} {D : va_G} {cy : Nat → ClassId} {z0 : Nat} {sp : Nat → Nat} {G : State → Prop} {mn : String} {d : Nat} {K : zz_K} (hKS : zz_KS l D zcl zFK cy z0 sp (zTys cy) G zYN (fun y => Cond.code (zYN y) (zCN y) (zMQ y) (zRT y) :: zTs) d K) (hsp0 : sp 18446744073709551616 = 0) (hG : zz_GF z0 G) (hP : ∀ U, G U → zz_GD zS zS2 zLg z0 sp U) : zz_O l zTs D zcl zFK cy z0 sp (zTys cy) G "ToolMillLaw" mn 7 code d K 488 (za_aload 2 489) := zo_aload_n zd_900_488 rfl
theorem zd_900_489 : decode code 489 = .ok (.aload_n 0, 1) := by decide +kernel
theorem zlw_489 {l : Launch} {D : va_G} {cy : Nat → ClassId} {z0 : Nat} {sp : Nat → Nat} {G : State → Prop} {mn : String} {d : Nat} {K : zz_K} (hKS : zz_KS l D zcl zFK cy z0 sp (zTys cy) G zYN (fun y => Cond.code (zYN y) (zCN y) (zMQ y) (zRT y) :: zTs) d K) (hsp0 : sp 18446744073709551616 = 0) (hG : zz_GF z0 G) (hP : ∀ U, G U → zz_GD zS zS2 zLg z0 sp U) : zz_O l zTs D zcl zFK cy z0 sp (zTys cy) G "ToolMillLaw" mn 7 code d K 489 (za_aload 0 490) := zo_aload_n zd_900_489 rfl
theorem zd_900_490 : decode code 490 = .ok (.iload 4, 2) := by decide +kernel
theorem zlw_490 {l : Launch} {D : va_G} {cy : Nat → ClassId} {z0 : Nat} {sp : Nat → Nat} {G : State → Prop} {mn : String} {d : Nat} {K : zz_K} (hKS : zz_KS l D zcl zFK cy z0 sp (zTys cy) G zYN (fun y => Cond.code (zYN y) (zCN y) (zMQ y) (zRT y) :: zTs) d K) (hsp0 : sp 18446744073709551616 = 0) (hG : zz_GF z0 G) (hP : ∀ U, G U → zz_GD zS zS2 zLg z0 sp U) : zz_O l zTs D zcl zFK cy z0 sp (zTys cy) G "ToolMillLaw" mn 7 code d K 490 (za_iload 4 492) := zo_iload zd_900_490
theorem zd_900_492 : decode code 492 = .ok (.iconst 1, 1) := by decide +kernel
theorem zlw_492 {l : Launch} {D : va_G} {cy : Nat → ClassId} {z0 : Nat} {sp : Nat → Nat} {G : State → Prop} {mn : String} {d : Nat} {K : zz_K} (hKS : zz_KS l D zcl zFK cy z0 sp (zTys cy) G zYN (fun y => Cond.code (zYN y) (zCN y) (zMQ y) (zRT y) :: zTs) d K) (hsp0 : sp 18446744073709551616 = 0) (hG : zz_GF z0 G) (hP : ∀ U, G U → zz_GD zS zS2 zLg z0 sp U) : zz_O l zTs D zcl zFK cy z0 sp (zTys cy) G "ToolMillLaw" mn 7 code d K 492 (za_const (.int (Int32.ofNat 1)) 493) := zo_iconst zd_900_492 (by decide)
theorem zd_900_493 : decode code 493 = .ok (.iadd, 1) := by decide +kernel
theorem zlw_493 {l : Launch} {D : va_G} {cy : Nat → ClassId} {z0 : Nat} {sp : Nat → Nat} {G : State → Prop} {mn : String} {d : Nat} {K : zz_K} (hKS : zz_KS l D zcl zFK cy z0 sp (zTys cy) G zYN (fun y => Cond.code (zYN y) (zCN y) (zMQ y) (zRT y) :: zTs) d K) (hsp0 : sp 18446744073709551616 = 0) (hG : zz_GF z0 G) (hP : ∀ U, G U → zz_GD zS zS2 zLg z0 sp U) : zz_O l zTs D zcl zFK cy z0 sp (zTys cy) G "ToolMillLaw" mn 7 code d K 493 (za_iadd 494) := zo_iadd zd_900_493
theorem zd_900_495 : decode code 495 = .ok (.aload_n 0, 1) := by decide +kernel
theorem zlw_495 {l : Launch} {D : va_G} {cy : Nat → ClassId} {z0 : Nat} {sp : Nat → Nat} {G : State → Prop} {mn : String} {d : Nat} {K : zz_K} (hKS : zz_KS l D zcl zFK cy z0 sp (zTys cy) G zYN (fun y => Cond.code (zYN y) (zCN y) (zMQ y) (zRT y) :: zTs) d K) (hsp0 : sp 18446744073709551616 = 0) (hG : zz_GF z0 G) (hP : ∀ U, G U → zz_GD zS zS2 zLg z0 sp U) : zz_O l zTs D zcl zFK cy z0 sp (zTys cy) G "ToolMillLaw" mn 7 code d K 495 (za_aload 0 496) := zo_aload_n zd_900_495 rfl
theorem zd_900_496 : decode code 496 = .ok (.iload 4, 2) := by decide +kernel
theorem zlw_496 {l : Launch} {D : va_G} {cy : Nat → ClassId} {z0 : Nat} {sp : Nat → Nat} {G : State → Prop} {mn : String} {d : Nat} {K : zz_K} (hKS : zz_KS l D zcl zFK cy z0 sp (zTys cy) G zYN (fun y => Cond.code (zYN y) (zCN y) (zMQ y) (zRT y) :: zTs) d K) (hsp0 : sp 18446744073709551616 = 0) (hG : zz_GF z0 G) (hP : ∀ U, G U → zz_GD zS zS2 zLg z0 sp U) : zz_O l zTs D zcl zFK cy z0 sp (zTys cy) G "ToolMillLaw" mn 7 code d K 496 (za_iload 4 498) := zo_iload zd_900_496
theorem zd_900_498 : decode code 498 = .ok (.iconst 2, 1) := by decide +kernel
theorem zlw_498 {l : Launch} {D : va_G} {cy : Nat → ClassId} {z0 : Nat} {sp : Nat → Nat} {G : State → Prop} {mn : String} {d : Nat} {K : zz_K} (hKS : zz_KS l D zcl zFK cy z0 sp (zTys cy) G zYN (fun y => Cond.code (zYN y) (zCN y) (zMQ y) (zRT y) :: zTs) d K) (hsp0 : sp 18446744073709551616 = 0) (hG : zz_GF z0 G) (hP : ∀ U, G U → zz_GD zS zS2 zLg z0 sp U) : zz_O l zTs D zcl zFK cy z0 sp (zTys cy) G "ToolMillLaw" mn 7 code d K 498 (za_const (.int (Int32.ofNat 2)) 499) := zo_iconst zd_900_498 (by decide)
theorem zd_900_499 : decode code 499 = .ok (.iadd, 1) := by decide +kernel
theorem zlw_499 {l : Launch} {D : va_G} {cy : Nat → ClassId} {z0 : Nat} {sp : Nat → Nat} {G : State → Prop} {mn : String} {d : Nat} {K : zz_K} (hKS : zz_KS l D zcl zFK cy z0 sp (zTys cy) G zYN (fun y => Cond.code (zYN y) (zCN y) (zMQ y) (zRT y) :: zTs) d K) (hsp0 : sp 18446744073709551616 = 0) (hG : zz_GF z0 G) (hP : ∀ U, G U → zz_GD zS zS2 zLg z0 sp U) : zz_O l zTs D zcl zFK cy z0 sp (zTys cy) G "ToolMillLaw" mn 7 code d K 499 (za_iadd 500) := zo_iadd zd_900_499
theorem zd_900_501 : decode code 501 = .ok (.aload_n 0, 1) := by decide +kernel
theorem zlw_501 {l : Launch} {D : va_G} {cy : Nat → ClassId} {z0 : Nat} {sp : Nat → Nat} {G : State → Prop} {mn : String} {d : Nat} {K : zz_K} (hKS : zz_KS l D zcl zFK cy z0 sp (zTys cy) G zYN (fun y => Cond.code (zYN y) (zCN y) (zMQ y) (zRT y) :: zTs) d K) (hsp0 : sp 18446744073709551616 = 0) (hG : zz_GF z0 G) (hP : ∀ U, G U → zz_GD zS zS2 zLg z0 sp U) : zz_O l zTs D zcl zFK cy z0 sp (zTys cy) G "ToolMillLaw" mn 7 code d K 501 (za_aload 0 502) := zo_aload_n zd_900_501 rfl
theorem zd_900_502 : decode code 502 = .ok (.iload 4, 2) := by decide +kernel
theorem zlw_502 {l : Launch} {D : va_G} {cy : Nat → ClassId} {z0 : Nat} {sp : Nat → Nat} {G : State → Prop} {mn : String} {d : Nat} {K : zz_K} (hKS : zz_KS l D zcl zFK cy z0 sp (zTys cy) G zYN (fun y => Cond.code (zYN y) (zCN y) (zMQ y) (zRT y) :: zTs) d K) (hsp0 : sp 18446744073709551616 = 0) (hG : zz_GF z0 G) (hP : ∀ U, G U → zz_GD zS zS2 zLg z0 sp U) : zz_O l zTs D zcl zFK cy z0 sp (zTys cy) G "ToolMillLaw" mn 7 code d K 502 (za_iload 4 504) := zo_iload zd_900_502
theorem zd_900_504 : decode code 504 = .ok (.iconst 3, 1) := by decide +kernel
theorem zlw_504 {l : Launch} {D : va_G} {cy : Nat → ClassId} {z0 : Nat} {sp : Nat → Nat} {G : State → Prop} {mn : String} {d : Nat} {K : zz_K} (hKS : zz_KS l D zcl zFK cy z0 sp (zTys cy) G zYN (fun y => Cond.code (zYN y) (zCN y) (zMQ y) (zRT y) :: zTs) d K) (hsp0 : sp 18446744073709551616 = 0) (hG : zz_GF z0 G) (hP : ∀ U, G U → zz_GD zS zS2 zLg z0 sp U) : zz_O l zTs D zcl zFK cy z0 sp (zTys cy) G "ToolMillLaw" mn 7 code d K 504 (za_const (.int (Int32.ofNat 3)) 505) := zo_iconst zd_900_504 (by decide)
theorem zd_900_505 : decode code 505 = .ok (.iadd, 1) := by decide +kernel
theorem zlw_505 {l : Launch} {D : va_G} {cy : Nat → ClassId} {z0 : Nat} {sp : Nat → Nat} {G : State → Prop} {mn : String} {d : Nat} {K : zz_K} (hKS : zz_KS l D zcl zFK cy z0 sp (zTys cy) G zYN (fun y => Cond.code (zYN y) (zCN y) (zMQ y) (zRT y) :: zTs) d K) (hsp0 : sp 18446744073709551616 = 0) (hG : zz_GF z0 G) (hP : ∀ U, G U → zz_GD zS zS2 zLg z0 sp U) : zz_O l zTs D zcl zFK cy z0 sp (zTys cy) G "ToolMillLaw" mn 7 code d K 505 (za_iadd 506) := zo_iadd zd_900_505
theorem zd_900_507 : decode code 507 = .ok (.invokevirtual 137, 3) := by decide +kernel
theorem zlw_507 {l : Launch} {D : va_G} {cy : Nat → ClassId} {z0 : Nat} {sp : Nat → Nat} {G : State → Prop} {mn : String} {d : Nat} {K : zz_K} (hKS : zz_KS l D zcl zFK cy z0 sp (zTys cy) G zYN (fun y => Cond.code (zYN y) (zCN y) (zMQ y) (zRT y) :: zTs) d K) (hsp0 : sp 18446744073709551616 = 0) (hG : zz_GF z0 G) (hP : ∀ U, G U → zz_GD zS zS2 zLg z0 sp U) : zz_O l zTs D zcl zFK cy z0 sp (zTys cy) G "ToolMillLaw" mn 7 code d K 507 (za_callV 0 35 3 510) := zcV_35 hKS hG zd_900_507 zw_3059
theorem zd_900_510 : decode code 510 = .ok (.istore 6, 2) := by decide +kernel
theorem zlw_510 {l : Launch} {D : va_G} {cy : Nat → ClassId} {z0 : Nat} {sp : Nat → Nat} {G : State → Prop} {mn : String} {d : Nat} {K : zz_K} (hKS : zz_KS l D zcl zFK cy z0 sp (zTys cy) G zYN (fun y => Cond.code (zYN y) (zCN y) (zMQ y) (zRT y) :: zTs) d K) (hsp0 : sp 18446744073709551616 = 0) (hG : zz_GF z0 G) (hP : ∀ U, G U → zz_GD zS zS2 zLg z0 sp U) : zz_O l zTs D zcl zFK cy z0 sp (zTys cy) G "ToolMillLaw" mn 7 code d K 510 (za_istore 6 512) := zo_istore zd_900_510 (by decide)
theorem zd_900_512 : decode code 512 = .ok (.goto 387, 3) := by decide +kernel
theorem zlw_512 {l : Launch} {D : va_G} {cy : Nat → ClassId} {z0 : Nat} {sp : Nat → Nat} {G : State → Prop} {mn : String} {d : Nat} {K : zz_K} (hKS : zz_KS l D zcl zFK cy z0 sp (zTys cy) G zYN (fun y => Cond.code (zYN y) (zCN y) (zMQ y) (zRT y) :: zTs) d K) (hsp0 : sp 18446744073709551616 = 0) (hG : zz_GF z0 G) (hP : ∀ U, G U → zz_GD zS zS2 zLg z0 sp U) : zz_O l zTs D zcl zFK cy z0 sp (zTys cy) G "ToolMillLaw" mn 7 code d K 512 (za_goto 899) := zo_goto zd_900_512 (by decide)
theorem zd_900_515 : decode code 515 = .ok (.aload_n 1, 1) := by decide +kernel
theorem zlw_515 {l : Launch} {D : va_G} {cy : Nat → ClassId} {z0 : Nat} {sp : Nat → Nat} {G : State → Prop} {mn : String} {d : Nat} {K : zz_K} (hKS : zz_KS l D zcl zFK cy z0 sp (zTys cy) G zYN (fun y => Cond.code (zYN y) (zCN y) (zMQ y) (zRT y) :: zTs) d K) (hsp0 : sp 18446744073709551616 = 0) (hG : zz_GF z0 G) (hP : ∀ U, G U → zz_GD zS zS2 zLg z0 sp U) : zz_O l zTs D zcl zFK cy z0 sp (zTys cy) G "ToolMillLaw" mn 7 code d K 515 (za_aload 1 516) := zo_aload_n zd_900_515 rfl
theorem zd_900_516 : decode code 516 = .ok (.aload_n 0, 1) := by decide +kernel
theorem zlw_516 {l : Launch} {D : va_G} {cy : Nat → ClassId} {z0 : Nat} {sp : Nat → Nat} {G : State → Prop} {mn : String} {d : Nat} {K : zz_K} (hKS : zz_KS l D zcl zFK cy z0 sp (zTys cy) G zYN (fun y => Cond.code (zYN y) (zCN y) (zMQ y) (zRT y) :: zTs) d K) (hsp0 : sp 18446744073709551616 = 0) (hG : zz_GF z0 G) (hP : ∀ U, G U → zz_GD zS zS2 zLg z0 sp U) : zz_O l zTs D zcl zFK cy z0 sp (zTys cy) G "ToolMillLaw" mn 7 code d K 516 (za_aload 0 517) := zo_aload_n zd_900_516 rfl
theorem zd_900_517 : decode code 517 = .ok (.iload 4, 2) := by decide +kernel
theorem zlw_517 {l : Launch} {D : va_G} {cy : Nat → ClassId} {z0 : Nat} {sp : Nat → Nat} {G : State → Prop} {mn : String} {d : Nat} {K : zz_K} (hKS : zz_KS l D zcl zFK cy z0 sp (zTys cy) G zYN (fun y => Cond.code (zYN y) (zCN y) (zMQ y) (zRT y) :: zTs) d K) (hsp0 : sp 18446744073709551616 = 0) (hG : zz_GF z0 G) (hP : ∀ U, G U → zz_GD zS zS2 zLg z0 sp U) : zz_O l zTs D zcl zFK cy z0 sp (zTys cy) G "ToolMillLaw" mn 7 code d K 517 (za_iload 4 519) := zo_iload zd_900_517
theorem zd_900_519 : decode code 519 = .ok (.iconst 1, 1) := by decide +kernel
theorem zlw_519 {l : Launch} {D : va_G} {cy : Nat → ClassId} {z0 : Nat} {sp : Nat → Nat} {G : State → Prop} {mn : String} {d : Nat} {K : zz_K} (hKS : zz_KS l D zcl zFK cy z0 sp (zTys cy) G zYN (fun y => Cond.code (zYN y) (zCN y) (zMQ y) (zRT y) :: zTs) d K) (hsp0 : sp 18446744073709551616 = 0) (hG : zz_GF z0 G) (hP : ∀ U, G U → zz_GD zS zS2 zLg z0 sp U) : zz_O l zTs D zcl zFK cy z0 sp (zTys cy) G "ToolMillLaw" mn 7 code d K 519 (za_const (.int (Int32.ofNat 1)) 520) := zo_iconst zd_900_519 (by decide)
theorem zd_900_520 : decode code 520 = .ok (.iadd, 1) := by decide +kernel
theorem zlw_520 {l : Launch} {D : va_G} {cy : Nat → ClassId} {z0 : Nat} {sp : Nat → Nat} {G : State → Prop} {mn : String} {d : Nat} {K : zz_K} (hKS : zz_KS l D zcl zFK cy z0 sp (zTys cy) G zYN (fun y => Cond.code (zYN y) (zCN y) (zMQ y) (zRT y) :: zTs) d K) (hsp0 : sp 18446744073709551616 = 0) (hG : zz_GF z0 G) (hP : ∀ U, G U → zz_GD zS zS2 zLg z0 sp U) : zz_O l zTs D zcl zFK cy z0 sp (zTys cy) G "ToolMillLaw" mn 7 code d K 520 (za_iadd 521) := zo_iadd zd_900_520
theorem zd_900_522 : decode code 522 = .ok (.aload_n 0, 1) := by decide +kernel
theorem zlw_522 {l : Launch} {D : va_G} {cy : Nat → ClassId} {z0 : Nat} {sp : Nat → Nat} {G : State → Prop} {mn : String} {d : Nat} {K : zz_K} (hKS : zz_KS l D zcl zFK cy z0 sp (zTys cy) G zYN (fun y => Cond.code (zYN y) (zCN y) (zMQ y) (zRT y) :: zTs) d K) (hsp0 : sp 18446744073709551616 = 0) (hG : zz_GF z0 G) (hP : ∀ U, G U → zz_GD zS zS2 zLg z0 sp U) : zz_O l zTs D zcl zFK cy z0 sp (zTys cy) G "ToolMillLaw" mn 7 code d K 522 (za_aload 0 523) := zo_aload_n zd_900_522 rfl
theorem zd_900_523 : decode code 523 = .ok (.iload 4, 2) := by decide +kernel
theorem zlw_523 {l : Launch} {D : va_G} {cy : Nat → ClassId} {z0 : Nat} {sp : Nat → Nat} {G : State → Prop} {mn : String} {d : Nat} {K : zz_K} (hKS : zz_KS l D zcl zFK cy z0 sp (zTys cy) G zYN (fun y => Cond.code (zYN y) (zCN y) (zMQ y) (zRT y) :: zTs) d K) (hsp0 : sp 18446744073709551616 = 0) (hG : zz_GF z0 G) (hP : ∀ U, G U → zz_GD zS zS2 zLg z0 sp U) : zz_O l zTs D zcl zFK cy z0 sp (zTys cy) G "ToolMillLaw" mn 7 code d K 523 (za_iload 4 525) := zo_iload zd_900_523
theorem zd_900_525 : decode code 525 = .ok (.iconst 2, 1) := by decide +kernel
theorem zlw_525 {l : Launch} {D : va_G} {cy : Nat → ClassId} {z0 : Nat} {sp : Nat → Nat} {G : State → Prop} {mn : String} {d : Nat} {K : zz_K} (hKS : zz_KS l D zcl zFK cy z0 sp (zTys cy) G zYN (fun y => Cond.code (zYN y) (zCN y) (zMQ y) (zRT y) :: zTs) d K) (hsp0 : sp 18446744073709551616 = 0) (hG : zz_GF z0 G) (hP : ∀ U, G U → zz_GD zS zS2 zLg z0 sp U) : zz_O l zTs D zcl zFK cy z0 sp (zTys cy) G "ToolMillLaw" mn 7 code d K 525 (za_const (.int (Int32.ofNat 2)) 526) := zo_iconst zd_900_525 (by decide)
theorem zd_900_526 : decode code 526 = .ok (.iadd, 1) := by decide +kernel
theorem zlw_526 {l : Launch} {D : va_G} {cy : Nat → ClassId} {z0 : Nat} {sp : Nat → Nat} {G : State → Prop} {mn : String} {d : Nat} {K : zz_K} (hKS : zz_KS l D zcl zFK cy z0 sp (zTys cy) G zYN (fun y => Cond.code (zYN y) (zCN y) (zMQ y) (zRT y) :: zTs) d K) (hsp0 : sp 18446744073709551616 = 0) (hG : zz_GF z0 G) (hP : ∀ U, G U → zz_GD zS zS2 zLg z0 sp U) : zz_O l zTs D zcl zFK cy z0 sp (zTys cy) G "ToolMillLaw" mn 7 code d K 526 (za_iadd 527) := zo_iadd zd_900_526
theorem zd_900_528 : decode code 528 = .ok (.aload_n 0, 1) := by decide +kernel
theorem zlw_528 {l : Launch} {D : va_G} {cy : Nat → ClassId} {z0 : Nat} {sp : Nat → Nat} {G : State → Prop} {mn : String} {d : Nat} {K : zz_K} (hKS : zz_KS l D zcl zFK cy z0 sp (zTys cy) G zYN (fun y => Cond.code (zYN y) (zCN y) (zMQ y) (zRT y) :: zTs) d K) (hsp0 : sp 18446744073709551616 = 0) (hG : zz_GF z0 G) (hP : ∀ U, G U → zz_GD zS zS2 zLg z0 sp U) : zz_O l zTs D zcl zFK cy z0 sp (zTys cy) G "ToolMillLaw" mn 7 code d K 528 (za_aload 0 529) := zo_aload_n zd_900_528 rfl
theorem zd_900_529 : decode code 529 = .ok (.iload 4, 2) := by decide +kernel
theorem zlw_529 {l : Launch} {D : va_G} {cy : Nat → ClassId} {z0 : Nat} {sp : Nat → Nat} {G : State → Prop} {mn : String} {d : Nat} {K : zz_K} (hKS : zz_KS l D zcl zFK cy z0 sp (zTys cy) G zYN (fun y => Cond.code (zYN y) (zCN y) (zMQ y) (zRT y) :: zTs) d K) (hsp0 : sp 18446744073709551616 = 0) (hG : zz_GF z0 G) (hP : ∀ U, G U → zz_GD zS zS2 zLg z0 sp U) : zz_O l zTs D zcl zFK cy z0 sp (zTys cy) G "ToolMillLaw" mn 7 code d K 529 (za_iload 4 531) := zo_iload zd_900_529
theorem zd_900_531 : decode code 531 = .ok (.iconst 3, 1) := by decide +kernel
theorem zlw_531 {l : Launch} {D : va_G} {cy : Nat → ClassId} {z0 : Nat} {sp : Nat → Nat} {G : State → Prop} {mn : String} {d : Nat} {K : zz_K} (hKS : zz_KS l D zcl zFK cy z0 sp (zTys cy) G zYN (fun y => Cond.code (zYN y) (zCN y) (zMQ y) (zRT y) :: zTs) d K) (hsp0 : sp 18446744073709551616 = 0) (hG : zz_GF z0 G) (hP : ∀ U, G U → zz_GD zS zS2 zLg z0 sp U) : zz_O l zTs D zcl zFK cy z0 sp (zTys cy) G "ToolMillLaw" mn 7 code d K 531 (za_const (.int (Int32.ofNat 3)) 532) := zo_iconst zd_900_531 (by decide)
theorem zd_900_532 : decode code 532 = .ok (.iadd, 1) := by decide +kernel
theorem zlw_532 {l : Launch} {D : va_G} {cy : Nat → ClassId} {z0 : Nat} {sp : Nat → Nat} {G : State → Prop} {mn : String} {d : Nat} {K : zz_K} (hKS : zz_KS l D zcl zFK cy z0 sp (zTys cy) G zYN (fun y => Cond.code (zYN y) (zCN y) (zMQ y) (zRT y) :: zTs) d K) (hsp0 : sp 18446744073709551616 = 0) (hG : zz_GF z0 G) (hP : ∀ U, G U → zz_GD zS zS2 zLg z0 sp U) : zz_O l zTs D zcl zFK cy z0 sp (zTys cy) G "ToolMillLaw" mn 7 code d K 532 (za_iadd 533) := zo_iadd zd_900_532
theorem zd_900_534 : decode code 534 = .ok (.aload_n 3, 1) := by decide +kernel
theorem zlw_534 {l : Launch} {D : va_G} {cy : Nat → ClassId} {z0 : Nat} {sp : Nat → Nat} {G : State → Prop} {mn : String} {d : Nat} {K : zz_K} (hKS : zz_KS l D zcl zFK cy z0 sp (zTys cy) G zYN (fun y => Cond.code (zYN y) (zCN y) (zMQ y) (zRT y) :: zTs) d K) (hsp0 : sp 18446744073709551616 = 0) (hG : zz_GF z0 G) (hP : ∀ U, G U → zz_GD zS zS2 zLg z0 sp U) : zz_O l zTs D zcl zFK cy z0 sp (zTys cy) G "ToolMillLaw" mn 7 code d K 534 (za_aload 3 535) := zo_aload_n zd_900_534 rfl
theorem zd_900_538 : decode code 538 = .ok (.istore 5, 2) := by decide +kernel
theorem zlw_538 {l : Launch} {D : va_G} {cy : Nat → ClassId} {z0 : Nat} {sp : Nat → Nat} {G : State → Prop} {mn : String} {d : Nat} {K : zz_K} (hKS : zz_KS l D zcl zFK cy z0 sp (zTys cy) G zYN (fun y => Cond.code (zYN y) (zCN y) (zMQ y) (zRT y) :: zTs) d K) (hsp0 : sp 18446744073709551616 = 0) (hG : zz_GF z0 G) (hP : ∀ U, G U → zz_GD zS zS2 zLg z0 sp U) : zz_O l zTs D zcl zFK cy z0 sp (zTys cy) G "ToolMillLaw" mn 7 code d K 538 (za_istore 5 540) := zo_istore zd_900_538 (by decide)
theorem zd_900_540 : decode code 540 = .ok (.aload_n 2, 1) := by decide +kernel
theorem zlw_540 {l : Launch} {D : va_G} {cy : Nat → ClassId} {z0 : Nat} {sp : Nat → Nat} {G : State → Prop} {mn : String} {d : Nat} {K : zz_K} (hKS : zz_KS l D zcl zFK cy z0 sp (zTys cy) G zYN (fun y => Cond.code (zYN y) (zCN y) (zMQ y) (zRT y) :: zTs) d K) (hsp0 : sp 18446744073709551616 = 0) (hG : zz_GF z0 G) (hP : ∀ U, G U → zz_GD zS zS2 zLg z0 sp U) : zz_O l zTs D zcl zFK cy z0 sp (zTys cy) G "ToolMillLaw" mn 7 code d K 540 (za_aload 2 541) := zo_aload_n zd_900_540 rfl
theorem zd_900_541 : decode code 541 = .ok (.aload_n 0, 1) := by decide +kernel
theorem zlw_541 {l : Launch} {D : va_G} {cy : Nat → ClassId} {z0 : Nat} {sp : Nat → Nat} {G : State → Prop} {mn : String} {d : Nat} {K : zz_K} (hKS : zz_KS l D zcl zFK cy z0 sp (zTys cy) G zYN (fun y => Cond.code (zYN y) (zCN y) (zMQ y) (zRT y) :: zTs) d K) (hsp0 : sp 18446744073709551616 = 0) (hG : zz_GF z0 G) (hP : ∀ U, G U → zz_GD zS zS2 zLg z0 sp U) : zz_O l zTs D zcl zFK cy z0 sp (zTys cy) G "ToolMillLaw" mn 7 code d K 541 (za_aload 0 542) := zo_aload_n zd_900_541 rfl
theorem zd_900_542 : decode code 542 = .ok (.iload 4, 2) := by decide +kernel
theorem zlw_542 {l : Launch} {D : va_G} {cy : Nat → ClassId} {z0 : Nat} {sp : Nat → Nat} {G : State → Prop} {mn : String} {d : Nat} {K : zz_K} (hKS : zz_KS l D zcl zFK cy z0 sp (zTys cy) G zYN (fun y => Cond.code (zYN y) (zCN y) (zMQ y) (zRT y) :: zTs) d K) (hsp0 : sp 18446744073709551616 = 0) (hG : zz_GF z0 G) (hP : ∀ U, G U → zz_GD zS zS2 zLg z0 sp U) : zz_O l zTs D zcl zFK cy z0 sp (zTys cy) G "ToolMillLaw" mn 7 code d K 542 (za_iload 4 544) := zo_iload zd_900_542
theorem zd_900_544 : decode code 544 = .ok (.iconst 1, 1) := by decide +kernel
theorem zlw_544 {l : Launch} {D : va_G} {cy : Nat → ClassId} {z0 : Nat} {sp : Nat → Nat} {G : State → Prop} {mn : String} {d : Nat} {K : zz_K} (hKS : zz_KS l D zcl zFK cy z0 sp (zTys cy) G zYN (fun y => Cond.code (zYN y) (zCN y) (zMQ y) (zRT y) :: zTs) d K) (hsp0 : sp 18446744073709551616 = 0) (hG : zz_GF z0 G) (hP : ∀ U, G U → zz_GD zS zS2 zLg z0 sp U) : zz_O l zTs D zcl zFK cy z0 sp (zTys cy) G "ToolMillLaw" mn 7 code d K 544 (za_const (.int (Int32.ofNat 1)) 545) := zo_iconst zd_900_544 (by decide)
theorem zd_900_545 : decode code 545 = .ok (.iadd, 1) := by decide +kernel
theorem zlw_545 {l : Launch} {D : va_G} {cy : Nat → ClassId} {z0 : Nat} {sp : Nat → Nat} {G : State → Prop} {mn : String} {d : Nat} {K : zz_K} (hKS : zz_KS l D zcl zFK cy z0 sp (zTys cy) G zYN (fun y => Cond.code (zYN y) (zCN y) (zMQ y) (zRT y) :: zTs) d K) (hsp0 : sp 18446744073709551616 = 0) (hG : zz_GF z0 G) (hP : ∀ U, G U → zz_GD zS zS2 zLg z0 sp U) : zz_O l zTs D zcl zFK cy z0 sp (zTys cy) G "ToolMillLaw" mn 7 code d K 545 (za_iadd 546) := zo_iadd zd_900_545
theorem zd_900_547 : decode code 547 = .ok (.aload_n 0, 1) := by decide +kernel
theorem zlw_547 {l : Launch} {D : va_G} {cy : Nat → ClassId} {z0 : Nat} {sp : Nat → Nat} {G : State → Prop} {mn : String} {d : Nat} {K : zz_K} (hKS : zz_KS l D zcl zFK cy z0 sp (zTys cy) G zYN (fun y => Cond.code (zYN y) (zCN y) (zMQ y) (zRT y) :: zTs) d K) (hsp0 : sp 18446744073709551616 = 0) (hG : zz_GF z0 G) (hP : ∀ U, G U → zz_GD zS zS2 zLg z0 sp U) : zz_O l zTs D zcl zFK cy z0 sp (zTys cy) G "ToolMillLaw" mn 7 code d K 547 (za_aload 0 548) := zo_aload_n zd_900_547 rfl
theorem zd_900_548 : decode code 548 = .ok (.iload 4, 2) := by decide +kernel
theorem zlw_548 {l : Launch} {D : va_G} {cy : Nat → ClassId} {z0 : Nat} {sp : Nat → Nat} {G : State → Prop} {mn : String} {d : Nat} {K : zz_K} (hKS : zz_KS l D zcl zFK cy z0 sp (zTys cy) G zYN (fun y => Cond.code (zYN y) (zCN y) (zMQ y) (zRT y) :: zTs) d K) (hsp0 : sp 18446744073709551616 = 0) (hG : zz_GF z0 G) (hP : ∀ U, G U → zz_GD zS zS2 zLg z0 sp U) : zz_O l zTs D zcl zFK cy z0 sp (zTys cy) G "ToolMillLaw" mn 7 code d K 548 (za_iload 4 550) := zo_iload zd_900_548
theorem zd_900_550 : decode code 550 = .ok (.iconst 2, 1) := by decide +kernel
theorem zlw_550 {l : Launch} {D : va_G} {cy : Nat → ClassId} {z0 : Nat} {sp : Nat → Nat} {G : State → Prop} {mn : String} {d : Nat} {K : zz_K} (hKS : zz_KS l D zcl zFK cy z0 sp (zTys cy) G zYN (fun y => Cond.code (zYN y) (zCN y) (zMQ y) (zRT y) :: zTs) d K) (hsp0 : sp 18446744073709551616 = 0) (hG : zz_GF z0 G) (hP : ∀ U, G U → zz_GD zS zS2 zLg z0 sp U) : zz_O l zTs D zcl zFK cy z0 sp (zTys cy) G "ToolMillLaw" mn 7 code d K 550 (za_const (.int (Int32.ofNat 2)) 551) := zo_iconst zd_900_550 (by decide)
theorem zd_900_551 : decode code 551 = .ok (.iadd, 1) := by decide +kernel
theorem zlw_551 {l : Launch} {D : va_G} {cy : Nat → ClassId} {z0 : Nat} {sp : Nat → Nat} {G : State → Prop} {mn : String} {d : Nat} {K : zz_K} (hKS : zz_KS l D zcl zFK cy z0 sp (zTys cy) G zYN (fun y => Cond.code (zYN y) (zCN y) (zMQ y) (zRT y) :: zTs) d K) (hsp0 : sp 18446744073709551616 = 0) (hG : zz_GF z0 G) (hP : ∀ U, G U → zz_GD zS zS2 zLg z0 sp U) : zz_O l zTs D zcl zFK cy z0 sp (zTys cy) G "ToolMillLaw" mn 7 code d K 551 (za_iadd 552) := zo_iadd zd_900_551
theorem zd_900_553 : decode code 553 = .ok (.aload_n 0, 1) := by decide +kernel
theorem zlw_553 {l : Launch} {D : va_G} {cy : Nat → ClassId} {z0 : Nat} {sp : Nat → Nat} {G : State → Prop} {mn : String} {d : Nat} {K : zz_K} (hKS : zz_KS l D zcl zFK cy z0 sp (zTys cy) G zYN (fun y => Cond.code (zYN y) (zCN y) (zMQ y) (zRT y) :: zTs) d K) (hsp0 : sp 18446744073709551616 = 0) (hG : zz_GF z0 G) (hP : ∀ U, G U → zz_GD zS zS2 zLg z0 sp U) : zz_O l zTs D zcl zFK cy z0 sp (zTys cy) G "ToolMillLaw" mn 7 code d K 553 (za_aload 0 554) := zo_aload_n zd_900_553 rfl
theorem zd_900_554 : decode code 554 = .ok (.iload 4, 2) := by decide +kernel
theorem zlw_554 {l : Launch} {D : va_G} {cy : Nat → ClassId} {z0 : Nat} {sp : Nat → Nat} {G : State → Prop} {mn : String} {d : Nat} {K : zz_K} (hKS : zz_KS l D zcl zFK cy z0 sp (zTys cy) G zYN (fun y => Cond.code (zYN y) (zCN y) (zMQ y) (zRT y) :: zTs) d K) (hsp0 : sp 18446744073709551616 = 0) (hG : zz_GF z0 G) (hP : ∀ U, G U → zz_GD zS zS2 zLg z0 sp U) : zz_O l zTs D zcl zFK cy z0 sp (zTys cy) G "ToolMillLaw" mn 7 code d K 554 (za_iload 4 556) := zo_iload zd_900_554
theorem zd_900_556 : decode code 556 = .ok (.iconst 3, 1) := by decide +kernel
theorem zlw_556 {l : Launch} {D : va_G} {cy : Nat → ClassId} {z0 : Nat} {sp : Nat → Nat} {G : State → Prop} {mn : String} {d : Nat} {K : zz_K} (hKS : zz_KS l D zcl zFK cy z0 sp (zTys cy) G zYN (fun y => Cond.code (zYN y) (zCN y) (zMQ y) (zRT y) :: zTs) d K) (hsp0 : sp 18446744073709551616 = 0) (hG : zz_GF z0 G) (hP : ∀ U, G U → zz_GD zS zS2 zLg z0 sp U) : zz_O l zTs D zcl zFK cy z0 sp (zTys cy) G "ToolMillLaw" mn 7 code d K 556 (za_const (.int (Int32.ofNat 3)) 557) := zo_iconst zd_900_556 (by decide)
theorem zd_900_557 : decode code 557 = .ok (.iadd, 1) := by decide +kernel
theorem zlw_557 {l : Launch} {D : va_G} {cy : Nat → ClassId} {z0 : Nat} {sp : Nat → Nat} {G : State → Prop} {mn : String} {d : Nat} {K : zz_K} (hKS : zz_KS l D zcl zFK cy z0 sp (zTys cy) G zYN (fun y => Cond.code (zYN y) (zCN y) (zMQ y) (zRT y) :: zTs) d K) (hsp0 : sp 18446744073709551616 = 0) (hG : zz_GF z0 G) (hP : ∀ U, G U → zz_GD zS zS2 zLg z0 sp U) : zz_O l zTs D zcl zFK cy z0 sp (zTys cy) G "ToolMillLaw" mn 7 code d K 557 (za_iadd 558) := zo_iadd zd_900_557
theorem zd_900_559 : decode code 559 = .ok (.invokevirtual 140, 3) := by decide +kernel
theorem zlw_559 {l : Launch} {D : va_G} {cy : Nat → ClassId} {z0 : Nat} {sp : Nat → Nat} {G : State → Prop} {mn : String} {d : Nat} {K : zz_K} (hKS : zz_KS l D zcl zFK cy z0 sp (zTys cy) G zYN (fun y => Cond.code (zYN y) (zCN y) (zMQ y) (zRT y) :: zTs) d K) (hsp0 : sp 18446744073709551616 = 0) (hG : zz_GF z0 G) (hP : ∀ U, G U → zz_GD zS zS2 zLg z0 sp U) : zz_O l zTs D zcl zFK cy z0 sp (zTys cy) G "ToolMillLaw" mn 7 code d K 559 (za_callV 0 36 3 562) := zcV_36 hKS hG zd_900_559 zw_3060
theorem zd_900_562 : decode code 562 = .ok (.istore 6, 2) := by decide +kernel
theorem zlw_562 {l : Launch} {D : va_G} {cy : Nat → ClassId} {z0 : Nat} {sp : Nat → Nat} {G : State → Prop} {mn : String} {d : Nat} {K : zz_K} (hKS : zz_KS l D zcl zFK cy z0 sp (zTys cy) G zYN (fun y => Cond.code (zYN y) (zCN y) (zMQ y) (zRT y) :: zTs) d K) (hsp0 : sp 18446744073709551616 = 0) (hG : zz_GF z0 G) (hP : ∀ U, G U → zz_GD zS zS2 zLg z0 sp U) : zz_O l zTs D zcl zFK cy z0 sp (zTys cy) G "ToolMillLaw" mn 7 code d K 562 (za_istore 6 564) := zo_istore zd_900_562 (by decide)
theorem zd_900_564 : decode code 564 = .ok (.goto 335, 3) := by decide +kernel
theorem zlw_564 {l : Launch} {D : va_G} {cy : Nat → ClassId} {z0 : Nat} {sp : Nat → Nat} {G : State → Prop} {mn : String} {d : Nat} {K : zz_K} (hKS : zz_KS l D zcl zFK cy z0 sp (zTys cy) G zYN (fun y => Cond.code (zYN y) (zCN y) (zMQ y) (zRT y) :: zTs) d K) (hsp0 : sp 18446744073709551616 = 0) (hG : zz_GF z0 G) (hP : ∀ U, G U → zz_GD zS zS2 zLg z0 sp U) : zz_O l zTs D zcl zFK cy z0 sp (zTys cy) G "ToolMillLaw" mn 7 code d K 564 (za_goto 899) := zo_goto zd_900_564 (by decide)
theorem zd_900_567 : decode code 567 = .ok (.aload_n 1, 1) := by decide +kernel
theorem zlw_567 {l : Launch} {D : va_G} {cy : Nat → ClassId} {z0 : Nat} {sp : Nat → Nat} {G : State → Prop} {mn : String} {d : Nat} {K : zz_K} (hKS : zz_KS l D zcl zFK cy z0 sp (zTys cy) G zYN (fun y => Cond.code (zYN y) (zCN y) (zMQ y) (zRT y) :: zTs) d K) (hsp0 : sp 18446744073709551616 = 0) (hG : zz_GF z0 G) (hP : ∀ U, G U → zz_GD zS zS2 zLg z0 sp U) : zz_O l zTs D zcl zFK cy z0 sp (zTys cy) G "ToolMillLaw" mn 7 code d K 567 (za_aload 1 568) := zo_aload_n zd_900_567 rfl
theorem zd_900_568 : decode code 568 = .ok (.aload_n 0, 1) := by decide +kernel
theorem zlw_568 {l : Launch} {D : va_G} {cy : Nat → ClassId} {z0 : Nat} {sp : Nat → Nat} {G : State → Prop} {mn : String} {d : Nat} {K : zz_K} (hKS : zz_KS l D zcl zFK cy z0 sp (zTys cy) G zYN (fun y => Cond.code (zYN y) (zCN y) (zMQ y) (zRT y) :: zTs) d K) (hsp0 : sp 18446744073709551616 = 0) (hG : zz_GF z0 G) (hP : ∀ U, G U → zz_GD zS zS2 zLg z0 sp U) : zz_O l zTs D zcl zFK cy z0 sp (zTys cy) G "ToolMillLaw" mn 7 code d K 568 (za_aload 0 569) := zo_aload_n zd_900_568 rfl
theorem zd_900_569 : decode code 569 = .ok (.iload 4, 2) := by decide +kernel
theorem zlw_569 {l : Launch} {D : va_G} {cy : Nat → ClassId} {z0 : Nat} {sp : Nat → Nat} {G : State → Prop} {mn : String} {d : Nat} {K : zz_K} (hKS : zz_KS l D zcl zFK cy z0 sp (zTys cy) G zYN (fun y => Cond.code (zYN y) (zCN y) (zMQ y) (zRT y) :: zTs) d K) (hsp0 : sp 18446744073709551616 = 0) (hG : zz_GF z0 G) (hP : ∀ U, G U → zz_GD zS zS2 zLg z0 sp U) : zz_O l zTs D zcl zFK cy z0 sp (zTys cy) G "ToolMillLaw" mn 7 code d K 569 (za_iload 4 571) := zo_iload zd_900_569
theorem zd_900_571 : decode code 571 = .ok (.iconst 1, 1) := by decide +kernel
theorem zlw_571 {l : Launch} {D : va_G} {cy : Nat → ClassId} {z0 : Nat} {sp : Nat → Nat} {G : State → Prop} {mn : String} {d : Nat} {K : zz_K} (hKS : zz_KS l D zcl zFK cy z0 sp (zTys cy) G zYN (fun y => Cond.code (zYN y) (zCN y) (zMQ y) (zRT y) :: zTs) d K) (hsp0 : sp 18446744073709551616 = 0) (hG : zz_GF z0 G) (hP : ∀ U, G U → zz_GD zS zS2 zLg z0 sp U) : zz_O l zTs D zcl zFK cy z0 sp (zTys cy) G "ToolMillLaw" mn 7 code d K 571 (za_const (.int (Int32.ofNat 1)) 572) := zo_iconst zd_900_571 (by decide)
theorem zd_900_572 : decode code 572 = .ok (.iadd, 1) := by decide +kernel
theorem zlw_572 {l : Launch} {D : va_G} {cy : Nat → ClassId} {z0 : Nat} {sp : Nat → Nat} {G : State → Prop} {mn : String} {d : Nat} {K : zz_K} (hKS : zz_KS l D zcl zFK cy z0 sp (zTys cy) G zYN (fun y => Cond.code (zYN y) (zCN y) (zMQ y) (zRT y) :: zTs) d K) (hsp0 : sp 18446744073709551616 = 0) (hG : zz_GF z0 G) (hP : ∀ U, G U → zz_GD zS zS2 zLg z0 sp U) : zz_O l zTs D zcl zFK cy z0 sp (zTys cy) G "ToolMillLaw" mn 7 code d K 572 (za_iadd 573) := zo_iadd zd_900_572
theorem zd_900_574 : decode code 574 = .ok (.aload_n 3, 1) := by decide +kernel
theorem zlw_574 {l : Launch} {D : va_G} {cy : Nat → ClassId} {z0 : Nat} {sp : Nat → Nat} {G : State → Prop} {mn : String} {d : Nat} {K : zz_K} (hKS : zz_KS l D zcl zFK cy z0 sp (zTys cy) G zYN (fun y => Cond.code (zYN y) (zCN y) (zMQ y) (zRT y) :: zTs) d K) (hsp0 : sp 18446744073709551616 = 0) (hG : zz_GF z0 G) (hP : ∀ U, G U → zz_GD zS zS2 zLg z0 sp U) : zz_O l zTs D zcl zFK cy z0 sp (zTys cy) G "ToolMillLaw" mn 7 code d K 574 (za_aload 3 575) := zo_aload_n zd_900_574 rfl
theorem zd_900_578 : decode code 578 = .ok (.istore 5, 2) := by decide +kernel
theorem zlw_578 {l : Launch} {D : va_G} {cy : Nat → ClassId} {z0 : Nat} {sp : Nat → Nat} {G : State → Prop} {mn : String} {d : Nat} {K : zz_K} (hKS : zz_KS l D zcl zFK cy z0 sp (zTys cy) G zYN (fun y => Cond.code (zYN y) (zCN y) (zMQ y) (zRT y) :: zTs) d K) (hsp0 : sp 18446744073709551616 = 0) (hG : zz_GF z0 G) (hP : ∀ U, G U → zz_GD zS zS2 zLg z0 sp U) : zz_O l zTs D zcl zFK cy z0 sp (zTys cy) G "ToolMillLaw" mn 7 code d K 578 (za_istore 5 580) := zo_istore zd_900_578 (by decide)
theorem zd_900_580 : decode code 580 = .ok (.aload_n 2, 1) := by decide +kernel
theorem zlw_580 {l : Launch} {D : va_G} {cy : Nat → ClassId} {z0 : Nat} {sp : Nat → Nat} {G : State → Prop} {mn : String} {d : Nat} {K : zz_K} (hKS : zz_KS l D zcl zFK cy z0 sp (zTys cy) G zYN (fun y => Cond.code (zYN y) (zCN y) (zMQ y) (zRT y) :: zTs) d K) (hsp0 : sp 18446744073709551616 = 0) (hG : zz_GF z0 G) (hP : ∀ U, G U → zz_GD zS zS2 zLg z0 sp U) : zz_O l zTs D zcl zFK cy z0 sp (zTys cy) G "ToolMillLaw" mn 7 code d K 580 (za_aload 2 581) := zo_aload_n zd_900_580 rfl
theorem zd_900_581 : decode code 581 = .ok (.aload_n 0, 1) := by decide +kernel
theorem zlw_581 {l : Launch} {D : va_G} {cy : Nat → ClassId} {z0 : Nat} {sp : Nat → Nat} {G : State → Prop} {mn : String} {d : Nat} {K : zz_K} (hKS : zz_KS l D zcl zFK cy z0 sp (zTys cy) G zYN (fun y => Cond.code (zYN y) (zCN y) (zMQ y) (zRT y) :: zTs) d K) (hsp0 : sp 18446744073709551616 = 0) (hG : zz_GF z0 G) (hP : ∀ U, G U → zz_GD zS zS2 zLg z0 sp U) : zz_O l zTs D zcl zFK cy z0 sp (zTys cy) G "ToolMillLaw" mn 7 code d K 581 (za_aload 0 582) := zo_aload_n zd_900_581 rfl
theorem zd_900_582 : decode code 582 = .ok (.iload 4, 2) := by decide +kernel
theorem zlw_582 {l : Launch} {D : va_G} {cy : Nat → ClassId} {z0 : Nat} {sp : Nat → Nat} {G : State → Prop} {mn : String} {d : Nat} {K : zz_K} (hKS : zz_KS l D zcl zFK cy z0 sp (zTys cy) G zYN (fun y => Cond.code (zYN y) (zCN y) (zMQ y) (zRT y) :: zTs) d K) (hsp0 : sp 18446744073709551616 = 0) (hG : zz_GF z0 G) (hP : ∀ U, G U → zz_GD zS zS2 zLg z0 sp U) : zz_O l zTs D zcl zFK cy z0 sp (zTys cy) G "ToolMillLaw" mn 7 code d K 582 (za_iload 4 584) := zo_iload zd_900_582
theorem zd_900_584 : decode code 584 = .ok (.iconst 1, 1) := by decide +kernel
theorem zlw_584 {l : Launch} {D : va_G} {cy : Nat → ClassId} {z0 : Nat} {sp : Nat → Nat} {G : State → Prop} {mn : String} {d : Nat} {K : zz_K} (hKS : zz_KS l D zcl zFK cy z0 sp (zTys cy) G zYN (fun y => Cond.code (zYN y) (zCN y) (zMQ y) (zRT y) :: zTs) d K) (hsp0 : sp 18446744073709551616 = 0) (hG : zz_GF z0 G) (hP : ∀ U, G U → zz_GD zS zS2 zLg z0 sp U) : zz_O l zTs D zcl zFK cy z0 sp (zTys cy) G "ToolMillLaw" mn 7 code d K 584 (za_const (.int (Int32.ofNat 1)) 585) := zo_iconst zd_900_584 (by decide)
theorem zd_900_585 : decode code 585 = .ok (.iadd, 1) := by decide +kernel
theorem zlw_585 {l : Launch} {D : va_G} {cy : Nat → ClassId} {z0 : Nat} {sp : Nat → Nat} {G : State → Prop} {mn : String} {d : Nat} {K : zz_K} (hKS : zz_KS l D zcl zFK cy z0 sp (zTys cy) G zYN (fun y => Cond.code (zYN y) (zCN y) (zMQ y) (zRT y) :: zTs) d K) (hsp0 : sp 18446744073709551616 = 0) (hG : zz_GF z0 G) (hP : ∀ U, G U → zz_GD zS zS2 zLg z0 sp U) : zz_O l zTs D zcl zFK cy z0 sp (zTys cy) G "ToolMillLaw" mn 7 code d K 585 (za_iadd 586) := zo_iadd zd_900_585
theorem zd_900_587 : decode code 587 = .ok (.invokevirtual 143, 3) := by decide +kernel
theorem zlw_587 {l : Launch} {D : va_G} {cy : Nat → ClassId} {z0 : Nat} {sp : Nat → Nat} {G : State → Prop} {mn : String} {d : Nat} {K : zz_K} (hKS : zz_KS l D zcl zFK cy z0 sp (zTys cy) G zYN (fun y => Cond.code (zYN y) (zCN y) (zMQ y) (zRT y) :: zTs) d K) (hsp0 : sp 18446744073709551616 = 0) (hG : zz_GF z0 G) (hP : ∀ U, G U → zz_GD zS zS2 zLg z0 sp U) : zz_O l zTs D zcl zFK cy z0 sp (zTys cy) G "ToolMillLaw" mn 7 code d K 587 (za_callV 0 37 1 590) := zcV_37 hKS hG zd_900_587 zw_3061
theorem zd_900_590 : decode code 590 = .ok (.istore 6, 2) := by decide +kernel
theorem zlw_590 {l : Launch} {D : va_G} {cy : Nat → ClassId} {z0 : Nat} {sp : Nat → Nat} {G : State → Prop} {mn : String} {d : Nat} {K : zz_K} (hKS : zz_KS l D zcl zFK cy z0 sp (zTys cy) G zYN (fun y => Cond.code (zYN y) (zCN y) (zMQ y) (zRT y) :: zTs) d K) (hsp0 : sp 18446744073709551616 = 0) (hG : zz_GF z0 G) (hP : ∀ U, G U → zz_GD zS zS2 zLg z0 sp U) : zz_O l zTs D zcl zFK cy z0 sp (zTys cy) G "ToolMillLaw" mn 7 code d K 590 (za_istore 6 592) := zo_istore zd_900_590 (by decide)
theorem zd_900_592 : decode code 592 = .ok (.goto 307, 3) := by decide +kernel
theorem zlw_592 {l : Launch} {D : va_G} {cy : Nat → ClassId} {z0 : Nat} {sp : Nat → Nat} {G : State → Prop} {mn : String} {d : Nat} {K : zz_K} (hKS : zz_KS l D zcl zFK cy z0 sp (zTys cy) G zYN (fun y => Cond.code (zYN y) (zCN y) (zMQ y) (zRT y) :: zTs) d K) (hsp0 : sp 18446744073709551616 = 0) (hG : zz_GF z0 G) (hP : ∀ U, G U → zz_GD zS zS2 zLg z0 sp U) : zz_O l zTs D zcl zFK cy z0 sp (zTys cy) G "ToolMillLaw" mn 7 code d K 592 (za_goto 899) := zo_goto zd_900_592 (by decide)
theorem zd_900_595 : decode code 595 = .ok (.aload_n 1, 1) := by decide +kernel
theorem zlw_595 {l : Launch} {D : va_G} {cy : Nat → ClassId} {z0 : Nat} {sp : Nat → Nat} {G : State → Prop} {mn : String} {d : Nat} {K : zz_K} (hKS : zz_KS l D zcl zFK cy z0 sp (zTys cy) G zYN (fun y => Cond.code (zYN y) (zCN y) (zMQ y) (zRT y) :: zTs) d K) (hsp0 : sp 18446744073709551616 = 0) (hG : zz_GF z0 G) (hP : ∀ U, G U → zz_GD zS zS2 zLg z0 sp U) : zz_O l zTs D zcl zFK cy z0 sp (zTys cy) G "ToolMillLaw" mn 7 code d K 595 (za_aload 1 596) := zo_aload_n zd_900_595 rfl
theorem zd_900_596 : decode code 596 = .ok (.aload_n 0, 1) := by decide +kernel
theorem zlw_596 {l : Launch} {D : va_G} {cy : Nat → ClassId} {z0 : Nat} {sp : Nat → Nat} {G : State → Prop} {mn : String} {d : Nat} {K : zz_K} (hKS : zz_KS l D zcl zFK cy z0 sp (zTys cy) G zYN (fun y => Cond.code (zYN y) (zCN y) (zMQ y) (zRT y) :: zTs) d K) (hsp0 : sp 18446744073709551616 = 0) (hG : zz_GF z0 G) (hP : ∀ U, G U → zz_GD zS zS2 zLg z0 sp U) : zz_O l zTs D zcl zFK cy z0 sp (zTys cy) G "ToolMillLaw" mn 7 code d K 596 (za_aload 0 597) := zo_aload_n zd_900_596 rfl
theorem zd_900_597 : decode code 597 = .ok (.iload 4, 2) := by decide +kernel
theorem zlw_597 {l : Launch} {D : va_G} {cy : Nat → ClassId} {z0 : Nat} {sp : Nat → Nat} {G : State → Prop} {mn : String} {d : Nat} {K : zz_K} (hKS : zz_KS l D zcl zFK cy z0 sp (zTys cy) G zYN (fun y => Cond.code (zYN y) (zCN y) (zMQ y) (zRT y) :: zTs) d K) (hsp0 : sp 18446744073709551616 = 0) (hG : zz_GF z0 G) (hP : ∀ U, G U → zz_GD zS zS2 zLg z0 sp U) : zz_O l zTs D zcl zFK cy z0 sp (zTys cy) G "ToolMillLaw" mn 7 code d K 597 (za_iload 4 599) := zo_iload zd_900_597
theorem zd_900_599 : decode code 599 = .ok (.iconst 1, 1) := by decide +kernel
theorem zlw_599 {l : Launch} {D : va_G} {cy : Nat → ClassId} {z0 : Nat} {sp : Nat → Nat} {G : State → Prop} {mn : String} {d : Nat} {K : zz_K} (hKS : zz_KS l D zcl zFK cy z0 sp (zTys cy) G zYN (fun y => Cond.code (zYN y) (zCN y) (zMQ y) (zRT y) :: zTs) d K) (hsp0 : sp 18446744073709551616 = 0) (hG : zz_GF z0 G) (hP : ∀ U, G U → zz_GD zS zS2 zLg z0 sp U) : zz_O l zTs D zcl zFK cy z0 sp (zTys cy) G "ToolMillLaw" mn 7 code d K 599 (za_const (.int (Int32.ofNat 1)) 600) := zo_iconst zd_900_599 (by decide)
theorem zd_900_600 : decode code 600 = .ok (.iadd, 1) := by decide +kernel
theorem zlw_600 {l : Launch} {D : va_G} {cy : Nat → ClassId} {z0 : Nat} {sp : Nat → Nat} {G : State → Prop} {mn : String} {d : Nat} {K : zz_K} (hKS : zz_KS l D zcl zFK cy z0 sp (zTys cy) G zYN (fun y => Cond.code (zYN y) (zCN y) (zMQ y) (zRT y) :: zTs) d K) (hsp0 : sp 18446744073709551616 = 0) (hG : zz_GF z0 G) (hP : ∀ U, G U → zz_GD zS zS2 zLg z0 sp U) : zz_O l zTs D zcl zFK cy z0 sp (zTys cy) G "ToolMillLaw" mn 7 code d K 600 (za_iadd 601) := zo_iadd zd_900_600
theorem zd_900_602 : decode code 602 = .ok (.aload_n 0, 1) := by decide +kernel
theorem zlw_602 {l : Launch} {D : va_G} {cy : Nat → ClassId} {z0 : Nat} {sp : Nat → Nat} {G : State → Prop} {mn : String} {d : Nat} {K : zz_K} (hKS : zz_KS l D zcl zFK cy z0 sp (zTys cy) G zYN (fun y => Cond.code (zYN y) (zCN y) (zMQ y) (zRT y) :: zTs) d K) (hsp0 : sp 18446744073709551616 = 0) (hG : zz_GF z0 G) (hP : ∀ U, G U → zz_GD zS zS2 zLg z0 sp U) : zz_O l zTs D zcl zFK cy z0 sp (zTys cy) G "ToolMillLaw" mn 7 code d K 602 (za_aload 0 603) := zo_aload_n zd_900_602 rfl
theorem zd_900_603 : decode code 603 = .ok (.iload 4, 2) := by decide +kernel
theorem zlw_603 {l : Launch} {D : va_G} {cy : Nat → ClassId} {z0 : Nat} {sp : Nat → Nat} {G : State → Prop} {mn : String} {d : Nat} {K : zz_K} (hKS : zz_KS l D zcl zFK cy z0 sp (zTys cy) G zYN (fun y => Cond.code (zYN y) (zCN y) (zMQ y) (zRT y) :: zTs) d K) (hsp0 : sp 18446744073709551616 = 0) (hG : zz_GF z0 G) (hP : ∀ U, G U → zz_GD zS zS2 zLg z0 sp U) : zz_O l zTs D zcl zFK cy z0 sp (zTys cy) G "ToolMillLaw" mn 7 code d K 603 (za_iload 4 605) := zo_iload zd_900_603
theorem zd_900_605 : decode code 605 = .ok (.iconst 2, 1) := by decide +kernel
theorem zlw_605 {l : Launch} {D : va_G} {cy : Nat → ClassId} {z0 : Nat} {sp : Nat → Nat} {G : State → Prop} {mn : String} {d : Nat} {K : zz_K} (hKS : zz_KS l D zcl zFK cy z0 sp (zTys cy) G zYN (fun y => Cond.code (zYN y) (zCN y) (zMQ y) (zRT y) :: zTs) d K) (hsp0 : sp 18446744073709551616 = 0) (hG : zz_GF z0 G) (hP : ∀ U, G U → zz_GD zS zS2 zLg z0 sp U) : zz_O l zTs D zcl zFK cy z0 sp (zTys cy) G "ToolMillLaw" mn 7 code d K 605 (za_const (.int (Int32.ofNat 2)) 606) := zo_iconst zd_900_605 (by decide)
theorem zd_900_606 : decode code 606 = .ok (.iadd, 1) := by decide +kernel
theorem zlw_606 {l : Launch} {D : va_G} {cy : Nat → ClassId} {z0 : Nat} {sp : Nat → Nat} {G : State → Prop} {mn : String} {d : Nat} {K : zz_K} (hKS : zz_KS l D zcl zFK cy z0 sp (zTys cy) G zYN (fun y => Cond.code (zYN y) (zCN y) (zMQ y) (zRT y) :: zTs) d K) (hsp0 : sp 18446744073709551616 = 0) (hG : zz_GF z0 G) (hP : ∀ U, G U → zz_GD zS zS2 zLg z0 sp U) : zz_O l zTs D zcl zFK cy z0 sp (zTys cy) G "ToolMillLaw" mn 7 code d K 606 (za_iadd 607) := zo_iadd zd_900_606
theorem zd_900_608 : decode code 608 = .ok (.aload_n 3, 1) := by decide +kernel
theorem zlw_608 {l : Launch} {D : va_G} {cy : Nat → ClassId} {z0 : Nat} {sp : Nat → Nat} {G : State → Prop} {mn : String} {d : Nat} {K : zz_K} (hKS : zz_KS l D zcl zFK cy z0 sp (zTys cy) G zYN (fun y => Cond.code (zYN y) (zCN y) (zMQ y) (zRT y) :: zTs) d K) (hsp0 : sp 18446744073709551616 = 0) (hG : zz_GF z0 G) (hP : ∀ U, G U → zz_GD zS zS2 zLg z0 sp U) : zz_O l zTs D zcl zFK cy z0 sp (zTys cy) G "ToolMillLaw" mn 7 code d K 608 (za_aload 3 609) := zo_aload_n zd_900_608 rfl
theorem zd_900_612 : decode code 612 = .ok (.istore 5, 2) := by decide +kernel
theorem zlw_612 {l : Launch} {D : va_G} {cy : Nat → ClassId} {z0 : Nat} {sp : Nat → Nat} {G : State → Prop} {mn : String} {d : Nat} {K : zz_K} (hKS : zz_KS l D zcl zFK cy z0 sp (zTys cy) G zYN (fun y => Cond.code (zYN y) (zCN y) (zMQ y) (zRT y) :: zTs) d K) (hsp0 : sp 18446744073709551616 = 0) (hG : zz_GF z0 G) (hP : ∀ U, G U → zz_GD zS zS2 zLg z0 sp U) : zz_O l zTs D zcl zFK cy z0 sp (zTys cy) G "ToolMillLaw" mn 7 code d K 612 (za_istore 5 614) := zo_istore zd_900_612 (by decide)
theorem zd_900_614 : decode code 614 = .ok (.aload_n 2, 1) := by decide +kernel
theorem zlw_614 {l : Launch} {D : va_G} {cy : Nat → ClassId} {z0 : Nat} {sp : Nat → Nat} {G : State → Prop} {mn : String} {d : Nat} {K : zz_K} (hKS : zz_KS l D zcl zFK cy z0 sp (zTys cy) G zYN (fun y => Cond.code (zYN y) (zCN y) (zMQ y) (zRT y) :: zTs) d K) (hsp0 : sp 18446744073709551616 = 0) (hG : zz_GF z0 G) (hP : ∀ U, G U → zz_GD zS zS2 zLg z0 sp U) : zz_O l zTs D zcl zFK cy z0 sp (zTys cy) G "ToolMillLaw" mn 7 code d K 614 (za_aload 2 615) := zo_aload_n zd_900_614 rfl
theorem zd_900_615 : decode code 615 = .ok (.aload_n 0, 1) := by decide +kernel
theorem zlw_615 {l : Launch} {D : va_G} {cy : Nat → ClassId} {z0 : Nat} {sp : Nat → Nat} {G : State → Prop} {mn : String} {d : Nat} {K : zz_K} (hKS : zz_KS l D zcl zFK cy z0 sp (zTys cy) G zYN (fun y => Cond.code (zYN y) (zCN y) (zMQ y) (zRT y) :: zTs) d K) (hsp0 : sp 18446744073709551616 = 0) (hG : zz_GF z0 G) (hP : ∀ U, G U → zz_GD zS zS2 zLg z0 sp U) : zz_O l zTs D zcl zFK cy z0 sp (zTys cy) G "ToolMillLaw" mn 7 code d K 615 (za_aload 0 616) := zo_aload_n zd_900_615 rfl
theorem zd_900_616 : decode code 616 = .ok (.iload 4, 2) := by decide +kernel
theorem zlw_616 {l : Launch} {D : va_G} {cy : Nat → ClassId} {z0 : Nat} {sp : Nat → Nat} {G : State → Prop} {mn : String} {d : Nat} {K : zz_K} (hKS : zz_KS l D zcl zFK cy z0 sp (zTys cy) G zYN (fun y => Cond.code (zYN y) (zCN y) (zMQ y) (zRT y) :: zTs) d K) (hsp0 : sp 18446744073709551616 = 0) (hG : zz_GF z0 G) (hP : ∀ U, G U → zz_GD zS zS2 zLg z0 sp U) : zz_O l zTs D zcl zFK cy z0 sp (zTys cy) G "ToolMillLaw" mn 7 code d K 616 (za_iload 4 618) := zo_iload zd_900_616
theorem zd_900_618 : decode code 618 = .ok (.iconst 1, 1) := by decide +kernel
theorem zlw_618 {l : Launch} {D : va_G} {cy : Nat → ClassId} {z0 : Nat} {sp : Nat → Nat} {G : State → Prop} {mn : String} {d : Nat} {K : zz_K} (hKS : zz_KS l D zcl zFK cy z0 sp (zTys cy) G zYN (fun y => Cond.code (zYN y) (zCN y) (zMQ y) (zRT y) :: zTs) d K) (hsp0 : sp 18446744073709551616 = 0) (hG : zz_GF z0 G) (hP : ∀ U, G U → zz_GD zS zS2 zLg z0 sp U) : zz_O l zTs D zcl zFK cy z0 sp (zTys cy) G "ToolMillLaw" mn 7 code d K 618 (za_const (.int (Int32.ofNat 1)) 619) := zo_iconst zd_900_618 (by decide)
theorem zd_900_619 : decode code 619 = .ok (.iadd, 1) := by decide +kernel
theorem zlw_619 {l : Launch} {D : va_G} {cy : Nat → ClassId} {z0 : Nat} {sp : Nat → Nat} {G : State → Prop} {mn : String} {d : Nat} {K : zz_K} (hKS : zz_KS l D zcl zFK cy z0 sp (zTys cy) G zYN (fun y => Cond.code (zYN y) (zCN y) (zMQ y) (zRT y) :: zTs) d K) (hsp0 : sp 18446744073709551616 = 0) (hG : zz_GF z0 G) (hP : ∀ U, G U → zz_GD zS zS2 zLg z0 sp U) : zz_O l zTs D zcl zFK cy z0 sp (zTys cy) G "ToolMillLaw" mn 7 code d K 619 (za_iadd 620) := zo_iadd zd_900_619
theorem zd_900_621 : decode code 621 = .ok (.aload_n 0, 1) := by decide +kernel
theorem zlw_621 {l : Launch} {D : va_G} {cy : Nat → ClassId} {z0 : Nat} {sp : Nat → Nat} {G : State → Prop} {mn : String} {d : Nat} {K : zz_K} (hKS : zz_KS l D zcl zFK cy z0 sp (zTys cy) G zYN (fun y => Cond.code (zYN y) (zCN y) (zMQ y) (zRT y) :: zTs) d K) (hsp0 : sp 18446744073709551616 = 0) (hG : zz_GF z0 G) (hP : ∀ U, G U → zz_GD zS zS2 zLg z0 sp U) : zz_O l zTs D zcl zFK cy z0 sp (zTys cy) G "ToolMillLaw" mn 7 code d K 621 (za_aload 0 622) := zo_aload_n zd_900_621 rfl
theorem zd_900_622 : decode code 622 = .ok (.iload 4, 2) := by decide +kernel
theorem zlw_622 {l : Launch} {D : va_G} {cy : Nat → ClassId} {z0 : Nat} {sp : Nat → Nat} {G : State → Prop} {mn : String} {d : Nat} {K : zz_K} (hKS : zz_KS l D zcl zFK cy z0 sp (zTys cy) G zYN (fun y => Cond.code (zYN y) (zCN y) (zMQ y) (zRT y) :: zTs) d K) (hsp0 : sp 18446744073709551616 = 0) (hG : zz_GF z0 G) (hP : ∀ U, G U → zz_GD zS zS2 zLg z0 sp U) : zz_O l zTs D zcl zFK cy z0 sp (zTys cy) G "ToolMillLaw" mn 7 code d K 622 (za_iload 4 624) := zo_iload zd_900_622
theorem zd_900_624 : decode code 624 = .ok (.iconst 2, 1) := by decide +kernel
theorem zlw_624 {l : Launch} {D : va_G} {cy : Nat → ClassId} {z0 : Nat} {sp : Nat → Nat} {G : State → Prop} {mn : String} {d : Nat} {K : zz_K} (hKS : zz_KS l D zcl zFK cy z0 sp (zTys cy) G zYN (fun y => Cond.code (zYN y) (zCN y) (zMQ y) (zRT y) :: zTs) d K) (hsp0 : sp 18446744073709551616 = 0) (hG : zz_GF z0 G) (hP : ∀ U, G U → zz_GD zS zS2 zLg z0 sp U) : zz_O l zTs D zcl zFK cy z0 sp (zTys cy) G "ToolMillLaw" mn 7 code d K 624 (za_const (.int (Int32.ofNat 2)) 625) := zo_iconst zd_900_624 (by decide)
theorem zd_900_625 : decode code 625 = .ok (.iadd, 1) := by decide +kernel
theorem zlw_625 {l : Launch} {D : va_G} {cy : Nat → ClassId} {z0 : Nat} {sp : Nat → Nat} {G : State → Prop} {mn : String} {d : Nat} {K : zz_K} (hKS : zz_KS l D zcl zFK cy z0 sp (zTys cy) G zYN (fun y => Cond.code (zYN y) (zCN y) (zMQ y) (zRT y) :: zTs) d K) (hsp0 : sp 18446744073709551616 = 0) (hG : zz_GF z0 G) (hP : ∀ U, G U → zz_GD zS zS2 zLg z0 sp U) : zz_O l zTs D zcl zFK cy z0 sp (zTys cy) G "ToolMillLaw" mn 7 code d K 625 (za_iadd 626) := zo_iadd zd_900_625
theorem zd_900_627 : decode code 627 = .ok (.invokevirtual 146, 3) := by decide +kernel
theorem zlw_627 {l : Launch} {D : va_G} {cy : Nat → ClassId} {z0 : Nat} {sp : Nat → Nat} {G : State → Prop} {mn : String} {d : Nat} {K : zz_K} (hKS : zz_KS l D zcl zFK cy z0 sp (zTys cy) G zYN (fun y => Cond.code (zYN y) (zCN y) (zMQ y) (zRT y) :: zTs) d K) (hsp0 : sp 18446744073709551616 = 0) (hG : zz_GF z0 G) (hP : ∀ U, G U → zz_GD zS zS2 zLg z0 sp U) : zz_O l zTs D zcl zFK cy z0 sp (zTys cy) G "ToolMillLaw" mn 7 code d K 627 (za_callV 0 38 2 630) := zcV_38 hKS hG zd_900_627 zw_3062
theorem zd_900_630 : decode code 630 = .ok (.istore 6, 2) := by decide +kernel
theorem zlw_630 {l : Launch} {D : va_G} {cy : Nat → ClassId} {z0 : Nat} {sp : Nat → Nat} {G : State → Prop} {mn : String} {d : Nat} {K : zz_K} (hKS : zz_KS l D zcl zFK cy z0 sp (zTys cy) G zYN (fun y => Cond.code (zYN y) (zCN y) (zMQ y) (zRT y) :: zTs) d K) (hsp0 : sp 18446744073709551616 = 0) (hG : zz_GF z0 G) (hP : ∀ U, G U → zz_GD zS zS2 zLg z0 sp U) : zz_O l zTs D zcl zFK cy z0 sp (zTys cy) G "ToolMillLaw" mn 7 code d K 630 (za_istore 6 632) := zo_istore zd_900_630 (by decide)
theorem zd_900_632 : decode code 632 = .ok (.goto 267, 3) := by decide +kernel
theorem zlw_632 {l : Launch} {D : va_G} {cy : Nat → ClassId} {z0 : Nat} {sp : Nat → Nat} {G : State → Prop} {mn : String} {d : Nat} {K : zz_K} (hKS : zz_KS l D zcl zFK cy z0 sp (zTys cy) G zYN (fun y => Cond.code (zYN y) (zCN y) (zMQ y) (zRT y) :: zTs) d K) (hsp0 : sp 18446744073709551616 = 0) (hG : zz_GF z0 G) (hP : ∀ U, G U → zz_GD zS zS2 zLg z0 sp U) : zz_O l zTs D zcl zFK cy z0 sp (zTys cy) G "ToolMillLaw" mn 7 code d K 632 (za_goto 899) := zo_goto zd_900_632 (by decide)
theorem zd_900_635 : decode code 635 = .ok (.aload_n 1, 1) := by decide +kernel
theorem zlw_635 {l : Launch} {D : va_G} {cy : Nat → ClassId} {z0 : Nat} {sp : Nat → Nat} {G : State → Prop} {mn : String} {d : Nat} {K : zz_K} (hKS : zz_KS l D zcl zFK cy z0 sp (zTys cy) G zYN (fun y => Cond.code (zYN y) (zCN y) (zMQ y) (zRT y) :: zTs) d K) (hsp0 : sp 18446744073709551616 = 0) (hG : zz_GF z0 G) (hP : ∀ U, G U → zz_GD zS zS2 zLg z0 sp U) : zz_O l zTs D zcl zFK cy z0 sp (zTys cy) G "ToolMillLaw" mn 7 code d K 635 (za_aload 1 636) := zo_aload_n zd_900_635 rfl
theorem zd_900_636 : decode code 636 = .ok (.aload_n 0, 1) := by decide +kernel
theorem zlw_636 {l : Launch} {D : va_G} {cy : Nat → ClassId} {z0 : Nat} {sp : Nat → Nat} {G : State → Prop} {mn : String} {d : Nat} {K : zz_K} (hKS : zz_KS l D zcl zFK cy z0 sp (zTys cy) G zYN (fun y => Cond.code (zYN y) (zCN y) (zMQ y) (zRT y) :: zTs) d K) (hsp0 : sp 18446744073709551616 = 0) (hG : zz_GF z0 G) (hP : ∀ U, G U → zz_GD zS zS2 zLg z0 sp U) : zz_O l zTs D zcl zFK cy z0 sp (zTys cy) G "ToolMillLaw" mn 7 code d K 636 (za_aload 0 637) := zo_aload_n zd_900_636 rfl
theorem zd_900_637 : decode code 637 = .ok (.iload 4, 2) := by decide +kernel
theorem zlw_637 {l : Launch} {D : va_G} {cy : Nat → ClassId} {z0 : Nat} {sp : Nat → Nat} {G : State → Prop} {mn : String} {d : Nat} {K : zz_K} (hKS : zz_KS l D zcl zFK cy z0 sp (zTys cy) G zYN (fun y => Cond.code (zYN y) (zCN y) (zMQ y) (zRT y) :: zTs) d K) (hsp0 : sp 18446744073709551616 = 0) (hG : zz_GF z0 G) (hP : ∀ U, G U → zz_GD zS zS2 zLg z0 sp U) : zz_O l zTs D zcl zFK cy z0 sp (zTys cy) G "ToolMillLaw" mn 7 code d K 637 (za_iload 4 639) := zo_iload zd_900_637
theorem zd_900_639 : decode code 639 = .ok (.iconst 1, 1) := by decide +kernel
theorem zlw_639 {l : Launch} {D : va_G} {cy : Nat → ClassId} {z0 : Nat} {sp : Nat → Nat} {G : State → Prop} {mn : String} {d : Nat} {K : zz_K} (hKS : zz_KS l D zcl zFK cy z0 sp (zTys cy) G zYN (fun y => Cond.code (zYN y) (zCN y) (zMQ y) (zRT y) :: zTs) d K) (hsp0 : sp 18446744073709551616 = 0) (hG : zz_GF z0 G) (hP : ∀ U, G U → zz_GD zS zS2 zLg z0 sp U) : zz_O l zTs D zcl zFK cy z0 sp (zTys cy) G "ToolMillLaw" mn 7 code d K 639 (za_const (.int (Int32.ofNat 1)) 640) := zo_iconst zd_900_639 (by decide)
theorem zd_900_640 : decode code 640 = .ok (.iadd, 1) := by decide +kernel
theorem zlw_640 {l : Launch} {D : va_G} {cy : Nat → ClassId} {z0 : Nat} {sp : Nat → Nat} {G : State → Prop} {mn : String} {d : Nat} {K : zz_K} (hKS : zz_KS l D zcl zFK cy z0 sp (zTys cy) G zYN (fun y => Cond.code (zYN y) (zCN y) (zMQ y) (zRT y) :: zTs) d K) (hsp0 : sp 18446744073709551616 = 0) (hG : zz_GF z0 G) (hP : ∀ U, G U → zz_GD zS zS2 zLg z0 sp U) : zz_O l zTs D zcl zFK cy z0 sp (zTys cy) G "ToolMillLaw" mn 7 code d K 640 (za_iadd 641) := zo_iadd zd_900_640
theorem zd_900_642 : decode code 642 = .ok (.aload_n 3, 1) := by decide +kernel
theorem zlw_642 {l : Launch} {D : va_G} {cy : Nat → ClassId} {z0 : Nat} {sp : Nat → Nat} {G : State → Prop} {mn : String} {d : Nat} {K : zz_K} (hKS : zz_KS l D zcl zFK cy z0 sp (zTys cy) G zYN (fun y => Cond.code (zYN y) (zCN y) (zMQ y) (zRT y) :: zTs) d K) (hsp0 : sp 18446744073709551616 = 0) (hG : zz_GF z0 G) (hP : ∀ U, G U → zz_GD zS zS2 zLg z0 sp U) : zz_O l zTs D zcl zFK cy z0 sp (zTys cy) G "ToolMillLaw" mn 7 code d K 642 (za_aload 3 643) := zo_aload_n zd_900_642 rfl
theorem zd_900_646 : decode code 646 = .ok (.istore 5, 2) := by decide +kernel
theorem zlw_646 {l : Launch} {D : va_G} {cy : Nat → ClassId} {z0 : Nat} {sp : Nat → Nat} {G : State → Prop} {mn : String} {d : Nat} {K : zz_K} (hKS : zz_KS l D zcl zFK cy z0 sp (zTys cy) G zYN (fun y => Cond.code (zYN y) (zCN y) (zMQ y) (zRT y) :: zTs) d K) (hsp0 : sp 18446744073709551616 = 0) (hG : zz_GF z0 G) (hP : ∀ U, G U → zz_GD zS zS2 zLg z0 sp U) : zz_O l zTs D zcl zFK cy z0 sp (zTys cy) G "ToolMillLaw" mn 7 code d K 646 (za_istore 5 648) := zo_istore zd_900_646 (by decide)
theorem zd_900_648 : decode code 648 = .ok (.aload_n 2, 1) := by decide +kernel
theorem zlw_648 {l : Launch} {D : va_G} {cy : Nat → ClassId} {z0 : Nat} {sp : Nat → Nat} {G : State → Prop} {mn : String} {d : Nat} {K : zz_K} (hKS : zz_KS l D zcl zFK cy z0 sp (zTys cy) G zYN (fun y => Cond.code (zYN y) (zCN y) (zMQ y) (zRT y) :: zTs) d K) (hsp0 : sp 18446744073709551616 = 0) (hG : zz_GF z0 G) (hP : ∀ U, G U → zz_GD zS zS2 zLg z0 sp U) : zz_O l zTs D zcl zFK cy z0 sp (zTys cy) G "ToolMillLaw" mn 7 code d K 648 (za_aload 2 649) := zo_aload_n zd_900_648 rfl
theorem zd_900_649 : decode code 649 = .ok (.aload_n 0, 1) := by decide +kernel
theorem zlw_649 {l : Launch} {D : va_G} {cy : Nat → ClassId} {z0 : Nat} {sp : Nat → Nat} {G : State → Prop} {mn : String} {d : Nat} {K : zz_K} (hKS : zz_KS l D zcl zFK cy z0 sp (zTys cy) G zYN (fun y => Cond.code (zYN y) (zCN y) (zMQ y) (zRT y) :: zTs) d K) (hsp0 : sp 18446744073709551616 = 0) (hG : zz_GF z0 G) (hP : ∀ U, G U → zz_GD zS zS2 zLg z0 sp U) : zz_O l zTs D zcl zFK cy z0 sp (zTys cy) G "ToolMillLaw" mn 7 code d K 649 (za_aload 0 650) := zo_aload_n zd_900_649 rfl
theorem zd_900_650 : decode code 650 = .ok (.iload 4, 2) := by decide +kernel
theorem zlw_650 {l : Launch} {D : va_G} {cy : Nat → ClassId} {z0 : Nat} {sp : Nat → Nat} {G : State → Prop} {mn : String} {d : Nat} {K : zz_K} (hKS : zz_KS l D zcl zFK cy z0 sp (zTys cy) G zYN (fun y => Cond.code (zYN y) (zCN y) (zMQ y) (zRT y) :: zTs) d K) (hsp0 : sp 18446744073709551616 = 0) (hG : zz_GF z0 G) (hP : ∀ U, G U → zz_GD zS zS2 zLg z0 sp U) : zz_O l zTs D zcl zFK cy z0 sp (zTys cy) G "ToolMillLaw" mn 7 code d K 650 (za_iload 4 652) := zo_iload zd_900_650
theorem zd_900_652 : decode code 652 = .ok (.iconst 1, 1) := by decide +kernel
theorem zlw_652 {l : Launch} {D : va_G} {cy : Nat → ClassId} {z0 : Nat} {sp : Nat → Nat} {G : State → Prop} {mn : String} {d : Nat} {K : zz_K} (hKS : zz_KS l D zcl zFK cy z0 sp (zTys cy) G zYN (fun y => Cond.code (zYN y) (zCN y) (zMQ y) (zRT y) :: zTs) d K) (hsp0 : sp 18446744073709551616 = 0) (hG : zz_GF z0 G) (hP : ∀ U, G U → zz_GD zS zS2 zLg z0 sp U) : zz_O l zTs D zcl zFK cy z0 sp (zTys cy) G "ToolMillLaw" mn 7 code d K 652 (za_const (.int (Int32.ofNat 1)) 653) := zo_iconst zd_900_652 (by decide)
theorem zd_900_653 : decode code 653 = .ok (.iadd, 1) := by decide +kernel
theorem zlw_653 {l : Launch} {D : va_G} {cy : Nat → ClassId} {z0 : Nat} {sp : Nat → Nat} {G : State → Prop} {mn : String} {d : Nat} {K : zz_K} (hKS : zz_KS l D zcl zFK cy z0 sp (zTys cy) G zYN (fun y => Cond.code (zYN y) (zCN y) (zMQ y) (zRT y) :: zTs) d K) (hsp0 : sp 18446744073709551616 = 0) (hG : zz_GF z0 G) (hP : ∀ U, G U → zz_GD zS zS2 zLg z0 sp U) : zz_O l zTs D zcl zFK cy z0 sp (zTys cy) G "ToolMillLaw" mn 7 code d K 653 (za_iadd 654) := zo_iadd zd_900_653
theorem zd_900_655 : decode code 655 = .ok (.invokevirtual 149, 3) := by decide +kernel
theorem zlw_655 {l : Launch} {D : va_G} {cy : Nat → ClassId} {z0 : Nat} {sp : Nat → Nat} {G : State → Prop} {mn : String} {d : Nat} {K : zz_K} (hKS : zz_KS l D zcl zFK cy z0 sp (zTys cy) G zYN (fun y => Cond.code (zYN y) (zCN y) (zMQ y) (zRT y) :: zTs) d K) (hsp0 : sp 18446744073709551616 = 0) (hG : zz_GF z0 G) (hP : ∀ U, G U → zz_GD zS zS2 zLg z0 sp U) : zz_O l zTs D zcl zFK cy z0 sp (zTys cy) G "ToolMillLaw" mn 7 code d K 655 (za_callV 0 39 1 658) := zcV_39 hKS hG zd_900_655 zw_3063
theorem zd_900_658 : decode code 658 = .ok (.istore 6, 2) := by decide +kernel
theorem zlw_658 {l : Launch} {D : va_G} {cy : Nat → ClassId} {z0 : Nat} {sp : Nat → Nat} {G : State → Prop} {mn : String} {d : Nat} {K : zz_K} (hKS : zz_KS l D zcl zFK cy z0 sp (zTys cy) G zYN (fun y => Cond.code (zYN y) (zCN y) (zMQ y) (zRT y) :: zTs) d K) (hsp0 : sp 18446744073709551616 = 0) (hG : zz_GF z0 G) (hP : ∀ U, G U → zz_GD zS zS2 zLg z0 sp U) : zz_O l zTs D zcl zFK cy z0 sp (zTys cy) G "ToolMillLaw" mn 7 code d K 658 (za_istore 6 660) := zo_istore zd_900_658 (by decide)
theorem zd_900_660 : decode code 660 = .ok (.goto 239, 3) := by decide +kernel
theorem zlw_660 {l : Launch} {D : va_G} {cy : Nat → ClassId} {z0 : Nat} {sp : Nat → Nat} {G : State → Prop} {mn : String} {d : Nat} {K : zz_K} (hKS : zz_KS l D zcl zFK cy z0 sp (zTys cy) G zYN (fun y => Cond.code (zYN y) (zCN y) (zMQ y) (zRT y) :: zTs) d K) (hsp0 : sp 18446744073709551616 = 0) (hG : zz_GF z0 G) (hP : ∀ U, G U → zz_GD zS zS2 zLg z0 sp U) : zz_O l zTs D zcl zFK cy z0 sp (zTys cy) G "ToolMillLaw" mn 7 code d K 660 (za_goto 899) := zo_goto zd_900_660 (by decide)
theorem zd_900_663 : decode code 663 = .ok (.aload_n 1, 1) := by decide +kernel
theorem zlw_663 {l : Launch} {D : va_G} {cy : Nat → ClassId} {z0 : Nat} {sp : Nat → Nat} {G : State → Prop} {mn : String} {d : Nat} {K : zz_K} (hKS : zz_KS l D zcl zFK cy z0 sp (zTys cy) G zYN (fun y => Cond.code (zYN y) (zCN y) (zMQ y) (zRT y) :: zTs) d K) (hsp0 : sp 18446744073709551616 = 0) (hG : zz_GF z0 G) (hP : ∀ U, G U → zz_GD zS zS2 zLg z0 sp U) : zz_O l zTs D zcl zFK cy z0 sp (zTys cy) G "ToolMillLaw" mn 7 code d K 663 (za_aload 1 664) := zo_aload_n zd_900_663 rfl
theorem zd_900_664 : decode code 664 = .ok (.aload_n 0, 1) := by decide +kernel
theorem zlw_664 {l : Launch} {D : va_G} {cy : Nat → ClassId} {z0 : Nat} {sp : Nat → Nat} {G : State → Prop} {mn : String} {d : Nat} {K : zz_K} (hKS : zz_KS l D zcl zFK cy z0 sp (zTys cy) G zYN (fun y => Cond.code (zYN y) (zCN y) (zMQ y) (zRT y) :: zTs) d K) (hsp0 : sp 18446744073709551616 = 0) (hG : zz_GF z0 G) (hP : ∀ U, G U → zz_GD zS zS2 zLg z0 sp U) : zz_O l zTs D zcl zFK cy z0 sp (zTys cy) G "ToolMillLaw" mn 7 code d K 664 (za_aload 0 665) := zo_aload_n zd_900_664 rfl
theorem zd_900_665 : decode code 665 = .ok (.iload 4, 2) := by decide +kernel
theorem zlw_665 {l : Launch} {D : va_G} {cy : Nat → ClassId} {z0 : Nat} {sp : Nat → Nat} {G : State → Prop} {mn : String} {d : Nat} {K : zz_K} (hKS : zz_KS l D zcl zFK cy z0 sp (zTys cy) G zYN (fun y => Cond.code (zYN y) (zCN y) (zMQ y) (zRT y) :: zTs) d K) (hsp0 : sp 18446744073709551616 = 0) (hG : zz_GF z0 G) (hP : ∀ U, G U → zz_GD zS zS2 zLg z0 sp U) : zz_O l zTs D zcl zFK cy z0 sp (zTys cy) G "ToolMillLaw" mn 7 code d K 665 (za_iload 4 667) := zo_iload zd_900_665
theorem zd_900_667 : decode code 667 = .ok (.iconst 1, 1) := by decide +kernel
theorem zlw_667 {l : Launch} {D : va_G} {cy : Nat → ClassId} {z0 : Nat} {sp : Nat → Nat} {G : State → Prop} {mn : String} {d : Nat} {K : zz_K} (hKS : zz_KS l D zcl zFK cy z0 sp (zTys cy) G zYN (fun y => Cond.code (zYN y) (zCN y) (zMQ y) (zRT y) :: zTs) d K) (hsp0 : sp 18446744073709551616 = 0) (hG : zz_GF z0 G) (hP : ∀ U, G U → zz_GD zS zS2 zLg z0 sp U) : zz_O l zTs D zcl zFK cy z0 sp (zTys cy) G "ToolMillLaw" mn 7 code d K 667 (za_const (.int (Int32.ofNat 1)) 668) := zo_iconst zd_900_667 (by decide)
theorem zd_900_668 : decode code 668 = .ok (.iadd, 1) := by decide +kernel
theorem zlw_668 {l : Launch} {D : va_G} {cy : Nat → ClassId} {z0 : Nat} {sp : Nat → Nat} {G : State → Prop} {mn : String} {d : Nat} {K : zz_K} (hKS : zz_KS l D zcl zFK cy z0 sp (zTys cy) G zYN (fun y => Cond.code (zYN y) (zCN y) (zMQ y) (zRT y) :: zTs) d K) (hsp0 : sp 18446744073709551616 = 0) (hG : zz_GF z0 G) (hP : ∀ U, G U → zz_GD zS zS2 zLg z0 sp U) : zz_O l zTs D zcl zFK cy z0 sp (zTys cy) G "ToolMillLaw" mn 7 code d K 668 (za_iadd 669) := zo_iadd zd_900_668
theorem zd_900_670 : decode code 670 = .ok (.aload_n 3, 1) := by decide +kernel
theorem zlw_670 {l : Launch} {D : va_G} {cy : Nat → ClassId} {z0 : Nat} {sp : Nat → Nat} {G : State → Prop} {mn : String} {d : Nat} {K : zz_K} (hKS : zz_KS l D zcl zFK cy z0 sp (zTys cy) G zYN (fun y => Cond.code (zYN y) (zCN y) (zMQ y) (zRT y) :: zTs) d K) (hsp0 : sp 18446744073709551616 = 0) (hG : zz_GF z0 G) (hP : ∀ U, G U → zz_GD zS zS2 zLg z0 sp U) : zz_O l zTs D zcl zFK cy z0 sp (zTys cy) G "ToolMillLaw" mn 7 code d K 670 (za_aload 3 671) := zo_aload_n zd_900_670 rfl
theorem zd_900_674 : decode code 674 = .ok (.istore 5, 2) := by decide +kernel
theorem zlw_674 {l : Launch} {D : va_G} {cy : Nat → ClassId} {z0 : Nat} {sp : Nat → Nat} {G : State → Prop} {mn : String} {d : Nat} {K : zz_K} (hKS : zz_KS l D zcl zFK cy z0 sp (zTys cy) G zYN (fun y => Cond.code (zYN y) (zCN y) (zMQ y) (zRT y) :: zTs) d K) (hsp0 : sp 18446744073709551616 = 0) (hG : zz_GF z0 G) (hP : ∀ U, G U → zz_GD zS zS2 zLg z0 sp U) : zz_O l zTs D zcl zFK cy z0 sp (zTys cy) G "ToolMillLaw" mn 7 code d K 674 (za_istore 5 676) := zo_istore zd_900_674 (by decide)
theorem zd_900_676 : decode code 676 = .ok (.aload_n 2, 1) := by decide +kernel
theorem zlw_676 {l : Launch} {D : va_G} {cy : Nat → ClassId} {z0 : Nat} {sp : Nat → Nat} {G : State → Prop} {mn : String} {d : Nat} {K : zz_K} (hKS : zz_KS l D zcl zFK cy z0 sp (zTys cy) G zYN (fun y => Cond.code (zYN y) (zCN y) (zMQ y) (zRT y) :: zTs) d K) (hsp0 : sp 18446744073709551616 = 0) (hG : zz_GF z0 G) (hP : ∀ U, G U → zz_GD zS zS2 zLg z0 sp U) : zz_O l zTs D zcl zFK cy z0 sp (zTys cy) G "ToolMillLaw" mn 7 code d K 676 (za_aload 2 677) := zo_aload_n zd_900_676 rfl
theorem zd_900_677 : decode code 677 = .ok (.aload_n 0, 1) := by decide +kernel
theorem zlw_677 {l : Launch} {D : va_G} {cy : Nat → ClassId} {z0 : Nat} {sp : Nat → Nat} {G : State → Prop} {mn : String} {d : Nat} {K : zz_K} (hKS : zz_KS l D zcl zFK cy z0 sp (zTys cy) G zYN (fun y => Cond.code (zYN y) (zCN y) (zMQ y) (zRT y) :: zTs) d K) (hsp0 : sp 18446744073709551616 = 0) (hG : zz_GF z0 G) (hP : ∀ U, G U → zz_GD zS zS2 zLg z0 sp U) : zz_O l zTs D zcl zFK cy z0 sp (zTys cy) G "ToolMillLaw" mn 7 code d K 677 (za_aload 0 678) := zo_aload_n zd_900_677 rfl
theorem zd_900_678 : decode code 678 = .ok (.iload 4, 2) := by decide +kernel
theorem zlw_678 {l : Launch} {D : va_G} {cy : Nat → ClassId} {z0 : Nat} {sp : Nat → Nat} {G : State → Prop} {mn : String} {d : Nat} {K : zz_K} (hKS : zz_KS l D zcl zFK cy z0 sp (zTys cy) G zYN (fun y => Cond.code (zYN y) (zCN y) (zMQ y) (zRT y) :: zTs) d K) (hsp0 : sp 18446744073709551616 = 0) (hG : zz_GF z0 G) (hP : ∀ U, G U → zz_GD zS zS2 zLg z0 sp U) : zz_O l zTs D zcl zFK cy z0 sp (zTys cy) G "ToolMillLaw" mn 7 code d K 678 (za_iload 4 680) := zo_iload zd_900_678
theorem zd_900_680 : decode code 680 = .ok (.iconst 1, 1) := by decide +kernel
theorem zlw_680 {l : Launch} {D : va_G} {cy : Nat → ClassId} {z0 : Nat} {sp : Nat → Nat} {G : State → Prop} {mn : String} {d : Nat} {K : zz_K} (hKS : zz_KS l D zcl zFK cy z0 sp (zTys cy) G zYN (fun y => Cond.code (zYN y) (zCN y) (zMQ y) (zRT y) :: zTs) d K) (hsp0 : sp 18446744073709551616 = 0) (hG : zz_GF z0 G) (hP : ∀ U, G U → zz_GD zS zS2 zLg z0 sp U) : zz_O l zTs D zcl zFK cy z0 sp (zTys cy) G "ToolMillLaw" mn 7 code d K 680 (za_const (.int (Int32.ofNat 1)) 681) := zo_iconst zd_900_680 (by decide)
theorem zd_900_681 : decode code 681 = .ok (.iadd, 1) := by decide +kernel
theorem zlw_681 {l : Launch} {D : va_G} {cy : Nat → ClassId} {z0 : Nat} {sp : Nat → Nat} {G : State → Prop} {mn : String} {d : Nat} {K : zz_K} (hKS : zz_KS l D zcl zFK cy z0 sp (zTys cy) G zYN (fun y => Cond.code (zYN y) (zCN y) (zMQ y) (zRT y) :: zTs) d K) (hsp0 : sp 18446744073709551616 = 0) (hG : zz_GF z0 G) (hP : ∀ U, G U → zz_GD zS zS2 zLg z0 sp U) : zz_O l zTs D zcl zFK cy z0 sp (zTys cy) G "ToolMillLaw" mn 7 code d K 681 (za_iadd 682) := zo_iadd zd_900_681
theorem zd_900_683 : decode code 683 = .ok (.invokevirtual 152, 3) := by decide +kernel
theorem zlw_683 {l : Launch} {D : va_G} {cy : Nat → ClassId} {z0 : Nat} {sp : Nat → Nat} {G : State → Prop} {mn : String} {d : Nat} {K : zz_K} (hKS : zz_KS l D zcl zFK cy z0 sp (zTys cy) G zYN (fun y => Cond.code (zYN y) (zCN y) (zMQ y) (zRT y) :: zTs) d K) (hsp0 : sp 18446744073709551616 = 0) (hG : zz_GF z0 G) (hP : ∀ U, G U → zz_GD zS zS2 zLg z0 sp U) : zz_O l zTs D zcl zFK cy z0 sp (zTys cy) G "ToolMillLaw" mn 7 code d K 683 (za_callV 0 40 1 686) := zcV_40 hKS hG zd_900_683 zw_3064
theorem zd_900_686 : decode code 686 = .ok (.istore 6, 2) := by decide +kernel
theorem zlw_686 {l : Launch} {D : va_G} {cy : Nat → ClassId} {z0 : Nat} {sp : Nat → Nat} {G : State → Prop} {mn : String} {d : Nat} {K : zz_K} (hKS : zz_KS l D zcl zFK cy z0 sp (zTys cy) G zYN (fun y => Cond.code (zYN y) (zCN y) (zMQ y) (zRT y) :: zTs) d K) (hsp0 : sp 18446744073709551616 = 0) (hG : zz_GF z0 G) (hP : ∀ U, G U → zz_GD zS zS2 zLg z0 sp U) : zz_O l zTs D zcl zFK cy z0 sp (zTys cy) G "ToolMillLaw" mn 7 code d K 686 (za_istore 6 688) := zo_istore zd_900_686 (by decide)
theorem zd_900_688 : decode code 688 = .ok (.goto 211, 3) := by decide +kernel
theorem zlw_688 {l : Launch} {D : va_G} {cy : Nat → ClassId} {z0 : Nat} {sp : Nat → Nat} {G : State → Prop} {mn : String} {d : Nat} {K : zz_K} (hKS : zz_KS l D zcl zFK cy z0 sp (zTys cy) G zYN (fun y => Cond.code (zYN y) (zCN y) (zMQ y) (zRT y) :: zTs) d K) (hsp0 : sp 18446744073709551616 = 0) (hG : zz_GF z0 G) (hP : ∀ U, G U → zz_GD zS zS2 zLg z0 sp U) : zz_O l zTs D zcl zFK cy z0 sp (zTys cy) G "ToolMillLaw" mn 7 code d K 688 (za_goto 899) := zo_goto zd_900_688 (by decide)
theorem zd_900_691 : decode code 691 = .ok (.aload_n 1, 1) := by decide +kernel
theorem zlw_691 {l : Launch} {D : va_G} {cy : Nat → ClassId} {z0 : Nat} {sp : Nat → Nat} {G : State → Prop} {mn : String} {d : Nat} {K : zz_K} (hKS : zz_KS l D zcl zFK cy z0 sp (zTys cy) G zYN (fun y => Cond.code (zYN y) (zCN y) (zMQ y) (zRT y) :: zTs) d K) (hsp0 : sp 18446744073709551616 = 0) (hG : zz_GF z0 G) (hP : ∀ U, G U → zz_GD zS zS2 zLg z0 sp U) : zz_O l zTs D zcl zFK cy z0 sp (zTys cy) G "ToolMillLaw" mn 7 code d K 691 (za_aload 1 692) := zo_aload_n zd_900_691 rfl
theorem zd_900_692 : decode code 692 = .ok (.aload_n 0, 1) := by decide +kernel
theorem zlw_692 {l : Launch} {D : va_G} {cy : Nat → ClassId} {z0 : Nat} {sp : Nat → Nat} {G : State → Prop} {mn : String} {d : Nat} {K : zz_K} (hKS : zz_KS l D zcl zFK cy z0 sp (zTys cy) G zYN (fun y => Cond.code (zYN y) (zCN y) (zMQ y) (zRT y) :: zTs) d K) (hsp0 : sp 18446744073709551616 = 0) (hG : zz_GF z0 G) (hP : ∀ U, G U → zz_GD zS zS2 zLg z0 sp U) : zz_O l zTs D zcl zFK cy z0 sp (zTys cy) G "ToolMillLaw" mn 7 code d K 692 (za_aload 0 693) := zo_aload_n zd_900_692 rfl
theorem zd_900_693 : decode code 693 = .ok (.iload 4, 2) := by decide +kernel
theorem zlw_693 {l : Launch} {D : va_G} {cy : Nat → ClassId} {z0 : Nat} {sp : Nat → Nat} {G : State → Prop} {mn : String} {d : Nat} {K : zz_K} (hKS : zz_KS l D zcl zFK cy z0 sp (zTys cy) G zYN (fun y => Cond.code (zYN y) (zCN y) (zMQ y) (zRT y) :: zTs) d K) (hsp0 : sp 18446744073709551616 = 0) (hG : zz_GF z0 G) (hP : ∀ U, G U → zz_GD zS zS2 zLg z0 sp U) : zz_O l zTs D zcl zFK cy z0 sp (zTys cy) G "ToolMillLaw" mn 7 code d K 693 (za_iload 4 695) := zo_iload zd_900_693
theorem zd_900_695 : decode code 695 = .ok (.iconst 1, 1) := by decide +kernel
theorem zlw_695 {l : Launch} {D : va_G} {cy : Nat → ClassId} {z0 : Nat} {sp : Nat → Nat} {G : State → Prop} {mn : String} {d : Nat} {K : zz_K} (hKS : zz_KS l D zcl zFK cy z0 sp (zTys cy) G zYN (fun y => Cond.code (zYN y) (zCN y) (zMQ y) (zRT y) :: zTs) d K) (hsp0 : sp 18446744073709551616 = 0) (hG : zz_GF z0 G) (hP : ∀ U, G U → zz_GD zS zS2 zLg z0 sp U) : zz_O l zTs D zcl zFK cy z0 sp (zTys cy) G "ToolMillLaw" mn 7 code d K 695 (za_const (.int (Int32.ofNat 1)) 696) := zo_iconst zd_900_695 (by decide)
theorem zd_900_696 : decode code 696 = .ok (.iadd, 1) := by decide +kernel
theorem zlw_696 {l : Launch} {D : va_G} {cy : Nat → ClassId} {z0 : Nat} {sp : Nat → Nat} {G : State → Prop} {mn : String} {d : Nat} {K : zz_K} (hKS : zz_KS l D zcl zFK cy z0 sp (zTys cy) G zYN (fun y => Cond.code (zYN y) (zCN y) (zMQ y) (zRT y) :: zTs) d K) (hsp0 : sp 18446744073709551616 = 0) (hG : zz_GF z0 G) (hP : ∀ U, G U → zz_GD zS zS2 zLg z0 sp U) : zz_O l zTs D zcl zFK cy z0 sp (zTys cy) G "ToolMillLaw" mn 7 code d K 696 (za_iadd 697) := zo_iadd zd_900_696
theorem zd_900_698 : decode code 698 = .ok (.aload_n 3, 1) := by decide +kernel
theorem zlw_698 {l : Launch} {D : va_G} {cy : Nat → ClassId} {z0 : Nat} {sp : Nat → Nat} {G : State → Prop} {mn : String} {d : Nat} {K : zz_K} (hKS : zz_KS l D zcl zFK cy z0 sp (zTys cy) G zYN (fun y => Cond.code (zYN y) (zCN y) (zMQ y) (zRT y) :: zTs) d K) (hsp0 : sp 18446744073709551616 = 0) (hG : zz_GF z0 G) (hP : ∀ U, G U → zz_GD zS zS2 zLg z0 sp U) : zz_O l zTs D zcl zFK cy z0 sp (zTys cy) G "ToolMillLaw" mn 7 code d K 698 (za_aload 3 699) := zo_aload_n zd_900_698 rfl
theorem zd_900_702 : decode code 702 = .ok (.istore 5, 2) := by decide +kernel
theorem zlw_702 {l : Launch} {D : va_G} {cy : Nat → ClassId} {z0 : Nat} {sp : Nat → Nat} {G : State → Prop} {mn : String} {d : Nat} {K : zz_K} (hKS : zz_KS l D zcl zFK cy z0 sp (zTys cy) G zYN (fun y => Cond.code (zYN y) (zCN y) (zMQ y) (zRT y) :: zTs) d K) (hsp0 : sp 18446744073709551616 = 0) (hG : zz_GF z0 G) (hP : ∀ U, G U → zz_GD zS zS2 zLg z0 sp U) : zz_O l zTs D zcl zFK cy z0 sp (zTys cy) G "ToolMillLaw" mn 7 code d K 702 (za_istore 5 704) := zo_istore zd_900_702 (by decide)
theorem zd_900_704 : decode code 704 = .ok (.aload_n 2, 1) := by decide +kernel
theorem zlw_704 {l : Launch} {D : va_G} {cy : Nat → ClassId} {z0 : Nat} {sp : Nat → Nat} {G : State → Prop} {mn : String} {d : Nat} {K : zz_K} (hKS : zz_KS l D zcl zFK cy z0 sp (zTys cy) G zYN (fun y => Cond.code (zYN y) (zCN y) (zMQ y) (zRT y) :: zTs) d K) (hsp0 : sp 18446744073709551616 = 0) (hG : zz_GF z0 G) (hP : ∀ U, G U → zz_GD zS zS2 zLg z0 sp U) : zz_O l zTs D zcl zFK cy z0 sp (zTys cy) G "ToolMillLaw" mn 7 code d K 704 (za_aload 2 705) := zo_aload_n zd_900_704 rfl
theorem zd_900_705 : decode code 705 = .ok (.aload_n 0, 1) := by decide +kernel
theorem zlw_705 {l : Launch} {D : va_G} {cy : Nat → ClassId} {z0 : Nat} {sp : Nat → Nat} {G : State → Prop} {mn : String} {d : Nat} {K : zz_K} (hKS : zz_KS l D zcl zFK cy z0 sp (zTys cy) G zYN (fun y => Cond.code (zYN y) (zCN y) (zMQ y) (zRT y) :: zTs) d K) (hsp0 : sp 18446744073709551616 = 0) (hG : zz_GF z0 G) (hP : ∀ U, G U → zz_GD zS zS2 zLg z0 sp U) : zz_O l zTs D zcl zFK cy z0 sp (zTys cy) G "ToolMillLaw" mn 7 code d K 705 (za_aload 0 706) := zo_aload_n zd_900_705 rfl
theorem zd_900_706 : decode code 706 = .ok (.iload 4, 2) := by decide +kernel
theorem zlw_706 {l : Launch} {D : va_G} {cy : Nat → ClassId} {z0 : Nat} {sp : Nat → Nat} {G : State → Prop} {mn : String} {d : Nat} {K : zz_K} (hKS : zz_KS l D zcl zFK cy z0 sp (zTys cy) G zYN (fun y => Cond.code (zYN y) (zCN y) (zMQ y) (zRT y) :: zTs) d K) (hsp0 : sp 18446744073709551616 = 0) (hG : zz_GF z0 G) (hP : ∀ U, G U → zz_GD zS zS2 zLg z0 sp U) : zz_O l zTs D zcl zFK cy z0 sp (zTys cy) G "ToolMillLaw" mn 7 code d K 706 (za_iload 4 708) := zo_iload zd_900_706
theorem zd_900_708 : decode code 708 = .ok (.iconst 1, 1) := by decide +kernel
theorem zlw_708 {l : Launch} {D : va_G} {cy : Nat → ClassId} {z0 : Nat} {sp : Nat → Nat} {G : State → Prop} {mn : String} {d : Nat} {K : zz_K} (hKS : zz_KS l D zcl zFK cy z0 sp (zTys cy) G zYN (fun y => Cond.code (zYN y) (zCN y) (zMQ y) (zRT y) :: zTs) d K) (hsp0 : sp 18446744073709551616 = 0) (hG : zz_GF z0 G) (hP : ∀ U, G U → zz_GD zS zS2 zLg z0 sp U) : zz_O l zTs D zcl zFK cy z0 sp (zTys cy) G "ToolMillLaw" mn 7 code d K 708 (za_const (.int (Int32.ofNat 1)) 709) := zo_iconst zd_900_708 (by decide)
theorem zd_900_709 : decode code 709 = .ok (.iadd, 1) := by decide +kernel
theorem zlw_709 {l : Launch} {D : va_G} {cy : Nat → ClassId} {z0 : Nat} {sp : Nat → Nat} {G : State → Prop} {mn : String} {d : Nat} {K : zz_K} (hKS : zz_KS l D zcl zFK cy z0 sp (zTys cy) G zYN (fun y => Cond.code (zYN y) (zCN y) (zMQ y) (zRT y) :: zTs) d K) (hsp0 : sp 18446744073709551616 = 0) (hG : zz_GF z0 G) (hP : ∀ U, G U → zz_GD zS zS2 zLg z0 sp U) : zz_O l zTs D zcl zFK cy z0 sp (zTys cy) G "ToolMillLaw" mn 7 code d K 709 (za_iadd 710) := zo_iadd zd_900_709
theorem zd_900_711 : decode code 711 = .ok (.invokevirtual 155, 3) := by decide +kernel
theorem zlw_711 {l : Launch} {D : va_G} {cy : Nat → ClassId} {z0 : Nat} {sp : Nat → Nat} {G : State → Prop} {mn : String} {d : Nat} {K : zz_K} (hKS : zz_KS l D zcl zFK cy z0 sp (zTys cy) G zYN (fun y => Cond.code (zYN y) (zCN y) (zMQ y) (zRT y) :: zTs) d K) (hsp0 : sp 18446744073709551616 = 0) (hG : zz_GF z0 G) (hP : ∀ U, G U → zz_GD zS zS2 zLg z0 sp U) : zz_O l zTs D zcl zFK cy z0 sp (zTys cy) G "ToolMillLaw" mn 7 code d K 711 (za_callV 0 41 1 714) := zcV_41 hKS hG zd_900_711 zw_3065
theorem zd_900_714 : decode code 714 = .ok (.istore 6, 2) := by decide +kernel
theorem zlw_714 {l : Launch} {D : va_G} {cy : Nat → ClassId} {z0 : Nat} {sp : Nat → Nat} {G : State → Prop} {mn : String} {d : Nat} {K : zz_K} (hKS : zz_KS l D zcl zFK cy z0 sp (zTys cy) G zYN (fun y => Cond.code (zYN y) (zCN y) (zMQ y) (zRT y) :: zTs) d K) (hsp0 : sp 18446744073709551616 = 0) (hG : zz_GF z0 G) (hP : ∀ U, G U → zz_GD zS zS2 zLg z0 sp U) : zz_O l zTs D zcl zFK cy z0 sp (zTys cy) G "ToolMillLaw" mn 7 code d K 714 (za_istore 6 716) := zo_istore zd_900_714 (by decide)
theorem zd_900_716 : decode code 716 = .ok (.goto 183, 3) := by decide +kernel
theorem zlw_716 {l : Launch} {D : va_G} {cy : Nat → ClassId} {z0 : Nat} {sp : Nat → Nat} {G : State → Prop} {mn : String} {d : Nat} {K : zz_K} (hKS : zz_KS l D zcl zFK cy z0 sp (zTys cy) G zYN (fun y => Cond.code (zYN y) (zCN y) (zMQ y) (zRT y) :: zTs) d K) (hsp0 : sp 18446744073709551616 = 0) (hG : zz_GF z0 G) (hP : ∀ U, G U → zz_GD zS zS2 zLg z0 sp U) : zz_O l zTs D zcl zFK cy z0 sp (zTys cy) G "ToolMillLaw" mn 7 code d K 716 (za_goto 899) := zo_goto zd_900_716 (by decide)
theorem zd_900_719 : decode code 719 = .ok (.aload_n 1, 1) := by decide +kernel
theorem zlw_719 {l : Launch} {D : va_G} {cy : Nat → ClassId} {z0 : Nat} {sp : Nat → Nat} {G : State → Prop} {mn : String} {d : Nat} {K : zz_K} (hKS : zz_KS l D zcl zFK cy z0 sp (zTys cy) G zYN (fun y => Cond.code (zYN y) (zCN y) (zMQ y) (zRT y) :: zTs) d K) (hsp0 : sp 18446744073709551616 = 0) (hG : zz_GF z0 G) (hP : ∀ U, G U → zz_GD zS zS2 zLg z0 sp U) : zz_O l zTs D zcl zFK cy z0 sp (zTys cy) G "ToolMillLaw" mn 7 code d K 719 (za_aload 1 720) := zo_aload_n zd_900_719 rfl
theorem zd_900_720 : decode code 720 = .ok (.aload_n 0, 1) := by decide +kernel
theorem zlw_720 {l : Launch} {D : va_G} {cy : Nat → ClassId} {z0 : Nat} {sp : Nat → Nat} {G : State → Prop} {mn : String} {d : Nat} {K : zz_K} (hKS : zz_KS l D zcl zFK cy z0 sp (zTys cy) G zYN (fun y => Cond.code (zYN y) (zCN y) (zMQ y) (zRT y) :: zTs) d K) (hsp0 : sp 18446744073709551616 = 0) (hG : zz_GF z0 G) (hP : ∀ U, G U → zz_GD zS zS2 zLg z0 sp U) : zz_O l zTs D zcl zFK cy z0 sp (zTys cy) G "ToolMillLaw" mn 7 code d K 720 (za_aload 0 721) := zo_aload_n zd_900_720 rfl
theorem zd_900_721 : decode code 721 = .ok (.iload 4, 2) := by decide +kernel
theorem zlw_721 {l : Launch} {D : va_G} {cy : Nat → ClassId} {z0 : Nat} {sp : Nat → Nat} {G : State → Prop} {mn : String} {d : Nat} {K : zz_K} (hKS : zz_KS l D zcl zFK cy z0 sp (zTys cy) G zYN (fun y => Cond.code (zYN y) (zCN y) (zMQ y) (zRT y) :: zTs) d K) (hsp0 : sp 18446744073709551616 = 0) (hG : zz_GF z0 G) (hP : ∀ U, G U → zz_GD zS zS2 zLg z0 sp U) : zz_O l zTs D zcl zFK cy z0 sp (zTys cy) G "ToolMillLaw" mn 7 code d K 721 (za_iload 4 723) := zo_iload zd_900_721
theorem zd_900_723 : decode code 723 = .ok (.iconst 1, 1) := by decide +kernel
theorem zlw_723 {l : Launch} {D : va_G} {cy : Nat → ClassId} {z0 : Nat} {sp : Nat → Nat} {G : State → Prop} {mn : String} {d : Nat} {K : zz_K} (hKS : zz_KS l D zcl zFK cy z0 sp (zTys cy) G zYN (fun y => Cond.code (zYN y) (zCN y) (zMQ y) (zRT y) :: zTs) d K) (hsp0 : sp 18446744073709551616 = 0) (hG : zz_GF z0 G) (hP : ∀ U, G U → zz_GD zS zS2 zLg z0 sp U) : zz_O l zTs D zcl zFK cy z0 sp (zTys cy) G "ToolMillLaw" mn 7 code d K 723 (za_const (.int (Int32.ofNat 1)) 724) := zo_iconst zd_900_723 (by decide)
theorem zd_900_724 : decode code 724 = .ok (.iadd, 1) := by decide +kernel
theorem zlw_724 {l : Launch} {D : va_G} {cy : Nat → ClassId} {z0 : Nat} {sp : Nat → Nat} {G : State → Prop} {mn : String} {d : Nat} {K : zz_K} (hKS : zz_KS l D zcl zFK cy z0 sp (zTys cy) G zYN (fun y => Cond.code (zYN y) (zCN y) (zMQ y) (zRT y) :: zTs) d K) (hsp0 : sp 18446744073709551616 = 0) (hG : zz_GF z0 G) (hP : ∀ U, G U → zz_GD zS zS2 zLg z0 sp U) : zz_O l zTs D zcl zFK cy z0 sp (zTys cy) G "ToolMillLaw" mn 7 code d K 724 (za_iadd 725) := zo_iadd zd_900_724
theorem zd_900_726 : decode code 726 = .ok (.aload_n 3, 1) := by decide +kernel
theorem zlw_726 {l : Launch} {D : va_G} {cy : Nat → ClassId} {z0 : Nat} {sp : Nat → Nat} {G : State → Prop} {mn : String} {d : Nat} {K : zz_K} (hKS : zz_KS l D zcl zFK cy z0 sp (zTys cy) G zYN (fun y => Cond.code (zYN y) (zCN y) (zMQ y) (zRT y) :: zTs) d K) (hsp0 : sp 18446744073709551616 = 0) (hG : zz_GF z0 G) (hP : ∀ U, G U → zz_GD zS zS2 zLg z0 sp U) : zz_O l zTs D zcl zFK cy z0 sp (zTys cy) G "ToolMillLaw" mn 7 code d K 726 (za_aload 3 727) := zo_aload_n zd_900_726 rfl
theorem zd_900_730 : decode code 730 = .ok (.istore 5, 2) := by decide +kernel
theorem zlw_730 {l : Launch} {D : va_G} {cy : Nat → ClassId} {z0 : Nat} {sp : Nat → Nat} {G : State → Prop} {mn : String} {d : Nat} {K : zz_K} (hKS : zz_KS l D zcl zFK cy z0 sp (zTys cy) G zYN (fun y => Cond.code (zYN y) (zCN y) (zMQ y) (zRT y) :: zTs) d K) (hsp0 : sp 18446744073709551616 = 0) (hG : zz_GF z0 G) (hP : ∀ U, G U → zz_GD zS zS2 zLg z0 sp U) : zz_O l zTs D zcl zFK cy z0 sp (zTys cy) G "ToolMillLaw" mn 7 code d K 730 (za_istore 5 732) := zo_istore zd_900_730 (by decide)
theorem zd_900_732 : decode code 732 = .ok (.aload_n 2, 1) := by decide +kernel
theorem zlw_732 {l : Launch} {D : va_G} {cy : Nat → ClassId} {z0 : Nat} {sp : Nat → Nat} {G : State → Prop} {mn : String} {d : Nat} {K : zz_K} (hKS : zz_KS l D zcl zFK cy z0 sp (zTys cy) G zYN (fun y => Cond.code (zYN y) (zCN y) (zMQ y) (zRT y) :: zTs) d K) (hsp0 : sp 18446744073709551616 = 0) (hG : zz_GF z0 G) (hP : ∀ U, G U → zz_GD zS zS2 zLg z0 sp U) : zz_O l zTs D zcl zFK cy z0 sp (zTys cy) G "ToolMillLaw" mn 7 code d K 732 (za_aload 2 733) := zo_aload_n zd_900_732 rfl
theorem zd_900_733 : decode code 733 = .ok (.aload_n 0, 1) := by decide +kernel
theorem zlw_733 {l : Launch} {D : va_G} {cy : Nat → ClassId} {z0 : Nat} {sp : Nat → Nat} {G : State → Prop} {mn : String} {d : Nat} {K : zz_K} (hKS : zz_KS l D zcl zFK cy z0 sp (zTys cy) G zYN (fun y => Cond.code (zYN y) (zCN y) (zMQ y) (zRT y) :: zTs) d K) (hsp0 : sp 18446744073709551616 = 0) (hG : zz_GF z0 G) (hP : ∀ U, G U → zz_GD zS zS2 zLg z0 sp U) : zz_O l zTs D zcl zFK cy z0 sp (zTys cy) G "ToolMillLaw" mn 7 code d K 733 (za_aload 0 734) := zo_aload_n zd_900_733 rfl
theorem zd_900_734 : decode code 734 = .ok (.iload 4, 2) := by decide +kernel
theorem zlw_734 {l : Launch} {D : va_G} {cy : Nat → ClassId} {z0 : Nat} {sp : Nat → Nat} {G : State → Prop} {mn : String} {d : Nat} {K : zz_K} (hKS : zz_KS l D zcl zFK cy z0 sp (zTys cy) G zYN (fun y => Cond.code (zYN y) (zCN y) (zMQ y) (zRT y) :: zTs) d K) (hsp0 : sp 18446744073709551616 = 0) (hG : zz_GF z0 G) (hP : ∀ U, G U → zz_GD zS zS2 zLg z0 sp U) : zz_O l zTs D zcl zFK cy z0 sp (zTys cy) G "ToolMillLaw" mn 7 code d K 734 (za_iload 4 736) := zo_iload zd_900_734
theorem zd_900_736 : decode code 736 = .ok (.iconst 1, 1) := by decide +kernel
theorem zlw_736 {l : Launch} {D : va_G} {cy : Nat → ClassId} {z0 : Nat} {sp : Nat → Nat} {G : State → Prop} {mn : String} {d : Nat} {K : zz_K} (hKS : zz_KS l D zcl zFK cy z0 sp (zTys cy) G zYN (fun y => Cond.code (zYN y) (zCN y) (zMQ y) (zRT y) :: zTs) d K) (hsp0 : sp 18446744073709551616 = 0) (hG : zz_GF z0 G) (hP : ∀ U, G U → zz_GD zS zS2 zLg z0 sp U) : zz_O l zTs D zcl zFK cy z0 sp (zTys cy) G "ToolMillLaw" mn 7 code d K 736 (za_const (.int (Int32.ofNat 1)) 737) := zo_iconst zd_900_736 (by decide)
theorem zd_900_737 : decode code 737 = .ok (.iadd, 1) := by decide +kernel
theorem zlw_737 {l : Launch} {D : va_G} {cy : Nat → ClassId} {z0 : Nat} {sp : Nat → Nat} {G : State → Prop} {mn : String} {d : Nat} {K : zz_K} (hKS : zz_KS l D zcl zFK cy z0 sp (zTys cy) G zYN (fun y => Cond.code (zYN y) (zCN y) (zMQ y) (zRT y) :: zTs) d K) (hsp0 : sp 18446744073709551616 = 0) (hG : zz_GF z0 G) (hP : ∀ U, G U → zz_GD zS zS2 zLg z0 sp U) : zz_O l zTs D zcl zFK cy z0 sp (zTys cy) G "ToolMillLaw" mn 7 code d K 737 (za_iadd 738) := zo_iadd zd_900_737
theorem zd_900_739 : decode code 739 = .ok (.invokevirtual 158, 3) := by decide +kernel
theorem zlw_739 {l : Launch} {D : va_G} {cy : Nat → ClassId} {z0 : Nat} {sp : Nat → Nat} {G : State → Prop} {mn : String} {d : Nat} {K : zz_K} (hKS : zz_KS l D zcl zFK cy z0 sp (zTys cy) G zYN (fun y => Cond.code (zYN y) (zCN y) (zMQ y) (zRT y) :: zTs) d K) (hsp0 : sp 18446744073709551616 = 0) (hG : zz_GF z0 G) (hP : ∀ U, G U → zz_GD zS zS2 zLg z0 sp U) : zz_O l zTs D zcl zFK cy z0 sp (zTys cy) G "ToolMillLaw" mn 7 code d K 739 (za_callV 0 42 1 742) := zcV_42 hKS hG zd_900_739 zw_3066
theorem zd_900_742 : decode code 742 = .ok (.istore 6, 2) := by decide +kernel
theorem zlw_742 {l : Launch} {D : va_G} {cy : Nat → ClassId} {z0 : Nat} {sp : Nat → Nat} {G : State → Prop} {mn : String} {d : Nat} {K : zz_K} (hKS : zz_KS l D zcl zFK cy z0 sp (zTys cy) G zYN (fun y => Cond.code (zYN y) (zCN y) (zMQ y) (zRT y) :: zTs) d K) (hsp0 : sp 18446744073709551616 = 0) (hG : zz_GF z0 G) (hP : ∀ U, G U → zz_GD zS zS2 zLg z0 sp U) : zz_O l zTs D zcl zFK cy z0 sp (zTys cy) G "ToolMillLaw" mn 7 code d K 742 (za_istore 6 744) := zo_istore zd_900_742 (by decide)
theorem zd_900_744 : decode code 744 = .ok (.goto 155, 3) := by decide +kernel
theorem zlw_744 {l : Launch} {D : va_G} {cy : Nat → ClassId} {z0 : Nat} {sp : Nat → Nat} {G : State → Prop} {mn : String} {d : Nat} {K : zz_K} (hKS : zz_KS l D zcl zFK cy z0 sp (zTys cy) G zYN (fun y => Cond.code (zYN y) (zCN y) (zMQ y) (zRT y) :: zTs) d K) (hsp0 : sp 18446744073709551616 = 0) (hG : zz_GF z0 G) (hP : ∀ U, G U → zz_GD zS zS2 zLg z0 sp U) : zz_O l zTs D zcl zFK cy z0 sp (zTys cy) G "ToolMillLaw" mn 7 code d K 744 (za_goto 899) := zo_goto zd_900_744 (by decide)
theorem zd_900_747 : decode code 747 = .ok (.aload_n 1, 1) := by decide +kernel
theorem zlw_747 {l : Launch} {D : va_G} {cy : Nat → ClassId} {z0 : Nat} {sp : Nat → Nat} {G : State → Prop} {mn : String} {d : Nat} {K : zz_K} (hKS : zz_KS l D zcl zFK cy z0 sp (zTys cy) G zYN (fun y => Cond.code (zYN y) (zCN y) (zMQ y) (zRT y) :: zTs) d K) (hsp0 : sp 18446744073709551616 = 0) (hG : zz_GF z0 G) (hP : ∀ U, G U → zz_GD zS zS2 zLg z0 sp U) : zz_O l zTs D zcl zFK cy z0 sp (zTys cy) G "ToolMillLaw" mn 7 code d K 747 (za_aload 1 748) := zo_aload_n zd_900_747 rfl
theorem zd_900_748 : decode code 748 = .ok (.aload_n 0, 1) := by decide +kernel
theorem zlw_748 {l : Launch} {D : va_G} {cy : Nat → ClassId} {z0 : Nat} {sp : Nat → Nat} {G : State → Prop} {mn : String} {d : Nat} {K : zz_K} (hKS : zz_KS l D zcl zFK cy z0 sp (zTys cy) G zYN (fun y => Cond.code (zYN y) (zCN y) (zMQ y) (zRT y) :: zTs) d K) (hsp0 : sp 18446744073709551616 = 0) (hG : zz_GF z0 G) (hP : ∀ U, G U → zz_GD zS zS2 zLg z0 sp U) : zz_O l zTs D zcl zFK cy z0 sp (zTys cy) G "ToolMillLaw" mn 7 code d K 748 (za_aload 0 749) := zo_aload_n zd_900_748 rfl
theorem zd_900_749 : decode code 749 = .ok (.iload 4, 2) := by decide +kernel
theorem zlw_749 {l : Launch} {D : va_G} {cy : Nat → ClassId} {z0 : Nat} {sp : Nat → Nat} {G : State → Prop} {mn : String} {d : Nat} {K : zz_K} (hKS : zz_KS l D zcl zFK cy z0 sp (zTys cy) G zYN (fun y => Cond.code (zYN y) (zCN y) (zMQ y) (zRT y) :: zTs) d K) (hsp0 : sp 18446744073709551616 = 0) (hG : zz_GF z0 G) (hP : ∀ U, G U → zz_GD zS zS2 zLg z0 sp U) : zz_O l zTs D zcl zFK cy z0 sp (zTys cy) G "ToolMillLaw" mn 7 code d K 749 (za_iload 4 751) := zo_iload zd_900_749
theorem zd_900_751 : decode code 751 = .ok (.iconst 1, 1) := by decide +kernel
theorem zlw_751 {l : Launch} {D : va_G} {cy : Nat → ClassId} {z0 : Nat} {sp : Nat → Nat} {G : State → Prop} {mn : String} {d : Nat} {K : zz_K} (hKS : zz_KS l D zcl zFK cy z0 sp (zTys cy) G zYN (fun y => Cond.code (zYN y) (zCN y) (zMQ y) (zRT y) :: zTs) d K) (hsp0 : sp 18446744073709551616 = 0) (hG : zz_GF z0 G) (hP : ∀ U, G U → zz_GD zS zS2 zLg z0 sp U) : zz_O l zTs D zcl zFK cy z0 sp (zTys cy) G "ToolMillLaw" mn 7 code d K 751 (za_const (.int (Int32.ofNat 1)) 752) := zo_iconst zd_900_751 (by decide)
theorem zd_900_752 : decode code 752 = .ok (.iadd, 1) := by decide +kernel
theorem zlw_752 {l : Launch} {D : va_G} {cy : Nat → ClassId} {z0 : Nat} {sp : Nat → Nat} {G : State → Prop} {mn : String} {d : Nat} {K : zz_K} (hKS : zz_KS l D zcl zFK cy z0 sp (zTys cy) G zYN (fun y => Cond.code (zYN y) (zCN y) (zMQ y) (zRT y) :: zTs) d K) (hsp0 : sp 18446744073709551616 = 0) (hG : zz_GF z0 G) (hP : ∀ U, G U → zz_GD zS zS2 zLg z0 sp U) : zz_O l zTs D zcl zFK cy z0 sp (zTys cy) G "ToolMillLaw" mn 7 code d K 752 (za_iadd 753) := zo_iadd zd_900_752
theorem zd_900_754 : decode code 754 = .ok (.aload_n 3, 1) := by decide +kernel
theorem zlw_754 {l : Launch} {D : va_G} {cy : Nat → ClassId} {z0 : Nat} {sp : Nat → Nat} {G : State → Prop} {mn : String} {d : Nat} {K : zz_K} (hKS : zz_KS l D zcl zFK cy z0 sp (zTys cy) G zYN (fun y => Cond.code (zYN y) (zCN y) (zMQ y) (zRT y) :: zTs) d K) (hsp0 : sp 18446744073709551616 = 0) (hG : zz_GF z0 G) (hP : ∀ U, G U → zz_GD zS zS2 zLg z0 sp U) : zz_O l zTs D zcl zFK cy z0 sp (zTys cy) G "ToolMillLaw" mn 7 code d K 754 (za_aload 3 755) := zo_aload_n zd_900_754 rfl
theorem zd_900_758 : decode code 758 = .ok (.istore 5, 2) := by decide +kernel
theorem zlw_758 {l : Launch} {D : va_G} {cy : Nat → ClassId} {z0 : Nat} {sp : Nat → Nat} {G : State → Prop} {mn : String} {d : Nat} {K : zz_K} (hKS : zz_KS l D zcl zFK cy z0 sp (zTys cy) G zYN (fun y => Cond.code (zYN y) (zCN y) (zMQ y) (zRT y) :: zTs) d K) (hsp0 : sp 18446744073709551616 = 0) (hG : zz_GF z0 G) (hP : ∀ U, G U → zz_GD zS zS2 zLg z0 sp U) : zz_O l zTs D zcl zFK cy z0 sp (zTys cy) G "ToolMillLaw" mn 7 code d K 758 (za_istore 5 760) := zo_istore zd_900_758 (by decide)
theorem zd_900_760 : decode code 760 = .ok (.aload_n 2, 1) := by decide +kernel
theorem zlw_760 {l : Launch} {D : va_G} {cy : Nat → ClassId} {z0 : Nat} {sp : Nat → Nat} {G : State → Prop} {mn : String} {d : Nat} {K : zz_K} (hKS : zz_KS l D zcl zFK cy z0 sp (zTys cy) G zYN (fun y => Cond.code (zYN y) (zCN y) (zMQ y) (zRT y) :: zTs) d K) (hsp0 : sp 18446744073709551616 = 0) (hG : zz_GF z0 G) (hP : ∀ U, G U → zz_GD zS zS2 zLg z0 sp U) : zz_O l zTs D zcl zFK cy z0 sp (zTys cy) G "ToolMillLaw" mn 7 code d K 760 (za_aload 2 761) := zo_aload_n zd_900_760 rfl
theorem zd_900_761 : decode code 761 = .ok (.aload_n 0, 1) := by decide +kernel
theorem zlw_761 {l : Launch} {D : va_G} {cy : Nat → ClassId} {z0 : Nat} {sp : Nat → Nat} {G : State → Prop} {mn : String} {d : Nat} {K : zz_K} (hKS : zz_KS l D zcl zFK cy z0 sp (zTys cy) G zYN (fun y => Cond.code (zYN y) (zCN y) (zMQ y) (zRT y) :: zTs) d K) (hsp0 : sp 18446744073709551616 = 0) (hG : zz_GF z0 G) (hP : ∀ U, G U → zz_GD zS zS2 zLg z0 sp U) : zz_O l zTs D zcl zFK cy z0 sp (zTys cy) G "ToolMillLaw" mn 7 code d K 761 (za_aload 0 762) := zo_aload_n zd_900_761 rfl
theorem zd_900_762 : decode code 762 = .ok (.iload 4, 2) := by decide +kernel
theorem zlw_762 {l : Launch} {D : va_G} {cy : Nat → ClassId} {z0 : Nat} {sp : Nat → Nat} {G : State → Prop} {mn : String} {d : Nat} {K : zz_K} (hKS : zz_KS l D zcl zFK cy z0 sp (zTys cy) G zYN (fun y => Cond.code (zYN y) (zCN y) (zMQ y) (zRT y) :: zTs) d K) (hsp0 : sp 18446744073709551616 = 0) (hG : zz_GF z0 G) (hP : ∀ U, G U → zz_GD zS zS2 zLg z0 sp U) : zz_O l zTs D zcl zFK cy z0 sp (zTys cy) G "ToolMillLaw" mn 7 code d K 762 (za_iload 4 764) := zo_iload zd_900_762
theorem zd_900_764 : decode code 764 = .ok (.iconst 1, 1) := by decide +kernel
theorem zlw_764 {l : Launch} {D : va_G} {cy : Nat → ClassId} {z0 : Nat} {sp : Nat → Nat} {G : State → Prop} {mn : String} {d : Nat} {K : zz_K} (hKS : zz_KS l D zcl zFK cy z0 sp (zTys cy) G zYN (fun y => Cond.code (zYN y) (zCN y) (zMQ y) (zRT y) :: zTs) d K) (hsp0 : sp 18446744073709551616 = 0) (hG : zz_GF z0 G) (hP : ∀ U, G U → zz_GD zS zS2 zLg z0 sp U) : zz_O l zTs D zcl zFK cy z0 sp (zTys cy) G "ToolMillLaw" mn 7 code d K 764 (za_const (.int (Int32.ofNat 1)) 765) := zo_iconst zd_900_764 (by decide)
theorem zd_900_765 : decode code 765 = .ok (.iadd, 1) := by decide +kernel
theorem zlw_765 {l : Launch} {D : va_G} {cy : Nat → ClassId} {z0 : Nat} {sp : Nat → Nat} {G : State → Prop} {mn : String} {d : Nat} {K : zz_K} (hKS : zz_KS l D zcl zFK cy z0 sp (zTys cy) G zYN (fun y => Cond.code (zYN y) (zCN y) (zMQ y) (zRT y) :: zTs) d K) (hsp0 : sp 18446744073709551616 = 0) (hG : zz_GF z0 G) (hP : ∀ U, G U → zz_GD zS zS2 zLg z0 sp U) : zz_O l zTs D zcl zFK cy z0 sp (zTys cy) G "ToolMillLaw" mn 7 code d K 765 (za_iadd 766) := zo_iadd zd_900_765
theorem zd_900_767 : decode code 767 = .ok (.invokevirtual 161, 3) := by decide +kernel
theorem zlw_767 {l : Launch} {D : va_G} {cy : Nat → ClassId} {z0 : Nat} {sp : Nat → Nat} {G : State → Prop} {mn : String} {d : Nat} {K : zz_K} (hKS : zz_KS l D zcl zFK cy z0 sp (zTys cy) G zYN (fun y => Cond.code (zYN y) (zCN y) (zMQ y) (zRT y) :: zTs) d K) (hsp0 : sp 18446744073709551616 = 0) (hG : zz_GF z0 G) (hP : ∀ U, G U → zz_GD zS zS2 zLg z0 sp U) : zz_O l zTs D zcl zFK cy z0 sp (zTys cy) G "ToolMillLaw" mn 7 code d K 767 (za_callV 0 43 1 770) := zcV_43 hKS hG zd_900_767 zw_3067
theorem zd_900_770 : decode code 770 = .ok (.istore 6, 2) := by decide +kernel
theorem zlw_770 {l : Launch} {D : va_G} {cy : Nat → ClassId} {z0 : Nat} {sp : Nat → Nat} {G : State → Prop} {mn : String} {d : Nat} {K : zz_K} (hKS : zz_KS l D zcl zFK cy z0 sp (zTys cy) G zYN (fun y => Cond.code (zYN y) (zCN y) (zMQ y) (zRT y) :: zTs) d K) (hsp0 : sp 18446744073709551616 = 0) (hG : zz_GF z0 G) (hP : ∀ U, G U → zz_GD zS zS2 zLg z0 sp U) : zz_O l zTs D zcl zFK cy z0 sp (zTys cy) G "ToolMillLaw" mn 7 code d K 770 (za_istore 6 772) := zo_istore zd_900_770 (by decide)
theorem zd_900_772 : decode code 772 = .ok (.goto 127, 3) := by decide +kernel
theorem zlw_772 {l : Launch} {D : va_G} {cy : Nat → ClassId} {z0 : Nat} {sp : Nat → Nat} {G : State → Prop} {mn : String} {d : Nat} {K : zz_K} (hKS : zz_KS l D zcl zFK cy z0 sp (zTys cy) G zYN (fun y => Cond.code (zYN y) (zCN y) (zMQ y) (zRT y) :: zTs) d K) (hsp0 : sp 18446744073709551616 = 0) (hG : zz_GF z0 G) (hP : ∀ U, G U → zz_GD zS zS2 zLg z0 sp U) : zz_O l zTs D zcl zFK cy z0 sp (zTys cy) G "ToolMillLaw" mn 7 code d K 772 (za_goto 899) := zo_goto zd_900_772 (by decide)
theorem zd_900_775 : decode code 775 = .ok (.aload_n 1, 1) := by decide +kernel
theorem zlw_775 {l : Launch} {D : va_G} {cy : Nat → ClassId} {z0 : Nat} {sp : Nat → Nat} {G : State → Prop} {mn : String} {d : Nat} {K : zz_K} (hKS : zz_KS l D zcl zFK cy z0 sp (zTys cy) G zYN (fun y => Cond.code (zYN y) (zCN y) (zMQ y) (zRT y) :: zTs) d K) (hsp0 : sp 18446744073709551616 = 0) (hG : zz_GF z0 G) (hP : ∀ U, G U → zz_GD zS zS2 zLg z0 sp U) : zz_O l zTs D zcl zFK cy z0 sp (zTys cy) G "ToolMillLaw" mn 7 code d K 775 (za_aload 1 776) := zo_aload_n zd_900_775 rfl
theorem zd_900_776 : decode code 776 = .ok (.aload_n 0, 1) := by decide +kernel
theorem zlw_776 {l : Launch} {D : va_G} {cy : Nat → ClassId} {z0 : Nat} {sp : Nat → Nat} {G : State → Prop} {mn : String} {d : Nat} {K : zz_K} (hKS : zz_KS l D zcl zFK cy z0 sp (zTys cy) G zYN (fun y => Cond.code (zYN y) (zCN y) (zMQ y) (zRT y) :: zTs) d K) (hsp0 : sp 18446744073709551616 = 0) (hG : zz_GF z0 G) (hP : ∀ U, G U → zz_GD zS zS2 zLg z0 sp U) : zz_O l zTs D zcl zFK cy z0 sp (zTys cy) G "ToolMillLaw" mn 7 code d K 776 (za_aload 0 777) := zo_aload_n zd_900_776 rfl
theorem zd_900_777 : decode code 777 = .ok (.iload 4, 2) := by decide +kernel
theorem zlw_777 {l : Launch} {D : va_G} {cy : Nat → ClassId} {z0 : Nat} {sp : Nat → Nat} {G : State → Prop} {mn : String} {d : Nat} {K : zz_K} (hKS : zz_KS l D zcl zFK cy z0 sp (zTys cy) G zYN (fun y => Cond.code (zYN y) (zCN y) (zMQ y) (zRT y) :: zTs) d K) (hsp0 : sp 18446744073709551616 = 0) (hG : zz_GF z0 G) (hP : ∀ U, G U → zz_GD zS zS2 zLg z0 sp U) : zz_O l zTs D zcl zFK cy z0 sp (zTys cy) G "ToolMillLaw" mn 7 code d K 777 (za_iload 4 779) := zo_iload zd_900_777
theorem zd_900_779 : decode code 779 = .ok (.iconst 1, 1) := by decide +kernel
theorem zlw_779 {l : Launch} {D : va_G} {cy : Nat → ClassId} {z0 : Nat} {sp : Nat → Nat} {G : State → Prop} {mn : String} {d : Nat} {K : zz_K} (hKS : zz_KS l D zcl zFK cy z0 sp (zTys cy) G zYN (fun y => Cond.code (zYN y) (zCN y) (zMQ y) (zRT y) :: zTs) d K) (hsp0 : sp 18446744073709551616 = 0) (hG : zz_GF z0 G) (hP : ∀ U, G U → zz_GD zS zS2 zLg z0 sp U) : zz_O l zTs D zcl zFK cy z0 sp (zTys cy) G "ToolMillLaw" mn 7 code d K 779 (za_const (.int (Int32.ofNat 1)) 780) := zo_iconst zd_900_779 (by decide)
theorem zd_900_780 : decode code 780 = .ok (.iadd, 1) := by decide +kernel
theorem zlw_780 {l : Launch} {D : va_G} {cy : Nat → ClassId} {z0 : Nat} {sp : Nat → Nat} {G : State → Prop} {mn : String} {d : Nat} {K : zz_K} (hKS : zz_KS l D zcl zFK cy z0 sp (zTys cy) G zYN (fun y => Cond.code (zYN y) (zCN y) (zMQ y) (zRT y) :: zTs) d K) (hsp0 : sp 18446744073709551616 = 0) (hG : zz_GF z0 G) (hP : ∀ U, G U → zz_GD zS zS2 zLg z0 sp U) : zz_O l zTs D zcl zFK cy z0 sp (zTys cy) G "ToolMillLaw" mn 7 code d K 780 (za_iadd 781) := zo_iadd zd_900_780
theorem zd_900_782 : decode code 782 = .ok (.aload_n 0, 1) := by decide +kernel
theorem zlw_782 {l : Launch} {D : va_G} {cy : Nat → ClassId} {z0 : Nat} {sp : Nat → Nat} {G : State → Prop} {mn : String} {d : Nat} {K : zz_K} (hKS : zz_KS l D zcl zFK cy z0 sp (zTys cy) G zYN (fun y => Cond.code (zYN y) (zCN y) (zMQ y) (zRT y) :: zTs) d K) (hsp0 : sp 18446744073709551616 = 0) (hG : zz_GF z0 G) (hP : ∀ U, G U → zz_GD zS zS2 zLg z0 sp U) : zz_O l zTs D zcl zFK cy z0 sp (zTys cy) G "ToolMillLaw" mn 7 code d K 782 (za_aload 0 783) := zo_aload_n zd_900_782 rfl
theorem zd_900_783 : decode code 783 = .ok (.iload 4, 2) := by decide +kernel
theorem zlw_783 {l : Launch} {D : va_G} {cy : Nat → ClassId} {z0 : Nat} {sp : Nat → Nat} {G : State → Prop} {mn : String} {d : Nat} {K : zz_K} (hKS : zz_KS l D zcl zFK cy z0 sp (zTys cy) G zYN (fun y => Cond.code (zYN y) (zCN y) (zMQ y) (zRT y) :: zTs) d K) (hsp0 : sp 18446744073709551616 = 0) (hG : zz_GF z0 G) (hP : ∀ U, G U → zz_GD zS zS2 zLg z0 sp U) : zz_O l zTs D zcl zFK cy z0 sp (zTys cy) G "ToolMillLaw" mn 7 code d K 783 (za_iload 4 785) := zo_iload zd_900_783
theorem zd_900_785 : decode code 785 = .ok (.iconst 2, 1) := by decide +kernel
theorem zlw_785 {l : Launch} {D : va_G} {cy : Nat → ClassId} {z0 : Nat} {sp : Nat → Nat} {G : State → Prop} {mn : String} {d : Nat} {K : zz_K} (hKS : zz_KS l D zcl zFK cy z0 sp (zTys cy) G zYN (fun y => Cond.code (zYN y) (zCN y) (zMQ y) (zRT y) :: zTs) d K) (hsp0 : sp 18446744073709551616 = 0) (hG : zz_GF z0 G) (hP : ∀ U, G U → zz_GD zS zS2 zLg z0 sp U) : zz_O l zTs D zcl zFK cy z0 sp (zTys cy) G "ToolMillLaw" mn 7 code d K 785 (za_const (.int (Int32.ofNat 2)) 786) := zo_iconst zd_900_785 (by decide)
theorem zd_900_786 : decode code 786 = .ok (.iadd, 1) := by decide +kernel
theorem zlw_786 {l : Launch} {D : va_G} {cy : Nat → ClassId} {z0 : Nat} {sp : Nat → Nat} {G : State → Prop} {mn : String} {d : Nat} {K : zz_K} (hKS : zz_KS l D zcl zFK cy z0 sp (zTys cy) G zYN (fun y => Cond.code (zYN y) (zCN y) (zMQ y) (zRT y) :: zTs) d K) (hsp0 : sp 18446744073709551616 = 0) (hG : zz_GF z0 G) (hP : ∀ U, G U → zz_GD zS zS2 zLg z0 sp U) : zz_O l zTs D zcl zFK cy z0 sp (zTys cy) G "ToolMillLaw" mn 7 code d K 786 (za_iadd 787) := zo_iadd zd_900_786
theorem zd_900_788 : decode code 788 = .ok (.aload_n 3, 1) := by decide +kernel
theorem zlw_788 {l : Launch} {D : va_G} {cy : Nat → ClassId} {z0 : Nat} {sp : Nat → Nat} {G : State → Prop} {mn : String} {d : Nat} {K : zz_K} (hKS : zz_KS l D zcl zFK cy z0 sp (zTys cy) G zYN (fun y => Cond.code (zYN y) (zCN y) (zMQ y) (zRT y) :: zTs) d K) (hsp0 : sp 18446744073709551616 = 0) (hG : zz_GF z0 G) (hP : ∀ U, G U → zz_GD zS zS2 zLg z0 sp U) : zz_O l zTs D zcl zFK cy z0 sp (zTys cy) G "ToolMillLaw" mn 7 code d K 788 (za_aload 3 789) := zo_aload_n zd_900_788 rfl
theorem zd_900_792 : decode code 792 = .ok (.istore 5, 2) := by decide +kernel
theorem zlw_792 {l : Launch} {D : va_G} {cy : Nat → ClassId} {z0 : Nat} {sp : Nat → Nat} {G : State → Prop} {mn : String} {d : Nat} {K : zz_K} (hKS : zz_KS l D zcl zFK cy z0 sp (zTys cy) G zYN (fun y => Cond.code (zYN y) (zCN y) (zMQ y) (zRT y) :: zTs) d K) (hsp0 : sp 18446744073709551616 = 0) (hG : zz_GF z0 G) (hP : ∀ U, G U → zz_GD zS zS2 zLg z0 sp U) : zz_O l zTs D zcl zFK cy z0 sp (zTys cy) G "ToolMillLaw" mn 7 code d K 792 (za_istore 5 794) := zo_istore zd_900_792 (by decide)
theorem zd_900_794 : decode code 794 = .ok (.aload_n 2, 1) := by decide +kernel
theorem zlw_794 {l : Launch} {D : va_G} {cy : Nat → ClassId} {z0 : Nat} {sp : Nat → Nat} {G : State → Prop} {mn : String} {d : Nat} {K : zz_K} (hKS : zz_KS l D zcl zFK cy z0 sp (zTys cy) G zYN (fun y => Cond.code (zYN y) (zCN y) (zMQ y) (zRT y) :: zTs) d K) (hsp0 : sp 18446744073709551616 = 0) (hG : zz_GF z0 G) (hP : ∀ U, G U → zz_GD zS zS2 zLg z0 sp U) : zz_O l zTs D zcl zFK cy z0 sp (zTys cy) G "ToolMillLaw" mn 7 code d K 794 (za_aload 2 795) := zo_aload_n zd_900_794 rfl
theorem zd_900_795 : decode code 795 = .ok (.aload_n 0, 1) := by decide +kernel
theorem zlw_795 {l : Launch} {D : va_G} {cy : Nat → ClassId} {z0 : Nat} {sp : Nat → Nat} {G : State → Prop} {mn : String} {d : Nat} {K : zz_K} (hKS : zz_KS l D zcl zFK cy z0 sp (zTys cy) G zYN (fun y => Cond.code (zYN y) (zCN y) (zMQ y) (zRT y) :: zTs) d K) (hsp0 : sp 18446744073709551616 = 0) (hG : zz_GF z0 G) (hP : ∀ U, G U → zz_GD zS zS2 zLg z0 sp U) : zz_O l zTs D zcl zFK cy z0 sp (zTys cy) G "ToolMillLaw" mn 7 code d K 795 (za_aload 0 796) := zo_aload_n zd_900_795 rfl
theorem zd_900_796 : decode code 796 = .ok (.iload 4, 2) := by decide +kernel
theorem zlw_796 {l : Launch} {D : va_G} {cy : Nat → ClassId} {z0 : Nat} {sp : Nat → Nat} {G : State → Prop} {mn : String} {d : Nat} {K : zz_K} (hKS : zz_KS l D zcl zFK cy z0 sp (zTys cy) G zYN (fun y => Cond.code (zYN y) (zCN y) (zMQ y) (zRT y) :: zTs) d K) (hsp0 : sp 18446744073709551616 = 0) (hG : zz_GF z0 G) (hP : ∀ U, G U → zz_GD zS zS2 zLg z0 sp U) : zz_O l zTs D zcl zFK cy z0 sp (zTys cy) G "ToolMillLaw" mn 7 code d K 796 (za_iload 4 798) := zo_iload zd_900_796
theorem zd_900_798 : decode code 798 = .ok (.iconst 1, 1) := by decide +kernel
theorem zlw_798 {l : Launch} {D : va_G} {cy : Nat → ClassId} {z0 : Nat} {sp : Nat → Nat} {G : State → Prop} {mn : String} {d : Nat} {K : zz_K} (hKS : zz_KS l D zcl zFK cy z0 sp (zTys cy) G zYN (fun y => Cond.code (zYN y) (zCN y) (zMQ y) (zRT y) :: zTs) d K) (hsp0 : sp 18446744073709551616 = 0) (hG : zz_GF z0 G) (hP : ∀ U, G U → zz_GD zS zS2 zLg z0 sp U) : zz_O l zTs D zcl zFK cy z0 sp (zTys cy) G "ToolMillLaw" mn 7 code d K 798 (za_const (.int (Int32.ofNat 1)) 799) := zo_iconst zd_900_798 (by decide)
theorem zd_900_799 : decode code 799 = .ok (.iadd, 1) := by decide +kernel
theorem zlw_799 {l : Launch} {D : va_G} {cy : Nat → ClassId} {z0 : Nat} {sp : Nat → Nat} {G : State → Prop} {mn : String} {d : Nat} {K : zz_K} (hKS : zz_KS l D zcl zFK cy z0 sp (zTys cy) G zYN (fun y => Cond.code (zYN y) (zCN y) (zMQ y) (zRT y) :: zTs) d K) (hsp0 : sp 18446744073709551616 = 0) (hG : zz_GF z0 G) (hP : ∀ U, G U → zz_GD zS zS2 zLg z0 sp U) : zz_O l zTs D zcl zFK cy z0 sp (zTys cy) G "ToolMillLaw" mn 7 code d K 799 (za_iadd 800) := zo_iadd zd_900_799
theorem zd_900_801 : decode code 801 = .ok (.aload_n 0, 1) := by decide +kernel
theorem zlw_801 {l : Launch} {D : va_G} {cy : Nat → ClassId} {z0 : Nat} {sp : Nat → Nat} {G : State → Prop} {mn : String} {d : Nat} {K : zz_K} (hKS : zz_KS l D zcl zFK cy z0 sp (zTys cy) G zYN (fun y => Cond.code (zYN y) (zCN y) (zMQ y) (zRT y) :: zTs) d K) (hsp0 : sp 18446744073709551616 = 0) (hG : zz_GF z0 G) (hP : ∀ U, G U → zz_GD zS zS2 zLg z0 sp U) : zz_O l zTs D zcl zFK cy z0 sp (zTys cy) G "ToolMillLaw" mn 7 code d K 801 (za_aload 0 802) := zo_aload_n zd_900_801 rfl
theorem zd_900_802 : decode code 802 = .ok (.iload 4, 2) := by decide +kernel
theorem zlw_802 {l : Launch} {D : va_G} {cy : Nat → ClassId} {z0 : Nat} {sp : Nat → Nat} {G : State → Prop} {mn : String} {d : Nat} {K : zz_K} (hKS : zz_KS l D zcl zFK cy z0 sp (zTys cy) G zYN (fun y => Cond.code (zYN y) (zCN y) (zMQ y) (zRT y) :: zTs) d K) (hsp0 : sp 18446744073709551616 = 0) (hG : zz_GF z0 G) (hP : ∀ U, G U → zz_GD zS zS2 zLg z0 sp U) : zz_O l zTs D zcl zFK cy z0 sp (zTys cy) G "ToolMillLaw" mn 7 code d K 802 (za_iload 4 804) := zo_iload zd_900_802
theorem zd_900_804 : decode code 804 = .ok (.iconst 2, 1) := by decide +kernel
theorem zlw_804 {l : Launch} {D : va_G} {cy : Nat → ClassId} {z0 : Nat} {sp : Nat → Nat} {G : State → Prop} {mn : String} {d : Nat} {K : zz_K} (hKS : zz_KS l D zcl zFK cy z0 sp (zTys cy) G zYN (fun y => Cond.code (zYN y) (zCN y) (zMQ y) (zRT y) :: zTs) d K) (hsp0 : sp 18446744073709551616 = 0) (hG : zz_GF z0 G) (hP : ∀ U, G U → zz_GD zS zS2 zLg z0 sp U) : zz_O l zTs D zcl zFK cy z0 sp (zTys cy) G "ToolMillLaw" mn 7 code d K 804 (za_const (.int (Int32.ofNat 2)) 805) := zo_iconst zd_900_804 (by decide)
theorem zd_900_805 : decode code 805 = .ok (.iadd, 1) := by decide +kernel
theorem zlw_805 {l : Launch} {D : va_G} {cy : Nat → ClassId} {z0 : Nat} {sp : Nat → Nat} {G : State → Prop} {mn : String} {d : Nat} {K : zz_K} (hKS : zz_KS l D zcl zFK cy z0 sp (zTys cy) G zYN (fun y => Cond.code (zYN y) (zCN y) (zMQ y) (zRT y) :: zTs) d K) (hsp0 : sp 18446744073709551616 = 0) (hG : zz_GF z0 G) (hP : ∀ U, G U → zz_GD zS zS2 zLg z0 sp U) : zz_O l zTs D zcl zFK cy z0 sp (zTys cy) G "ToolMillLaw" mn 7 code d K 805 (za_iadd 806) := zo_iadd zd_900_805
theorem zd_900_807 : decode code 807 = .ok (.invokevirtual 164, 3) := by decide +kernel
theorem zlw_807 {l : Launch} {D : va_G} {cy : Nat → ClassId} {z0 : Nat} {sp : Nat → Nat} {G : State → Prop} {mn : String} {d : Nat} {K : zz_K} (hKS : zz_KS l D zcl zFK cy z0 sp (zTys cy) G zYN (fun y => Cond.code (zYN y) (zCN y) (zMQ y) (zRT y) :: zTs) d K) (hsp0 : sp 18446744073709551616 = 0) (hG : zz_GF z0 G) (hP : ∀ U, G U → zz_GD zS zS2 zLg z0 sp U) : zz_O l zTs D zcl zFK cy z0 sp (zTys cy) G "ToolMillLaw" mn 7 code d K 807 (za_callV 0 44 2 810) := zcV_44 hKS hG zd_900_807 zw_3068
theorem zd_900_810 : decode code 810 = .ok (.istore 6, 2) := by decide +kernel
theorem zlw_810 {l : Launch} {D : va_G} {cy : Nat → ClassId} {z0 : Nat} {sp : Nat → Nat} {G : State → Prop} {mn : String} {d : Nat} {K : zz_K} (hKS : zz_KS l D zcl zFK cy z0 sp (zTys cy) G zYN (fun y => Cond.code (zYN y) (zCN y) (zMQ y) (zRT y) :: zTs) d K) (hsp0 : sp 18446744073709551616 = 0) (hG : zz_GF z0 G) (hP : ∀ U, G U → zz_GD zS zS2 zLg z0 sp U) : zz_O l zTs D zcl zFK cy z0 sp (zTys cy) G "ToolMillLaw" mn 7 code d K 810 (za_istore 6 812) := zo_istore zd_900_810 (by decide)
theorem zd_900_812 : decode code 812 = .ok (.goto 87, 3) := by decide +kernel
theorem zlw_812 {l : Launch} {D : va_G} {cy : Nat → ClassId} {z0 : Nat} {sp : Nat → Nat} {G : State → Prop} {mn : String} {d : Nat} {K : zz_K} (hKS : zz_KS l D zcl zFK cy z0 sp (zTys cy) G zYN (fun y => Cond.code (zYN y) (zCN y) (zMQ y) (zRT y) :: zTs) d K) (hsp0 : sp 18446744073709551616 = 0) (hG : zz_GF z0 G) (hP : ∀ U, G U → zz_GD zS zS2 zLg z0 sp U) : zz_O l zTs D zcl zFK cy z0 sp (zTys cy) G "ToolMillLaw" mn 7 code d K 812 (za_goto 899) := zo_goto zd_900_812 (by decide)
theorem zd_900_815 : decode code 815 = .ok (.aload_n 1, 1) := by decide +kernel
theorem zlw_815 {l : Launch} {D : va_G} {cy : Nat → ClassId} {z0 : Nat} {sp : Nat → Nat} {G : State → Prop} {mn : String} {d : Nat} {K : zz_K} (hKS : zz_KS l D zcl zFK cy z0 sp (zTys cy) G zYN (fun y => Cond.code (zYN y) (zCN y) (zMQ y) (zRT y) :: zTs) d K) (hsp0 : sp 18446744073709551616 = 0) (hG : zz_GF z0 G) (hP : ∀ U, G U → zz_GD zS zS2 zLg z0 sp U) : zz_O l zTs D zcl zFK cy z0 sp (zTys cy) G "ToolMillLaw" mn 7 code d K 815 (za_aload 1 816) := zo_aload_n zd_900_815 rfl
theorem zd_900_816 : decode code 816 = .ok (.aload_n 0, 1) := by decide +kernel
theorem zlw_816 {l : Launch} {D : va_G} {cy : Nat → ClassId} {z0 : Nat} {sp : Nat → Nat} {G : State → Prop} {mn : String} {d : Nat} {K : zz_K} (hKS : zz_KS l D zcl zFK cy z0 sp (zTys cy) G zYN (fun y => Cond.code (zYN y) (zCN y) (zMQ y) (zRT y) :: zTs) d K) (hsp0 : sp 18446744073709551616 = 0) (hG : zz_GF z0 G) (hP : ∀ U, G U → zz_GD zS zS2 zLg z0 sp U) : zz_O l zTs D zcl zFK cy z0 sp (zTys cy) G "ToolMillLaw" mn 7 code d K 816 (za_aload 0 817) := zo_aload_n zd_900_816 rfl
theorem zd_900_817 : decode code 817 = .ok (.iload 4, 2) := by decide +kernel
theorem zlw_817 {l : Launch} {D : va_G} {cy : Nat → ClassId} {z0 : Nat} {sp : Nat → Nat} {G : State → Prop} {mn : String} {d : Nat} {K : zz_K} (hKS : zz_KS l D zcl zFK cy z0 sp (zTys cy) G zYN (fun y => Cond.code (zYN y) (zCN y) (zMQ y) (zRT y) :: zTs) d K) (hsp0 : sp 18446744073709551616 = 0) (hG : zz_GF z0 G) (hP : ∀ U, G U → zz_GD zS zS2 zLg z0 sp U) : zz_O l zTs D zcl zFK cy z0 sp (zTys cy) G "ToolMillLaw" mn 7 code d K 817 (za_iload 4 819) := zo_iload zd_900_817
theorem zd_900_819 : decode code 819 = .ok (.iconst 1, 1) := by decide +kernel
theorem zlw_819 {l : Launch} {D : va_G} {cy : Nat → ClassId} {z0 : Nat} {sp : Nat → Nat} {G : State → Prop} {mn : String} {d : Nat} {K : zz_K} (hKS : zz_KS l D zcl zFK cy z0 sp (zTys cy) G zYN (fun y => Cond.code (zYN y) (zCN y) (zMQ y) (zRT y) :: zTs) d K) (hsp0 : sp 18446744073709551616 = 0) (hG : zz_GF z0 G) (hP : ∀ U, G U → zz_GD zS zS2 zLg z0 sp U) : zz_O l zTs D zcl zFK cy z0 sp (zTys cy) G "ToolMillLaw" mn 7 code d K 819 (za_const (.int (Int32.ofNat 1)) 820) := zo_iconst zd_900_819 (by decide)
theorem zd_900_820 : decode code 820 = .ok (.iadd, 1) := by decide +kernel
theorem zlw_820 {l : Launch} {D : va_G} {cy : Nat → ClassId} {z0 : Nat} {sp : Nat → Nat} {G : State → Prop} {mn : String} {d : Nat} {K : zz_K} (hKS : zz_KS l D zcl zFK cy z0 sp (zTys cy) G zYN (fun y => Cond.code (zYN y) (zCN y) (zMQ y) (zRT y) :: zTs) d K) (hsp0 : sp 18446744073709551616 = 0) (hG : zz_GF z0 G) (hP : ∀ U, G U → zz_GD zS zS2 zLg z0 sp U) : zz_O l zTs D zcl zFK cy z0 sp (zTys cy) G "ToolMillLaw" mn 7 code d K 820 (za_iadd 821) := zo_iadd zd_900_820
theorem zd_900_822 : decode code 822 = .ok (.aload_n 3, 1) := by decide +kernel
theorem zlw_822 {l : Launch} {D : va_G} {cy : Nat → ClassId} {z0 : Nat} {sp : Nat → Nat} {G : State → Prop} {mn : String} {d : Nat} {K : zz_K} (hKS : zz_KS l D zcl zFK cy z0 sp (zTys cy) G zYN (fun y => Cond.code (zYN y) (zCN y) (zMQ y) (zRT y) :: zTs) d K) (hsp0 : sp 18446744073709551616 = 0) (hG : zz_GF z0 G) (hP : ∀ U, G U → zz_GD zS zS2 zLg z0 sp U) : zz_O l zTs D zcl zFK cy z0 sp (zTys cy) G "ToolMillLaw" mn 7 code d K 822 (za_aload 3 823) := zo_aload_n zd_900_822 rfl
theorem zd_900_826 : decode code 826 = .ok (.istore 5, 2) := by decide +kernel
theorem zlw_826 {l : Launch} {D : va_G} {cy : Nat → ClassId} {z0 : Nat} {sp : Nat → Nat} {G : State → Prop} {mn : String} {d : Nat} {K : zz_K} (hKS : zz_KS l D zcl zFK cy z0 sp (zTys cy) G zYN (fun y => Cond.code (zYN y) (zCN y) (zMQ y) (zRT y) :: zTs) d K) (hsp0 : sp 18446744073709551616 = 0) (hG : zz_GF z0 G) (hP : ∀ U, G U → zz_GD zS zS2 zLg z0 sp U) : zz_O l zTs D zcl zFK cy z0 sp (zTys cy) G "ToolMillLaw" mn 7 code d K 826 (za_istore 5 828) := zo_istore zd_900_826 (by decide)
theorem zd_900_828 : decode code 828 = .ok (.aload_n 2, 1) := by decide +kernel
theorem zlw_828 {l : Launch} {D : va_G} {cy : Nat → ClassId} {z0 : Nat} {sp : Nat → Nat} {G : State → Prop} {mn : String} {d : Nat} {K : zz_K} (hKS : zz_KS l D zcl zFK cy z0 sp (zTys cy) G zYN (fun y => Cond.code (zYN y) (zCN y) (zMQ y) (zRT y) :: zTs) d K) (hsp0 : sp 18446744073709551616 = 0) (hG : zz_GF z0 G) (hP : ∀ U, G U → zz_GD zS zS2 zLg z0 sp U) : zz_O l zTs D zcl zFK cy z0 sp (zTys cy) G "ToolMillLaw" mn 7 code d K 828 (za_aload 2 829) := zo_aload_n zd_900_828 rfl
theorem zd_900_829 : decode code 829 = .ok (.aload_n 0, 1) := by decide +kernel
theorem zlw_829 {l : Launch} {D : va_G} {cy : Nat → ClassId} {z0 : Nat} {sp : Nat → Nat} {G : State → Prop} {mn : String} {d : Nat} {K : zz_K} (hKS : zz_KS l D zcl zFK cy z0 sp (zTys cy) G zYN (fun y => Cond.code (zYN y) (zCN y) (zMQ y) (zRT y) :: zTs) d K) (hsp0 : sp 18446744073709551616 = 0) (hG : zz_GF z0 G) (hP : ∀ U, G U → zz_GD zS zS2 zLg z0 sp U) : zz_O l zTs D zcl zFK cy z0 sp (zTys cy) G "ToolMillLaw" mn 7 code d K 829 (za_aload 0 830) := zo_aload_n zd_900_829 rfl
theorem zd_900_830 : decode code 830 = .ok (.iload 4, 2) := by decide +kernel
theorem zlw_830 {l : Launch} {D : va_G} {cy : Nat → ClassId} {z0 : Nat} {sp : Nat → Nat} {G : State → Prop} {mn : String} {d : Nat} {K : zz_K} (hKS : zz_KS l D zcl zFK cy z0 sp (zTys cy) G zYN (fun y => Cond.code (zYN y) (zCN y) (zMQ y) (zRT y) :: zTs) d K) (hsp0 : sp 18446744073709551616 = 0) (hG : zz_GF z0 G) (hP : ∀ U, G U → zz_GD zS zS2 zLg z0 sp U) : zz_O l zTs D zcl zFK cy z0 sp (zTys cy) G "ToolMillLaw" mn 7 code d K 830 (za_iload 4 832) := zo_iload zd_900_830
theorem zd_900_832 : decode code 832 = .ok (.iconst 1, 1) := by decide +kernel
theorem zlw_832 {l : Launch} {D : va_G} {cy : Nat → ClassId} {z0 : Nat} {sp : Nat → Nat} {G : State → Prop} {mn : String} {d : Nat} {K : zz_K} (hKS : zz_KS l D zcl zFK cy z0 sp (zTys cy) G zYN (fun y => Cond.code (zYN y) (zCN y) (zMQ y) (zRT y) :: zTs) d K) (hsp0 : sp 18446744073709551616 = 0) (hG : zz_GF z0 G) (hP : ∀ U, G U → zz_GD zS zS2 zLg z0 sp U) : zz_O l zTs D zcl zFK cy z0 sp (zTys cy) G "ToolMillLaw" mn 7 code d K 832 (za_const (.int (Int32.ofNat 1)) 833) := zo_iconst zd_900_832 (by decide)
theorem zd_900_833 : decode code 833 = .ok (.iadd, 1) := by decide +kernel
theorem zlw_833 {l : Launch} {D : va_G} {cy : Nat → ClassId} {z0 : Nat} {sp : Nat → Nat} {G : State → Prop} {mn : String} {d : Nat} {K : zz_K} (hKS : zz_KS l D zcl zFK cy z0 sp (zTys cy) G zYN (fun y => Cond.code (zYN y) (zCN y) (zMQ y) (zRT y) :: zTs) d K) (hsp0 : sp 18446744073709551616 = 0) (hG : zz_GF z0 G) (hP : ∀ U, G U → zz_GD zS zS2 zLg z0 sp U) : zz_O l zTs D zcl zFK cy z0 sp (zTys cy) G "ToolMillLaw" mn 7 code d K 833 (za_iadd 834) := zo_iadd zd_900_833
theorem zd_900_835 : decode code 835 = .ok (.invokevirtual 167, 3) := by decide +kernel
theorem zlw_835 {l : Launch} {D : va_G} {cy : Nat → ClassId} {z0 : Nat} {sp : Nat → Nat} {G : State → Prop} {mn : String} {d : Nat} {K : zz_K} (hKS : zz_KS l D zcl zFK cy z0 sp (zTys cy) G zYN (fun y => Cond.code (zYN y) (zCN y) (zMQ y) (zRT y) :: zTs) d K) (hsp0 : sp 18446744073709551616 = 0) (hG : zz_GF z0 G) (hP : ∀ U, G U → zz_GD zS zS2 zLg z0 sp U) : zz_O l zTs D zcl zFK cy z0 sp (zTys cy) G "ToolMillLaw" mn 7 code d K 835 (za_callV 0 45 1 838) := zcV_45 hKS hG zd_900_835 zw_3069
theorem zd_900_838 : decode code 838 = .ok (.istore 6, 2) := by decide +kernel
theorem zlw_838 {l : Launch} {D : va_G} {cy : Nat → ClassId} {z0 : Nat} {sp : Nat → Nat} {G : State → Prop} {mn : String} {d : Nat} {K : zz_K} (hKS : zz_KS l D zcl zFK cy z0 sp (zTys cy) G zYN (fun y => Cond.code (zYN y) (zCN y) (zMQ y) (zRT y) :: zTs) d K) (hsp0 : sp 18446744073709551616 = 0) (hG : zz_GF z0 G) (hP : ∀ U, G U → zz_GD zS zS2 zLg z0 sp U) : zz_O l zTs D zcl zFK cy z0 sp (zTys cy) G "ToolMillLaw" mn 7 code d K 838 (za_istore 6 840) := zo_istore zd_900_838 (by decide)
theorem zd_900_840 : decode code 840 = .ok (.goto 59, 3) := by decide +kernel
theorem zlw_840 {l : Launch} {D : va_G} {cy : Nat → ClassId} {z0 : Nat} {sp : Nat → Nat} {G : State → Prop} {mn : String} {d : Nat} {K : zz_K} (hKS : zz_KS l D zcl zFK cy z0 sp (zTys cy) G zYN (fun y => Cond.code (zYN y) (zCN y) (zMQ y) (zRT y) :: zTs) d K) (hsp0 : sp 18446744073709551616 = 0) (hG : zz_GF z0 G) (hP : ∀ U, G U → zz_GD zS zS2 zLg z0 sp U) : zz_O l zTs D zcl zFK cy z0 sp (zTys cy) G "ToolMillLaw" mn 7 code d K 840 (za_goto 899) := zo_goto zd_900_840 (by decide)
theorem zd_900_843 : decode code 843 = .ok (.aload_n 1, 1) := by decide +kernel
theorem zlw_843 {l : Launch} {D : va_G} {cy : Nat → ClassId} {z0 : Nat} {sp : Nat → Nat} {G : State → Prop} {mn : String} {d : Nat} {K : zz_K} (hKS : zz_KS l D zcl zFK cy z0 sp (zTys cy) G zYN (fun y => Cond.code (zYN y) (zCN y) (zMQ y) (zRT y) :: zTs) d K) (hsp0 : sp 18446744073709551616 = 0) (hG : zz_GF z0 G) (hP : ∀ U, G U → zz_GD zS zS2 zLg z0 sp U) : zz_O l zTs D zcl zFK cy z0 sp (zTys cy) G "ToolMillLaw" mn 7 code d K 843 (za_aload 1 844) := zo_aload_n zd_900_843 rfl
theorem zd_900_844 : decode code 844 = .ok (.aload_n 0, 1) := by decide +kernel
theorem zlw_844 {l : Launch} {D : va_G} {cy : Nat → ClassId} {z0 : Nat} {sp : Nat → Nat} {G : State → Prop} {mn : String} {d : Nat} {K : zz_K} (hKS : zz_KS l D zcl zFK cy z0 sp (zTys cy) G zYN (fun y => Cond.code (zYN y) (zCN y) (zMQ y) (zRT y) :: zTs) d K) (hsp0 : sp 18446744073709551616 = 0) (hG : zz_GF z0 G) (hP : ∀ U, G U → zz_GD zS zS2 zLg z0 sp U) : zz_O l zTs D zcl zFK cy z0 sp (zTys cy) G "ToolMillLaw" mn 7 code d K 844 (za_aload 0 845) := zo_aload_n zd_900_844 rfl
theorem zd_900_845 : decode code 845 = .ok (.iload 4, 2) := by decide +kernel
theorem zlw_845 {l : Launch} {D : va_G} {cy : Nat → ClassId} {z0 : Nat} {sp : Nat → Nat} {G : State → Prop} {mn : String} {d : Nat} {K : zz_K} (hKS : zz_KS l D zcl zFK cy z0 sp (zTys cy) G zYN (fun y => Cond.code (zYN y) (zCN y) (zMQ y) (zRT y) :: zTs) d K) (hsp0 : sp 18446744073709551616 = 0) (hG : zz_GF z0 G) (hP : ∀ U, G U → zz_GD zS zS2 zLg z0 sp U) : zz_O l zTs D zcl zFK cy z0 sp (zTys cy) G "ToolMillLaw" mn 7 code d K 845 (za_iload 4 847) := zo_iload zd_900_845
theorem zd_900_847 : decode code 847 = .ok (.iconst 1, 1) := by decide +kernel
theorem zlw_847 {l : Launch} {D : va_G} {cy : Nat → ClassId} {z0 : Nat} {sp : Nat → Nat} {G : State → Prop} {mn : String} {d : Nat} {K : zz_K} (hKS : zz_KS l D zcl zFK cy z0 sp (zTys cy) G zYN (fun y => Cond.code (zYN y) (zCN y) (zMQ y) (zRT y) :: zTs) d K) (hsp0 : sp 18446744073709551616 = 0) (hG : zz_GF z0 G) (hP : ∀ U, G U → zz_GD zS zS2 zLg z0 sp U) : zz_O l zTs D zcl zFK cy z0 sp (zTys cy) G "ToolMillLaw" mn 7 code d K 847 (za_const (.int (Int32.ofNat 1)) 848) := zo_iconst zd_900_847 (by decide)
theorem zd_900_848 : decode code 848 = .ok (.iadd, 1) := by decide +kernel
theorem zlw_848 {l : Launch} {D : va_G} {cy : Nat → ClassId} {z0 : Nat} {sp : Nat → Nat} {G : State → Prop} {mn : String} {d : Nat} {K : zz_K} (hKS : zz_KS l D zcl zFK cy z0 sp (zTys cy) G zYN (fun y => Cond.code (zYN y) (zCN y) (zMQ y) (zRT y) :: zTs) d K) (hsp0 : sp 18446744073709551616 = 0) (hG : zz_GF z0 G) (hP : ∀ U, G U → zz_GD zS zS2 zLg z0 sp U) : zz_O l zTs D zcl zFK cy z0 sp (zTys cy) G "ToolMillLaw" mn 7 code d K 848 (za_iadd 849) := zo_iadd zd_900_848
theorem zd_900_850 : decode code 850 = .ok (.aload_n 3, 1) := by decide +kernel
theorem zlw_850 {l : Launch} {D : va_G} {cy : Nat → ClassId} {z0 : Nat} {sp : Nat → Nat} {G : State → Prop} {mn : String} {d : Nat} {K : zz_K} (hKS : zz_KS l D zcl zFK cy z0 sp (zTys cy) G zYN (fun y => Cond.code (zYN y) (zCN y) (zMQ y) (zRT y) :: zTs) d K) (hsp0 : sp 18446744073709551616 = 0) (hG : zz_GF z0 G) (hP : ∀ U, G U → zz_GD zS zS2 zLg z0 sp U) : zz_O l zTs D zcl zFK cy z0 sp (zTys cy) G "ToolMillLaw" mn 7 code d K 850 (za_aload 3 851) := zo_aload_n zd_900_850 rfl
theorem zd_900_854 : decode code 854 = .ok (.istore 5, 2) := by decide +kernel
theorem zlw_854 {l : Launch} {D : va_G} {cy : Nat → ClassId} {z0 : Nat} {sp : Nat → Nat} {G : State → Prop} {mn : String} {d : Nat} {K : zz_K} (hKS : zz_KS l D zcl zFK cy z0 sp (zTys cy) G zYN (fun y => Cond.code (zYN y) (zCN y) (zMQ y) (zRT y) :: zTs) d K) (hsp0 : sp 18446744073709551616 = 0) (hG : zz_GF z0 G) (hP : ∀ U, G U → zz_GD zS zS2 zLg z0 sp U) : zz_O l zTs D zcl zFK cy z0 sp (zTys cy) G "ToolMillLaw" mn 7 code d K 854 (za_istore 5 856) := zo_istore zd_900_854 (by decide)
theorem zd_900_856 : decode code 856 = .ok (.aload_n 2, 1) := by decide +kernel
theorem zlw_856 {l : Launch} {D : va_G} {cy : Nat → ClassId} {z0 : Nat} {sp : Nat → Nat} {G : State → Prop} {mn : String} {d : Nat} {K : zz_K} (hKS : zz_KS l D zcl zFK cy z0 sp (zTys cy) G zYN (fun y => Cond.code (zYN y) (zCN y) (zMQ y) (zRT y) :: zTs) d K) (hsp0 : sp 18446744073709551616 = 0) (hG : zz_GF z0 G) (hP : ∀ U, G U → zz_GD zS zS2 zLg z0 sp U) : zz_O l zTs D zcl zFK cy z0 sp (zTys cy) G "ToolMillLaw" mn 7 code d K 856 (za_aload 2 857) := zo_aload_n zd_900_856 rfl
theorem zd_900_857 : decode code 857 = .ok (.aload_n 0, 1) := by decide +kernel
theorem zlw_857 {l : Launch} {D : va_G} {cy : Nat → ClassId} {z0 : Nat} {sp : Nat → Nat} {G : State → Prop} {mn : String} {d : Nat} {K : zz_K} (hKS : zz_KS l D zcl zFK cy z0 sp (zTys cy) G zYN (fun y => Cond.code (zYN y) (zCN y) (zMQ y) (zRT y) :: zTs) d K) (hsp0 : sp 18446744073709551616 = 0) (hG : zz_GF z0 G) (hP : ∀ U, G U → zz_GD zS zS2 zLg z0 sp U) : zz_O l zTs D zcl zFK cy z0 sp (zTys cy) G "ToolMillLaw" mn 7 code d K 857 (za_aload 0 858) := zo_aload_n zd_900_857 rfl
theorem zd_900_858 : decode code 858 = .ok (.iload 4, 2) := by decide +kernel
theorem zlw_858 {l : Launch} {D : va_G} {cy : Nat → ClassId} {z0 : Nat} {sp : Nat → Nat} {G : State → Prop} {mn : String} {d : Nat} {K : zz_K} (hKS : zz_KS l D zcl zFK cy z0 sp (zTys cy) G zYN (fun y => Cond.code (zYN y) (zCN y) (zMQ y) (zRT y) :: zTs) d K) (hsp0 : sp 18446744073709551616 = 0) (hG : zz_GF z0 G) (hP : ∀ U, G U → zz_GD zS zS2 zLg z0 sp U) : zz_O l zTs D zcl zFK cy z0 sp (zTys cy) G "ToolMillLaw" mn 7 code d K 858 (za_iload 4 860) := zo_iload zd_900_858
theorem zd_900_860 : decode code 860 = .ok (.iconst 1, 1) := by decide +kernel
theorem zlw_860 {l : Launch} {D : va_G} {cy : Nat → ClassId} {z0 : Nat} {sp : Nat → Nat} {G : State → Prop} {mn : String} {d : Nat} {K : zz_K} (hKS : zz_KS l D zcl zFK cy z0 sp (zTys cy) G zYN (fun y => Cond.code (zYN y) (zCN y) (zMQ y) (zRT y) :: zTs) d K) (hsp0 : sp 18446744073709551616 = 0) (hG : zz_GF z0 G) (hP : ∀ U, G U → zz_GD zS zS2 zLg z0 sp U) : zz_O l zTs D zcl zFK cy z0 sp (zTys cy) G "ToolMillLaw" mn 7 code d K 860 (za_const (.int (Int32.ofNat 1)) 861) := zo_iconst zd_900_860 (by decide)
theorem zd_900_861 : decode code 861 = .ok (.iadd, 1) := by decide +kernel
theorem zlw_861 {l : Launch} {D : va_G} {cy : Nat → ClassId} {z0 : Nat} {sp : Nat → Nat} {G : State → Prop} {mn : String} {d : Nat} {K : zz_K} (hKS : zz_KS l D zcl zFK cy z0 sp (zTys cy) G zYN (fun y => Cond.code (zYN y) (zCN y) (zMQ y) (zRT y) :: zTs) d K) (hsp0 : sp 18446744073709551616 = 0) (hG : zz_GF z0 G) (hP : ∀ U, G U → zz_GD zS zS2 zLg z0 sp U) : zz_O l zTs D zcl zFK cy z0 sp (zTys cy) G "ToolMillLaw" mn 7 code d K 861 (za_iadd 862) := zo_iadd zd_900_861
theorem zd_900_863 : decode code 863 = .ok (.invokevirtual 170, 3) := by decide +kernel
theorem zlw_863 {l : Launch} {D : va_G} {cy : Nat → ClassId} {z0 : Nat} {sp : Nat → Nat} {G : State → Prop} {mn : String} {d : Nat} {K : zz_K} (hKS : zz_KS l D zcl zFK cy z0 sp (zTys cy) G zYN (fun y => Cond.code (zYN y) (zCN y) (zMQ y) (zRT y) :: zTs) d K) (hsp0 : sp 18446744073709551616 = 0) (hG : zz_GF z0 G) (hP : ∀ U, G U → zz_GD zS zS2 zLg z0 sp U) : zz_O l zTs D zcl zFK cy z0 sp (zTys cy) G "ToolMillLaw" mn 7 code d K 863 (za_callV 0 46 1 866) := zcV_46 hKS hG zd_900_863 zw_3070
theorem zd_900_866 : decode code 866 = .ok (.istore 6, 2) := by decide +kernel
theorem zlw_866 {l : Launch} {D : va_G} {cy : Nat → ClassId} {z0 : Nat} {sp : Nat → Nat} {G : State → Prop} {mn : String} {d : Nat} {K : zz_K} (hKS : zz_KS l D zcl zFK cy z0 sp (zTys cy) G zYN (fun y => Cond.code (zYN y) (zCN y) (zMQ y) (zRT y) :: zTs) d K) (hsp0 : sp 18446744073709551616 = 0) (hG : zz_GF z0 G) (hP : ∀ U, G U → zz_GD zS zS2 zLg z0 sp U) : zz_O l zTs D zcl zFK cy z0 sp (zTys cy) G "ToolMillLaw" mn 7 code d K 866 (za_istore 6 868) := zo_istore zd_900_866 (by decide)
theorem zd_900_868 : decode code 868 = .ok (.goto 31, 3) := by decide +kernel
theorem zlw_868 {l : Launch} {D : va_G} {cy : Nat → ClassId} {z0 : Nat} {sp : Nat → Nat} {G : State → Prop} {mn : String} {d : Nat} {K : zz_K} (hKS : zz_KS l D zcl zFK cy z0 sp (zTys cy) G zYN (fun y => Cond.code (zYN y) (zCN y) (zMQ y) (zRT y) :: zTs) d K) (hsp0 : sp 18446744073709551616 = 0) (hG : zz_GF z0 G) (hP : ∀ U, G U → zz_GD zS zS2 zLg z0 sp U) : zz_O l zTs D zcl zFK cy z0 sp (zTys cy) G "ToolMillLaw" mn 7 code d K 868 (za_goto 899) := zo_goto zd_900_868 (by decide)
theorem zd_900_871 : decode code 871 = .ok (.aload_n 1, 1) := by decide +kernel
theorem zlw_871 {l : Launch} {D : va_G} {cy : Nat → ClassId} {z0 : Nat} {sp : Nat → Nat} {G : State → Prop} {mn : String} {d : Nat} {K : zz_K} (hKS : zz_KS l D zcl zFK cy z0 sp (zTys cy) G zYN (fun y => Cond.code (zYN y) (zCN y) (zMQ y) (zRT y) :: zTs) d K) (hsp0 : sp 18446744073709551616 = 0) (hG : zz_GF z0 G) (hP : ∀ U, G U → zz_GD zS zS2 zLg z0 sp U) : zz_O l zTs D zcl zFK cy z0 sp (zTys cy) G "ToolMillLaw" mn 7 code d K 871 (za_aload 1 872) := zo_aload_n zd_900_871 rfl
theorem zd_900_872 : decode code 872 = .ok (.aload_n 0, 1) := by decide +kernel
theorem zlw_872 {l : Launch} {D : va_G} {cy : Nat → ClassId} {z0 : Nat} {sp : Nat → Nat} {G : State → Prop} {mn : String} {d : Nat} {K : zz_K} (hKS : zz_KS l D zcl zFK cy z0 sp (zTys cy) G zYN (fun y => Cond.code (zYN y) (zCN y) (zMQ y) (zRT y) :: zTs) d K) (hsp0 : sp 18446744073709551616 = 0) (hG : zz_GF z0 G) (hP : ∀ U, G U → zz_GD zS zS2 zLg z0 sp U) : zz_O l zTs D zcl zFK cy z0 sp (zTys cy) G "ToolMillLaw" mn 7 code d K 872 (za_aload 0 873) := zo_aload_n zd_900_872 rfl
theorem zd_900_873 : decode code 873 = .ok (.iload 4, 2) := by decide +kernel
theorem zlw_873 {l : Launch} {D : va_G} {cy : Nat → ClassId} {z0 : Nat} {sp : Nat → Nat} {G : State → Prop} {mn : String} {d : Nat} {K : zz_K} (hKS : zz_KS l D zcl zFK cy z0 sp (zTys cy) G zYN (fun y => Cond.code (zYN y) (zCN y) (zMQ y) (zRT y) :: zTs) d K) (hsp0 : sp 18446744073709551616 = 0) (hG : zz_GF z0 G) (hP : ∀ U, G U → zz_GD zS zS2 zLg z0 sp U) : zz_O l zTs D zcl zFK cy z0 sp (zTys cy) G "ToolMillLaw" mn 7 code d K 873 (za_iload 4 875) := zo_iload zd_900_873
theorem zd_900_875 : decode code 875 = .ok (.iconst 1, 1) := by decide +kernel
theorem zlw_875 {l : Launch} {D : va_G} {cy : Nat → ClassId} {z0 : Nat} {sp : Nat → Nat} {G : State → Prop} {mn : String} {d : Nat} {K : zz_K} (hKS : zz_KS l D zcl zFK cy z0 sp (zTys cy) G zYN (fun y => Cond.code (zYN y) (zCN y) (zMQ y) (zRT y) :: zTs) d K) (hsp0 : sp 18446744073709551616 = 0) (hG : zz_GF z0 G) (hP : ∀ U, G U → zz_GD zS zS2 zLg z0 sp U) : zz_O l zTs D zcl zFK cy z0 sp (zTys cy) G "ToolMillLaw" mn 7 code d K 875 (za_const (.int (Int32.ofNat 1)) 876) := zo_iconst zd_900_875 (by decide)
theorem zd_900_876 : decode code 876 = .ok (.iadd, 1) := by decide +kernel
theorem zlw_876 {l : Launch} {D : va_G} {cy : Nat → ClassId} {z0 : Nat} {sp : Nat → Nat} {G : State → Prop} {mn : String} {d : Nat} {K : zz_K} (hKS : zz_KS l D zcl zFK cy z0 sp (zTys cy) G zYN (fun y => Cond.code (zYN y) (zCN y) (zMQ y) (zRT y) :: zTs) d K) (hsp0 : sp 18446744073709551616 = 0) (hG : zz_GF z0 G) (hP : ∀ U, G U → zz_GD zS zS2 zLg z0 sp U) : zz_O l zTs D zcl zFK cy z0 sp (zTys cy) G "ToolMillLaw" mn 7 code d K 876 (za_iadd 877) := zo_iadd zd_900_876
theorem zd_900_878 : decode code 878 = .ok (.aload_n 3, 1) := by decide +kernel
theorem zlw_878 {l : Launch} {D : va_G} {cy : Nat → ClassId} {z0 : Nat} {sp : Nat → Nat} {G : State → Prop} {mn : String} {d : Nat} {K : zz_K} (hKS : zz_KS l D zcl zFK cy z0 sp (zTys cy) G zYN (fun y => Cond.code (zYN y) (zCN y) (zMQ y) (zRT y) :: zTs) d K) (hsp0 : sp 18446744073709551616 = 0) (hG : zz_GF z0 G) (hP : ∀ U, G U → zz_GD zS zS2 zLg z0 sp U) : zz_O l zTs D zcl zFK cy z0 sp (zTys cy) G "ToolMillLaw" mn 7 code d K 878 (za_aload 3 879) := zo_aload_n zd_900_878 rfl
theorem zd_900_882 : decode code 882 = .ok (.istore 5, 2) := by decide +kernel
theorem zlw_882 {l : Launch} {D : va_G} {cy : Nat → ClassId} {z0 : Nat} {sp : Nat → Nat} {G : State → Prop} {mn : String} {d : Nat} {K : zz_K} (hKS : zz_KS l D zcl zFK cy z0 sp (zTys cy) G zYN (fun y => Cond.code (zYN y) (zCN y) (zMQ y) (zRT y) :: zTs) d K) (hsp0 : sp 18446744073709551616 = 0) (hG : zz_GF z0 G) (hP : ∀ U, G U → zz_GD zS zS2 zLg z0 sp U) : zz_O l zTs D zcl zFK cy z0 sp (zTys cy) G "ToolMillLaw" mn 7 code d K 882 (za_istore 5 884) := zo_istore zd_900_882 (by decide)
theorem zd_900_884 : decode code 884 = .ok (.aload_n 2, 1) := by decide +kernel
theorem zlw_884 {l : Launch} {D : va_G} {cy : Nat → ClassId} {z0 : Nat} {sp : Nat → Nat} {G : State → Prop} {mn : String} {d : Nat} {K : zz_K} (hKS : zz_KS l D zcl zFK cy z0 sp (zTys cy) G zYN (fun y => Cond.code (zYN y) (zCN y) (zMQ y) (zRT y) :: zTs) d K) (hsp0 : sp 18446744073709551616 = 0) (hG : zz_GF z0 G) (hP : ∀ U, G U → zz_GD zS zS2 zLg z0 sp U) : zz_O l zTs D zcl zFK cy z0 sp (zTys cy) G "ToolMillLaw" mn 7 code d K 884 (za_aload 2 885) := zo_aload_n zd_900_884 rfl
theorem zd_900_885 : decode code 885 = .ok (.aload_n 0, 1) := by decide +kernel
theorem zlw_885 {l : Launch} {D : va_G} {cy : Nat → ClassId} {z0 : Nat} {sp : Nat → Nat} {G : State → Prop} {mn : String} {d : Nat} {K : zz_K} (hKS : zz_KS l D zcl zFK cy z0 sp (zTys cy) G zYN (fun y => Cond.code (zYN y) (zCN y) (zMQ y) (zRT y) :: zTs) d K) (hsp0 : sp 18446744073709551616 = 0) (hG : zz_GF z0 G) (hP : ∀ U, G U → zz_GD zS zS2 zLg z0 sp U) : zz_O l zTs D zcl zFK cy z0 sp (zTys cy) G "ToolMillLaw" mn 7 code d K 885 (za_aload 0 886) := zo_aload_n zd_900_885 rfl
theorem zd_900_886 : decode code 886 = .ok (.iload 4, 2) := by decide +kernel
theorem zlw_886 {l : Launch} {D : va_G} {cy : Nat → ClassId} {z0 : Nat} {sp : Nat → Nat} {G : State → Prop} {mn : String} {d : Nat} {K : zz_K} (hKS : zz_KS l D zcl zFK cy z0 sp (zTys cy) G zYN (fun y => Cond.code (zYN y) (zCN y) (zMQ y) (zRT y) :: zTs) d K) (hsp0 : sp 18446744073709551616 = 0) (hG : zz_GF z0 G) (hP : ∀ U, G U → zz_GD zS zS2 zLg z0 sp U) : zz_O l zTs D zcl zFK cy z0 sp (zTys cy) G "ToolMillLaw" mn 7 code d K 886 (za_iload 4 888) := zo_iload zd_900_886
theorem zd_900_888 : decode code 888 = .ok (.iconst 1, 1) := by decide +kernel
theorem zlw_888 {l : Launch} {D : va_G} {cy : Nat → ClassId} {z0 : Nat} {sp : Nat → Nat} {G : State → Prop} {mn : String} {d : Nat} {K : zz_K} (hKS : zz_KS l D zcl zFK cy z0 sp (zTys cy) G zYN (fun y => Cond.code (zYN y) (zCN y) (zMQ y) (zRT y) :: zTs) d K) (hsp0 : sp 18446744073709551616 = 0) (hG : zz_GF z0 G) (hP : ∀ U, G U → zz_GD zS zS2 zLg z0 sp U) : zz_O l zTs D zcl zFK cy z0 sp (zTys cy) G "ToolMillLaw" mn 7 code d K 888 (za_const (.int (Int32.ofNat 1)) 889) := zo_iconst zd_900_888 (by decide)
theorem zd_900_889 : decode code 889 = .ok (.iadd, 1) := by decide +kernel
theorem zlw_889 {l : Launch} {D : va_G} {cy : Nat → ClassId} {z0 : Nat} {sp : Nat → Nat} {G : State → Prop} {mn : String} {d : Nat} {K : zz_K} (hKS : zz_KS l D zcl zFK cy z0 sp (zTys cy) G zYN (fun y => Cond.code (zYN y) (zCN y) (zMQ y) (zRT y) :: zTs) d K) (hsp0 : sp 18446744073709551616 = 0) (hG : zz_GF z0 G) (hP : ∀ U, G U → zz_GD zS zS2 zLg z0 sp U) : zz_O l zTs D zcl zFK cy z0 sp (zTys cy) G "ToolMillLaw" mn 7 code d K 889 (za_iadd 890) := zo_iadd zd_900_889
theorem zd_900_891 : decode code 891 = .ok (.invokevirtual 173, 3) := by decide +kernel
theorem zlw_891 {l : Launch} {D : va_G} {cy : Nat → ClassId} {z0 : Nat} {sp : Nat → Nat} {G : State → Prop} {mn : String} {d : Nat} {K : zz_K} (hKS : zz_KS l D zcl zFK cy z0 sp (zTys cy) G zYN (fun y => Cond.code (zYN y) (zCN y) (zMQ y) (zRT y) :: zTs) d K) (hsp0 : sp 18446744073709551616 = 0) (hG : zz_GF z0 G) (hP : ∀ U, G U → zz_GD zS zS2 zLg z0 sp U) : zz_O l zTs D zcl zFK cy z0 sp (zTys cy) G "ToolMillLaw" mn 7 code d K 891 (za_callV 0 47 1 894) := zcV_47 hKS hG zd_900_891 zw_3071
theorem zd_900_894 : decode code 894 = .ok (.istore 6, 2) := by decide +kernel
theorem zlw_894 {l : Launch} {D : va_G} {cy : Nat → ClassId} {z0 : Nat} {sp : Nat → Nat} {G : State → Prop} {mn : String} {d : Nat} {K : zz_K} (hKS : zz_KS l D zcl zFK cy z0 sp (zTys cy) G zYN (fun y => Cond.code (zYN y) (zCN y) (zMQ y) (zRT y) :: zTs) d K) (hsp0 : sp 18446744073709551616 = 0) (hG : zz_GF z0 G) (hP : ∀ U, G U → zz_GD zS zS2 zLg z0 sp U) : zz_O l zTs D zcl zFK cy z0 sp (zTys cy) G "ToolMillLaw" mn 7 code d K 894 (za_istore 6 896) := zo_istore zd_900_894 (by decide)
theorem zd_900_896 : decode code 896 = .ok (.goto 3, 3) := by decide +kernel
theorem zlw_896 {l : Launch} {D : va_G} {cy : Nat → ClassId} {z0 : Nat} {sp : Nat → Nat} {G : State → Prop} {mn : String} {d : Nat} {K : zz_K} (hKS : zz_KS l D zcl zFK cy z0 sp (zTys cy) G zYN (fun y => Cond.code (zYN y) (zCN y) (zMQ y) (zRT y) :: zTs) d K) (hsp0 : sp 18446744073709551616 = 0) (hG : zz_GF z0 G) (hP : ∀ U, G U → zz_GD zS zS2 zLg z0 sp U) : zz_O l zTs D zcl zFK cy z0 sp (zTys cy) G "ToolMillLaw" mn 7 code d K 896 (za_goto 899) := zo_goto zd_900_896 (by decide)
theorem zd_900_899 : decode code 899 = .ok (.iinc 4 4, 3) := by decide +kernel
theorem zlw_899 {l : Launch} {D : va_G} {cy : Nat → ClassId} {z0 : Nat} {sp : Nat → Nat} {G : State → Prop} {mn : String} {d : Nat} {K : zz_K} (hKS : zz_KS l D zcl zFK cy z0 sp (zTys cy) G zYN (fun y => Cond.code (zYN y) (zCN y) (zMQ y) (zRT y) :: zTs) d K) (hsp0 : sp 18446744073709551616 = 0) (hG : zz_GF z0 G) (hP : ∀ U, G U → zz_GD zS zS2 zLg z0 sp U) : zz_O l zTs D zcl zFK cy z0 sp (zTys cy) G "ToolMillLaw" mn 7 code d K 899 (za_iinc 4 (Int32.ofNat 4) 902) := zo_iinc zd_900_899 (by decide) (by decide)
theorem zd_900_902 : decode code 902 = .ok (.goto (-879), 3) := by decide +kernel
theorem zlw_902 {l : Launch} {D : va_G} {cy : Nat → ClassId} {z0 : Nat} {sp : Nat → Nat} {G : State → Prop} {mn : String} {d : Nat} {K : zz_K} (hKS : zz_KS l D zcl zFK cy z0 sp (zTys cy) G zYN (fun y => Cond.code (zYN y) (zCN y) (zMQ y) (zRT y) :: zTs) d K) (hsp0 : sp 18446744073709551616 = 0) (hG : zz_GF z0 G) (hP : ∀ U, G U → zz_GD zS zS2 zLg z0 sp U) : zz_O l zTs D zcl zFK cy z0 sp (zTys cy) G "ToolMillLaw" mn 7 code d K 902 (za_goto 23) := zo_goto zd_900_902 (by decide)
theorem zd_900_905 : decode code 905 = .ok (.iconst 1, 1) := by decide +kernel
theorem zlw_905 {l : Launch} {D : va_G} {cy : Nat → ClassId} {z0 : Nat} {sp : Nat → Nat} {G : State → Prop} {mn : String} {d : Nat} {K : zz_K} (hKS : zz_KS l D zcl zFK cy z0 sp (zTys cy) G zYN (fun y => Cond.code (zYN y) (zCN y) (zMQ y) (zRT y) :: zTs) d K) (hsp0 : sp 18446744073709551616 = 0) (hG : zz_GF z0 G) (hP : ∀ U, G U → zz_GD zS zS2 zLg z0 sp U) : zz_O l zTs D zcl zFK cy z0 sp (zTys cy) G "ToolMillLaw" mn 7 code d K 905 (za_const (.int (Int32.ofNat 1)) 906) := zo_iconst zd_900_905 (by decide)
theorem zd_900_26 : decode code 26 = .ok (.arraylength, 1) := by decide +kernel
theorem zd_900_35 : decode code 35 = .ok (.iaload, 1) := by decide +kernel
theorem zd_900_150 : decode code 150 = .ok (.iaload, 1) := by decide +kernel
theorem zd_900_163 : decode code 163 = .ok (.iaload, 1) := by decide +kernel
theorem zd_900_178 : decode code 178 = .ok (.iaload, 1) := by decide +kernel
theorem zd_900_190 : decode code 190 = .ok (.iaload, 1) := by decide +kernel
theorem zd_900_204 : decode code 204 = .ok (.ireturn, 1) := by decide +kernel
theorem zd_900_257 : decode code 257 = .ok (.iaload, 1) := by decide +kernel
theorem zd_900_270 : decode code 270 = .ok (.iaload, 1) := by decide +kernel
theorem zd_900_285 : decode code 285 = .ok (.iaload, 1) := by decide +kernel
theorem zd_900_291 : decode code 291 = .ok (.iaload, 1) := by decide +kernel
theorem zd_900_304 : decode code 304 = .ok (.iaload, 1) := by decide +kernel
theorem zd_900_310 : decode code 310 = .ok (.iaload, 1) := by decide +kernel
theorem zd_900_325 : decode code 325 = .ok (.iaload, 1) := by decide +kernel
theorem zd_900_331 : decode code 331 = .ok (.iaload, 1) := by decide +kernel
theorem zd_900_344 : decode code 344 = .ok (.iaload, 1) := by decide +kernel
theorem zd_900_350 : decode code 350 = .ok (.iaload, 1) := by decide +kernel
theorem zd_900_365 : decode code 365 = .ok (.iaload, 1) := by decide +kernel
theorem zd_900_371 : decode code 371 = .ok (.iaload, 1) := by decide +kernel
theorem zd_900_377 : decode code 377 = .ok (.iaload, 1) := by decide +kernel
theorem zd_900_390 : decode code 390 = .ok (.iaload, 1) := by decide +kernel
theorem zd_900_396 : decode code 396 = .ok (.iaload, 1) := by decide +kernel
theorem zd_900_402 : decode code 402 = .ok (.iaload, 1) := by decide +kernel
theorem zd_900_417 : decode code 417 = .ok (.iaload, 1) := by decide +kernel
theorem zd_900_423 : decode code 423 = .ok (.iaload, 1) := by decide +kernel
theorem zd_900_429 : decode code 429 = .ok (.iaload, 1) := by decide +kernel
theorem zd_900_442 : decode code 442 = .ok (.iaload, 1) := by decide +kernel
theorem zd_900_448 : decode code 448 = .ok (.iaload, 1) := by decide +kernel
theorem zd_900_454 : decode code 454 = .ok (.iaload, 1) := by decide +kernel
theorem zd_900_469 : decode code 469 = .ok (.iaload, 1) := by decide +kernel
theorem zd_900_475 : decode code 475 = .ok (.iaload, 1) := by decide +kernel
theorem zd_900_481 : decode code 481 = .ok (.iaload, 1) := by decide +kernel
theorem zd_900_494 : decode code 494 = .ok (.iaload, 1) := by decide +kernel
theorem zd_900_500 : decode code 500 = .ok (.iaload, 1) := by decide +kernel
theorem zd_900_506 : decode code 506 = .ok (.iaload, 1) := by decide +kernel
theorem zd_900_521 : decode code 521 = .ok (.iaload, 1) := by decide +kernel
theorem zd_900_527 : decode code 527 = .ok (.iaload, 1) := by decide +kernel
theorem zd_900_533 : decode code 533 = .ok (.iaload, 1) := by decide +kernel
theorem zd_900_546 : decode code 546 = .ok (.iaload, 1) := by decide +kernel
theorem zd_900_552 : decode code 552 = .ok (.iaload, 1) := by decide +kernel
theorem zd_900_558 : decode code 558 = .ok (.iaload, 1) := by decide +kernel
theorem zd_900_573 : decode code 573 = .ok (.iaload, 1) := by decide +kernel
theorem zd_900_586 : decode code 586 = .ok (.iaload, 1) := by decide +kernel
theorem zd_900_601 : decode code 601 = .ok (.iaload, 1) := by decide +kernel
theorem zd_900_607 : decode code 607 = .ok (.iaload, 1) := by decide +kernel
theorem zd_900_620 : decode code 620 = .ok (.iaload, 1) := by decide +kernel
theorem zd_900_626 : decode code 626 = .ok (.iaload, 1) := by decide +kernel
theorem zd_900_641 : decode code 641 = .ok (.iaload, 1) := by decide +kernel
theorem zd_900_654 : decode code 654 = .ok (.iaload, 1) := by decide +kernel
theorem zd_900_669 : decode code 669 = .ok (.iaload, 1) := by decide +kernel
theorem zd_900_682 : decode code 682 = .ok (.iaload, 1) := by decide +kernel
theorem zd_900_697 : decode code 697 = .ok (.iaload, 1) := by decide +kernel
theorem zd_900_710 : decode code 710 = .ok (.iaload, 1) := by decide +kernel
theorem zd_900_725 : decode code 725 = .ok (.iaload, 1) := by decide +kernel
theorem zd_900_738 : decode code 738 = .ok (.iaload, 1) := by decide +kernel
theorem zd_900_753 : decode code 753 = .ok (.iaload, 1) := by decide +kernel
theorem zd_900_766 : decode code 766 = .ok (.iaload, 1) := by decide +kernel
theorem zd_900_781 : decode code 781 = .ok (.iaload, 1) := by decide +kernel
theorem zd_900_787 : decode code 787 = .ok (.iaload, 1) := by decide +kernel
theorem zd_900_800 : decode code 800 = .ok (.iaload, 1) := by decide +kernel
theorem zd_900_806 : decode code 806 = .ok (.iaload, 1) := by decide +kernel
theorem zd_900_821 : decode code 821 = .ok (.iaload, 1) := by decide +kernel
theorem zd_900_834 : decode code 834 = .ok (.iaload, 1) := by decide +kernel
theorem zd_900_849 : decode code 849 = .ok (.iaload, 1) := by decide +kernel
theorem zd_900_862 : decode code 862 = .ok (.iaload, 1) := by decide +kernel
theorem zd_900_877 : decode code 877 = .ok (.iaload, 1) := by decide +kernel
theorem zd_900_890 : decode code 890 = .ok (.iaload, 1) := by decide +kernel
theorem zd_900_906 : decode code 906 = .ok (.ireturn, 1) := by decide +kernel
def zg_len (L : Nat) (i : Nat) : Option Nat := if i = 1999999 then some L else none
def zg_el (L : Nat) (xs : Nat → Int32) (i j : Nat) : Option Nat := if i = 1999999 ∧ j < L then some (zz_nI (xs j)) else none
theorem zz_r_s {z0 : Nat} {sp : Nat → Nat} : zz_r z0 sp 1999999 = sp 999999 := zz_kr (k := 999999)
theorem zlw_26 {l : Launch} {D : va_G} {cy : Nat → ClassId} {z0 : Nat} {sp : Nat → Nat} {G : State → Prop} {mn : String} {d : Nat} {K : zz_K} {L : Nat} {xs : Nat → Int32} (hX : ∀ U, G U → va_T .int (sp 999999) L (fun j => .int (xs j)) (fun q : Nat => z0 ≤ q) U U.heap) : zz_O l zTs D zcl zFK cy z0 sp (zTys cy) G "ToolMillLaw" mn 7 code d K 26 (za_kn (zg_len L) 27) :=
  zo_kn zd_900_26 (fun i v h => by
    unfold zg_len at h
    split at h
    · rename_i e
      cases h
      subst e
      exact ⟨.int, _, fun U hU => by rw [zz_r_s]; exact hX U hU⟩
    · cases h)
theorem zlw_35 {l : Launch} {D : va_G} {cy : Nat → ClassId} {z0 : Nat} {sp : Nat → Nat} {G : State → Prop} {mn : String} {d : Nat} {K : zz_K} {L : Nat} {xs : Nat → Int32} (hX : ∀ U, G U → va_T .int (sp 999999) L (fun j => .int (xs j)) (fun q : Nat => z0 ≤ q) U U.heap) (hL : L ≤ 2147483648) : zz_O l zTs D zcl zFK cy z0 sp (zTys cy) G "ToolMillLaw" mn 7 code d K 35 (za_kl (zg_el L xs) 36) :=
  zo_kli zd_900_35 (fun i j v h => by
    unfold zg_el at h
    split at h
    · rename_i e
      cases h
      obtain ⟨e, e2⟩ := e
      subst e
      exact ⟨L, _, fun U hU => by rw [zz_r_s]; exact hX U hU, e2, hL, by rw [zz_nI_of]⟩
    · cases h)
theorem zlw_150 {l : Launch} {D : va_G} {cy : Nat → ClassId} {z0 : Nat} {sp : Nat → Nat} {G : State → Prop} {mn : String} {d : Nat} {K : zz_K} {L : Nat} {xs : Nat → Int32} (hX : ∀ U, G U → va_T .int (sp 999999) L (fun j => .int (xs j)) (fun q : Nat => z0 ≤ q) U U.heap) (hL : L ≤ 2147483648) : zz_O l zTs D zcl zFK cy z0 sp (zTys cy) G "ToolMillLaw" mn 7 code d K 150 (za_kl (zg_el L xs) 151) :=
  zo_kli zd_900_150 (fun i j v h => by
    unfold zg_el at h
    split at h
    · rename_i e
      cases h
      obtain ⟨e, e2⟩ := e
      subst e
      exact ⟨L, _, fun U hU => by rw [zz_r_s]; exact hX U hU, e2, hL, by rw [zz_nI_of]⟩
    · cases h)
theorem zlw_163 {l : Launch} {D : va_G} {cy : Nat → ClassId} {z0 : Nat} {sp : Nat → Nat} {G : State → Prop} {mn : String} {d : Nat} {K : zz_K} {L : Nat} {xs : Nat → Int32} (hX : ∀ U, G U → va_T .int (sp 999999) L (fun j => .int (xs j)) (fun q : Nat => z0 ≤ q) U U.heap) (hL : L ≤ 2147483648) : zz_O l zTs D zcl zFK cy z0 sp (zTys cy) G "ToolMillLaw" mn 7 code d K 163 (za_kl (zg_el L xs) 164) :=
  zo_kli zd_900_163 (fun i j v h => by
    unfold zg_el at h
    split at h
    · rename_i e
      cases h
      obtain ⟨e, e2⟩ := e
      subst e
      exact ⟨L, _, fun U hU => by rw [zz_r_s]; exact hX U hU, e2, hL, by rw [zz_nI_of]⟩
    · cases h)
theorem zlw_178 {l : Launch} {D : va_G} {cy : Nat → ClassId} {z0 : Nat} {sp : Nat → Nat} {G : State → Prop} {mn : String} {d : Nat} {K : zz_K} {L : Nat} {xs : Nat → Int32} (hX : ∀ U, G U → va_T .int (sp 999999) L (fun j => .int (xs j)) (fun q : Nat => z0 ≤ q) U U.heap) (hL : L ≤ 2147483648) : zz_O l zTs D zcl zFK cy z0 sp (zTys cy) G "ToolMillLaw" mn 7 code d K 178 (za_kl (zg_el L xs) 179) :=
  zo_kli zd_900_178 (fun i j v h => by
    unfold zg_el at h
    split at h
    · rename_i e
      cases h
      obtain ⟨e, e2⟩ := e
      subst e
      exact ⟨L, _, fun U hU => by rw [zz_r_s]; exact hX U hU, e2, hL, by rw [zz_nI_of]⟩
    · cases h)
theorem zlw_190 {l : Launch} {D : va_G} {cy : Nat → ClassId} {z0 : Nat} {sp : Nat → Nat} {G : State → Prop} {mn : String} {d : Nat} {K : zz_K} {L : Nat} {xs : Nat → Int32} (hX : ∀ U, G U → va_T .int (sp 999999) L (fun j => .int (xs j)) (fun q : Nat => z0 ≤ q) U U.heap) (hL : L ≤ 2147483648) : zz_O l zTs D zcl zFK cy z0 sp (zTys cy) G "ToolMillLaw" mn 7 code d K 190 (za_kl (zg_el L xs) 191) :=
  zo_kli zd_900_190 (fun i j v h => by
    unfold zg_el at h
    split at h
    · rename_i e
      cases h
      obtain ⟨e, e2⟩ := e
      subst e
      exact ⟨L, _, fun U hU => by rw [zz_r_s]; exact hX U hU, e2, hL, by rw [zz_nI_of]⟩
    · cases h)
theorem zlw_257 {l : Launch} {D : va_G} {cy : Nat → ClassId} {z0 : Nat} {sp : Nat → Nat} {G : State → Prop} {mn : String} {d : Nat} {K : zz_K} {L : Nat} {xs : Nat → Int32} (hX : ∀ U, G U → va_T .int (sp 999999) L (fun j => .int (xs j)) (fun q : Nat => z0 ≤ q) U U.heap) (hL : L ≤ 2147483648) : zz_O l zTs D zcl zFK cy z0 sp (zTys cy) G "ToolMillLaw" mn 7 code d K 257 (za_kl (zg_el L xs) 258) :=
  zo_kli zd_900_257 (fun i j v h => by
    unfold zg_el at h
    split at h
    · rename_i e
      cases h
      obtain ⟨e, e2⟩ := e
      subst e
      exact ⟨L, _, fun U hU => by rw [zz_r_s]; exact hX U hU, e2, hL, by rw [zz_nI_of]⟩
    · cases h)
theorem zlw_270 {l : Launch} {D : va_G} {cy : Nat → ClassId} {z0 : Nat} {sp : Nat → Nat} {G : State → Prop} {mn : String} {d : Nat} {K : zz_K} {L : Nat} {xs : Nat → Int32} (hX : ∀ U, G U → va_T .int (sp 999999) L (fun j => .int (xs j)) (fun q : Nat => z0 ≤ q) U U.heap) (hL : L ≤ 2147483648) : zz_O l zTs D zcl zFK cy z0 sp (zTys cy) G "ToolMillLaw" mn 7 code d K 270 (za_kl (zg_el L xs) 271) :=
  zo_kli zd_900_270 (fun i j v h => by
    unfold zg_el at h
    split at h
    · rename_i e
      cases h
      obtain ⟨e, e2⟩ := e
      subst e
      exact ⟨L, _, fun U hU => by rw [zz_r_s]; exact hX U hU, e2, hL, by rw [zz_nI_of]⟩
    · cases h)
theorem zlw_285 {l : Launch} {D : va_G} {cy : Nat → ClassId} {z0 : Nat} {sp : Nat → Nat} {G : State → Prop} {mn : String} {d : Nat} {K : zz_K} {L : Nat} {xs : Nat → Int32} (hX : ∀ U, G U → va_T .int (sp 999999) L (fun j => .int (xs j)) (fun q : Nat => z0 ≤ q) U U.heap) (hL : L ≤ 2147483648) : zz_O l zTs D zcl zFK cy z0 sp (zTys cy) G "ToolMillLaw" mn 7 code d K 285 (za_kl (zg_el L xs) 286) :=
  zo_kli zd_900_285 (fun i j v h => by
    unfold zg_el at h
    split at h
    · rename_i e
      cases h
      obtain ⟨e, e2⟩ := e
      subst e
      exact ⟨L, _, fun U hU => by rw [zz_r_s]; exact hX U hU, e2, hL, by rw [zz_nI_of]⟩
    · cases h)
theorem zlw_291 {l : Launch} {D : va_G} {cy : Nat → ClassId} {z0 : Nat} {sp : Nat → Nat} {G : State → Prop} {mn : String} {d : Nat} {K : zz_K} {L : Nat} {xs : Nat → Int32} (hX : ∀ U, G U → va_T .int (sp 999999) L (fun j => .int (xs j)) (fun q : Nat => z0 ≤ q) U U.heap) (hL : L ≤ 2147483648) : zz_O l zTs D zcl zFK cy z0 sp (zTys cy) G "ToolMillLaw" mn 7 code d K 291 (za_kl (zg_el L xs) 292) :=
  zo_kli zd_900_291 (fun i j v h => by
    unfold zg_el at h
    split at h
    · rename_i e
      cases h
      obtain ⟨e, e2⟩ := e
      subst e
      exact ⟨L, _, fun U hU => by rw [zz_r_s]; exact hX U hU, e2, hL, by rw [zz_nI_of]⟩
    · cases h)
theorem zlw_304 {l : Launch} {D : va_G} {cy : Nat → ClassId} {z0 : Nat} {sp : Nat → Nat} {G : State → Prop} {mn : String} {d : Nat} {K : zz_K} {L : Nat} {xs : Nat → Int32} (hX : ∀ U, G U → va_T .int (sp 999999) L (fun j => .int (xs j)) (fun q : Nat => z0 ≤ q) U U.heap) (hL : L ≤ 2147483648) : zz_O l zTs D zcl zFK cy z0 sp (zTys cy) G "ToolMillLaw" mn 7 code d K 304 (za_kl (zg_el L xs) 305) :=
  zo_kli zd_900_304 (fun i j v h => by
    unfold zg_el at h
    split at h
    · rename_i e
      cases h
      obtain ⟨e, e2⟩ := e
      subst e
      exact ⟨L, _, fun U hU => by rw [zz_r_s]; exact hX U hU, e2, hL, by rw [zz_nI_of]⟩
    · cases h)
theorem zlw_310 {l : Launch} {D : va_G} {cy : Nat → ClassId} {z0 : Nat} {sp : Nat → Nat} {G : State → Prop} {mn : String} {d : Nat} {K : zz_K} {L : Nat} {xs : Nat → Int32} (hX : ∀ U, G U → va_T .int (sp 999999) L (fun j => .int (xs j)) (fun q : Nat => z0 ≤ q) U U.heap) (hL : L ≤ 2147483648) : zz_O l zTs D zcl zFK cy z0 sp (zTys cy) G "ToolMillLaw" mn 7 code d K 310 (za_kl (zg_el L xs) 311) :=
  zo_kli zd_900_310 (fun i j v h => by
    unfold zg_el at h
    split at h
    · rename_i e
      cases h
      obtain ⟨e, e2⟩ := e
      subst e
      exact ⟨L, _, fun U hU => by rw [zz_r_s]; exact hX U hU, e2, hL, by rw [zz_nI_of]⟩
    · cases h)
theorem zlw_325 {l : Launch} {D : va_G} {cy : Nat → ClassId} {z0 : Nat} {sp : Nat → Nat} {G : State → Prop} {mn : String} {d : Nat} {K : zz_K} {L : Nat} {xs : Nat → Int32} (hX : ∀ U, G U → va_T .int (sp 999999) L (fun j => .int (xs j)) (fun q : Nat => z0 ≤ q) U U.heap) (hL : L ≤ 2147483648) : zz_O l zTs D zcl zFK cy z0 sp (zTys cy) G "ToolMillLaw" mn 7 code d K 325 (za_kl (zg_el L xs) 326) :=
  zo_kli zd_900_325 (fun i j v h => by
    unfold zg_el at h
    split at h
    · rename_i e
      cases h
      obtain ⟨e, e2⟩ := e
      subst e
      exact ⟨L, _, fun U hU => by rw [zz_r_s]; exact hX U hU, e2, hL, by rw [zz_nI_of]⟩
    · cases h)
theorem zlw_331 {l : Launch} {D : va_G} {cy : Nat → ClassId} {z0 : Nat} {sp : Nat → Nat} {G : State → Prop} {mn : String} {d : Nat} {K : zz_K} {L : Nat} {xs : Nat → Int32} (hX : ∀ U, G U → va_T .int (sp 999999) L (fun j => .int (xs j)) (fun q : Nat => z0 ≤ q) U U.heap) (hL : L ≤ 2147483648) : zz_O l zTs D zcl zFK cy z0 sp (zTys cy) G "ToolMillLaw" mn 7 code d K 331 (za_kl (zg_el L xs) 332) :=
  zo_kli zd_900_331 (fun i j v h => by
    unfold zg_el at h
    split at h
    · rename_i e
      cases h
      obtain ⟨e, e2⟩ := e
      subst e
      exact ⟨L, _, fun U hU => by rw [zz_r_s]; exact hX U hU, e2, hL, by rw [zz_nI_of]⟩
    · cases h)
theorem zlw_344 {l : Launch} {D : va_G} {cy : Nat → ClassId} {z0 : Nat} {sp : Nat → Nat} {G : State → Prop} {mn : String} {d : Nat} {K : zz_K} {L : Nat} {xs : Nat → Int32} (hX : ∀ U, G U → va_T .int (sp 999999) L (fun j => .int (xs j)) (fun q : Nat => z0 ≤ q) U U.heap) (hL : L ≤ 2147483648) : zz_O l zTs D zcl zFK cy z0 sp (zTys cy) G "ToolMillLaw" mn 7 code d K 344 (za_kl (zg_el L xs) 345) :=
  zo_kli zd_900_344 (fun i j v h => by
    unfold zg_el at h
    split at h
    · rename_i e
      cases h
      obtain ⟨e, e2⟩ := e
      subst e
      exact ⟨L, _, fun U hU => by rw [zz_r_s]; exact hX U hU, e2, hL, by rw [zz_nI_of]⟩
    · cases h)
theorem zlw_350 {l : Launch} {D : va_G} {cy : Nat → ClassId} {z0 : Nat} {sp : Nat → Nat} {G : State → Prop} {mn : String} {d : Nat} {K : zz_K} {L : Nat} {xs : Nat → Int32} (hX : ∀ U, G U → va_T .int (sp 999999) L (fun j => .int (xs j)) (fun q : Nat => z0 ≤ q) U U.heap) (hL : L ≤ 2147483648) : zz_O l zTs D zcl zFK cy z0 sp (zTys cy) G "ToolMillLaw" mn 7 code d K 350 (za_kl (zg_el L xs) 351) :=
  zo_kli zd_900_350 (fun i j v h => by
    unfold zg_el at h
    split at h
    · rename_i e
      cases h
      obtain ⟨e, e2⟩ := e
      subst e
      exact ⟨L, _, fun U hU => by rw [zz_r_s]; exact hX U hU, e2, hL, by rw [zz_nI_of]⟩
    · cases h)
theorem zlw_365 {l : Launch} {D : va_G} {cy : Nat → ClassId} {z0 : Nat} {sp : Nat → Nat} {G : State → Prop} {mn : String} {d : Nat} {K : zz_K} {L : Nat} {xs : Nat → Int32} (hX : ∀ U, G U → va_T .int (sp 999999) L (fun j => .int (xs j)) (fun q : Nat => z0 ≤ q) U U.heap) (hL : L ≤ 2147483648) : zz_O l zTs D zcl zFK cy z0 sp (zTys cy) G "ToolMillLaw" mn 7 code d K 365 (za_kl (zg_el L xs) 366) :=
  zo_kli zd_900_365 (fun i j v h => by
    unfold zg_el at h
    split at h
    · rename_i e
      cases h
      obtain ⟨e, e2⟩ := e
      subst e
      exact ⟨L, _, fun U hU => by rw [zz_r_s]; exact hX U hU, e2, hL, by rw [zz_nI_of]⟩
    · cases h)
theorem zlw_371 {l : Launch} {D : va_G} {cy : Nat → ClassId} {z0 : Nat} {sp : Nat → Nat} {G : State → Prop} {mn : String} {d : Nat} {K : zz_K} {L : Nat} {xs : Nat → Int32} (hX : ∀ U, G U → va_T .int (sp 999999) L (fun j => .int (xs j)) (fun q : Nat => z0 ≤ q) U U.heap) (hL : L ≤ 2147483648) : zz_O l zTs D zcl zFK cy z0 sp (zTys cy) G "ToolMillLaw" mn 7 code d K 371 (za_kl (zg_el L xs) 372) :=
  zo_kli zd_900_371 (fun i j v h => by
    unfold zg_el at h
    split at h
    · rename_i e
      cases h
      obtain ⟨e, e2⟩ := e
      subst e
      exact ⟨L, _, fun U hU => by rw [zz_r_s]; exact hX U hU, e2, hL, by rw [zz_nI_of]⟩
    · cases h)
theorem zlw_377 {l : Launch} {D : va_G} {cy : Nat → ClassId} {z0 : Nat} {sp : Nat → Nat} {G : State → Prop} {mn : String} {d : Nat} {K : zz_K} {L : Nat} {xs : Nat → Int32} (hX : ∀ U, G U → va_T .int (sp 999999) L (fun j => .int (xs j)) (fun q : Nat => z0 ≤ q) U U.heap) (hL : L ≤ 2147483648) : zz_O l zTs D zcl zFK cy z0 sp (zTys cy) G "ToolMillLaw" mn 7 code d K 377 (za_kl (zg_el L xs) 378) :=
  zo_kli zd_900_377 (fun i j v h => by
    unfold zg_el at h
    split at h
    · rename_i e
      cases h
      obtain ⟨e, e2⟩ := e
      subst e
      exact ⟨L, _, fun U hU => by rw [zz_r_s]; exact hX U hU, e2, hL, by rw [zz_nI_of]⟩
    · cases h)
theorem zlw_390 {l : Launch} {D : va_G} {cy : Nat → ClassId} {z0 : Nat} {sp : Nat → Nat} {G : State → Prop} {mn : String} {d : Nat} {K : zz_K} {L : Nat} {xs : Nat → Int32} (hX : ∀ U, G U → va_T .int (sp 999999) L (fun j => .int (xs j)) (fun q : Nat => z0 ≤ q) U U.heap) (hL : L ≤ 2147483648) : zz_O l zTs D zcl zFK cy z0 sp (zTys cy) G "ToolMillLaw" mn 7 code d K 390 (za_kl (zg_el L xs) 391) :=
  zo_kli zd_900_390 (fun i j v h => by
    unfold zg_el at h
    split at h
    · rename_i e
      cases h
      obtain ⟨e, e2⟩ := e
      subst e
      exact ⟨L, _, fun U hU => by rw [zz_r_s]; exact hX U hU, e2, hL, by rw [zz_nI_of]⟩
    · cases h)
theorem zlw_396 {l : Launch} {D : va_G} {cy : Nat → ClassId} {z0 : Nat} {sp : Nat → Nat} {G : State → Prop} {mn : String} {d : Nat} {K : zz_K} {L : Nat} {xs : Nat → Int32} (hX : ∀ U, G U → va_T .int (sp 999999) L (fun j => .int (xs j)) (fun q : Nat => z0 ≤ q) U U.heap) (hL : L ≤ 2147483648) : zz_O l zTs D zcl zFK cy z0 sp (zTys cy) G "ToolMillLaw" mn 7 code d K 396 (za_kl (zg_el L xs) 397) :=
  zo_kli zd_900_396 (fun i j v h => by
    unfold zg_el at h
    split at h
    · rename_i e
      cases h
      obtain ⟨e, e2⟩ := e
      subst e
      exact ⟨L, _, fun U hU => by rw [zz_r_s]; exact hX U hU, e2, hL, by rw [zz_nI_of]⟩
    · cases h)
theorem zlw_402 {l : Launch} {D : va_G} {cy : Nat → ClassId} {z0 : Nat} {sp : Nat → Nat} {G : State → Prop} {mn : String} {d : Nat} {K : zz_K} {L : Nat} {xs : Nat → Int32} (hX : ∀ U, G U → va_T .int (sp 999999) L (fun j => .int (xs j)) (fun q : Nat => z0 ≤ q) U U.heap) (hL : L ≤ 2147483648) : zz_O l zTs D zcl zFK cy z0 sp (zTys cy) G "ToolMillLaw" mn 7 code d K 402 (za_kl (zg_el L xs) 403) :=
  zo_kli zd_900_402 (fun i j v h => by
    unfold zg_el at h
    split at h
    · rename_i e
      cases h
      obtain ⟨e, e2⟩ := e
      subst e
      exact ⟨L, _, fun U hU => by rw [zz_r_s]; exact hX U hU, e2, hL, by rw [zz_nI_of]⟩
    · cases h)
theorem zlw_417 {l : Launch} {D : va_G} {cy : Nat → ClassId} {z0 : Nat} {sp : Nat → Nat} {G : State → Prop} {mn : String} {d : Nat} {K : zz_K} {L : Nat} {xs : Nat → Int32} (hX : ∀ U, G U → va_T .int (sp 999999) L (fun j => .int (xs j)) (fun q : Nat => z0 ≤ q) U U.heap) (hL : L ≤ 2147483648) : zz_O l zTs D zcl zFK cy z0 sp (zTys cy) G "ToolMillLaw" mn 7 code d K 417 (za_kl (zg_el L xs) 418) :=
  zo_kli zd_900_417 (fun i j v h => by
    unfold zg_el at h
    split at h
    · rename_i e
      cases h
      obtain ⟨e, e2⟩ := e
      subst e
      exact ⟨L, _, fun U hU => by rw [zz_r_s]; exact hX U hU, e2, hL, by rw [zz_nI_of]⟩
    · cases h)
theorem zlw_423 {l : Launch} {D : va_G} {cy : Nat → ClassId} {z0 : Nat} {sp : Nat → Nat} {G : State → Prop} {mn : String} {d : Nat} {K : zz_K} {L : Nat} {xs : Nat → Int32} (hX : ∀ U, G U → va_T .int (sp 999999) L (fun j => .int (xs j)) (fun q : Nat => z0 ≤ q) U U.heap) (hL : L ≤ 2147483648) : zz_O l zTs D zcl zFK cy z0 sp (zTys cy) G "ToolMillLaw" mn 7 code d K 423 (za_kl (zg_el L xs) 424) :=
  zo_kli zd_900_423 (fun i j v h => by
    unfold zg_el at h
    split at h
    · rename_i e
      cases h
      obtain ⟨e, e2⟩ := e
      subst e
      exact ⟨L, _, fun U hU => by rw [zz_r_s]; exact hX U hU, e2, hL, by rw [zz_nI_of]⟩
    · cases h)
theorem zlw_429 {l : Launch} {D : va_G} {cy : Nat → ClassId} {z0 : Nat} {sp : Nat → Nat} {G : State → Prop} {mn : String} {d : Nat} {K : zz_K} {L : Nat} {xs : Nat → Int32} (hX : ∀ U, G U → va_T .int (sp 999999) L (fun j => .int (xs j)) (fun q : Nat => z0 ≤ q) U U.heap) (hL : L ≤ 2147483648) : zz_O l zTs D zcl zFK cy z0 sp (zTys cy) G "ToolMillLaw" mn 7 code d K 429 (za_kl (zg_el L xs) 430) :=
  zo_kli zd_900_429 (fun i j v h => by
    unfold zg_el at h
    split at h
    · rename_i e
      cases h
      obtain ⟨e, e2⟩ := e
      subst e
      exact ⟨L, _, fun U hU => by rw [zz_r_s]; exact hX U hU, e2, hL, by rw [zz_nI_of]⟩
    · cases h)
theorem zlw_442 {l : Launch} {D : va_G} {cy : Nat → ClassId} {z0 : Nat} {sp : Nat → Nat} {G : State → Prop} {mn : String} {d : Nat} {K : zz_K} {L : Nat} {xs : Nat → Int32} (hX : ∀ U, G U → va_T .int (sp 999999) L (fun j => .int (xs j)) (fun q : Nat => z0 ≤ q) U U.heap) (hL : L ≤ 2147483648) : zz_O l zTs D zcl zFK cy z0 sp (zTys cy) G "ToolMillLaw" mn 7 code d K 442 (za_kl (zg_el L xs) 443) :=
  zo_kli zd_900_442 (fun i j v h => by
    unfold zg_el at h
    split at h
    · rename_i e
      cases h
      obtain ⟨e, e2⟩ := e
      subst e
      exact ⟨L, _, fun U hU => by rw [zz_r_s]; exact hX U hU, e2, hL, by rw [zz_nI_of]⟩
    · cases h)
theorem zlw_448 {l : Launch} {D : va_G} {cy : Nat → ClassId} {z0 : Nat} {sp : Nat → Nat} {G : State → Prop} {mn : String} {d : Nat} {K : zz_K} {L : Nat} {xs : Nat → Int32} (hX : ∀ U, G U → va_T .int (sp 999999) L (fun j => .int (xs j)) (fun q : Nat => z0 ≤ q) U U.heap) (hL : L ≤ 2147483648) : zz_O l zTs D zcl zFK cy z0 sp (zTys cy) G "ToolMillLaw" mn 7 code d K 448 (za_kl (zg_el L xs) 449) :=
  zo_kli zd_900_448 (fun i j v h => by
    unfold zg_el at h
    split at h
    · rename_i e
      cases h
      obtain ⟨e, e2⟩ := e
      subst e
      exact ⟨L, _, fun U hU => by rw [zz_r_s]; exact hX U hU, e2, hL, by rw [zz_nI_of]⟩
    · cases h)
theorem zlw_454 {l : Launch} {D : va_G} {cy : Nat → ClassId} {z0 : Nat} {sp : Nat → Nat} {G : State → Prop} {mn : String} {d : Nat} {K : zz_K} {L : Nat} {xs : Nat → Int32} (hX : ∀ U, G U → va_T .int (sp 999999) L (fun j => .int (xs j)) (fun q : Nat => z0 ≤ q) U U.heap) (hL : L ≤ 2147483648) : zz_O l zTs D zcl zFK cy z0 sp (zTys cy) G "ToolMillLaw" mn 7 code d K 454 (za_kl (zg_el L xs) 455) :=
  zo_kli zd_900_454 (fun i j v h => by
    unfold zg_el at h
    split at h
    · rename_i e
      cases h
      obtain ⟨e, e2⟩ := e
      subst e
      exact ⟨L, _, fun U hU => by rw [zz_r_s]; exact hX U hU, e2, hL, by rw [zz_nI_of]⟩
    · cases h)
theorem zlw_469 {l : Launch} {D : va_G} {cy : Nat → ClassId} {z0 : Nat} {sp : Nat → Nat} {G : State → Prop} {mn : String} {d : Nat} {K : zz_K} {L : Nat} {xs : Nat → Int32} (hX : ∀ U, G U → va_T .int (sp 999999) L (fun j => .int (xs j)) (fun q : Nat => z0 ≤ q) U U.heap) (hL : L ≤ 2147483648) : zz_O l zTs D zcl zFK cy z0 sp (zTys cy) G "ToolMillLaw" mn 7 code d K 469 (za_kl (zg_el L xs) 470) :=
  zo_kli zd_900_469 (fun i j v h => by
    unfold zg_el at h
    split at h
    · rename_i e
      cases h
      obtain ⟨e, e2⟩ := e
      subst e
      exact ⟨L, _, fun U hU => by rw [zz_r_s]; exact hX U hU, e2, hL, by rw [zz_nI_of]⟩
    · cases h)
theorem zlw_475 {l : Launch} {D : va_G} {cy : Nat → ClassId} {z0 : Nat} {sp : Nat → Nat} {G : State → Prop} {mn : String} {d : Nat} {K : zz_K} {L : Nat} {xs : Nat → Int32} (hX : ∀ U, G U → va_T .int (sp 999999) L (fun j => .int (xs j)) (fun q : Nat => z0 ≤ q) U U.heap) (hL : L ≤ 2147483648) : zz_O l zTs D zcl zFK cy z0 sp (zTys cy) G "ToolMillLaw" mn 7 code d K 475 (za_kl (zg_el L xs) 476) :=
  zo_kli zd_900_475 (fun i j v h => by
    unfold zg_el at h
    split at h
    · rename_i e
      cases h
      obtain ⟨e, e2⟩ := e
      subst e
      exact ⟨L, _, fun U hU => by rw [zz_r_s]; exact hX U hU, e2, hL, by rw [zz_nI_of]⟩
    · cases h)
theorem zlw_481 {l : Launch} {D : va_G} {cy : Nat → ClassId} {z0 : Nat} {sp : Nat → Nat} {G : State → Prop} {mn : String} {d : Nat} {K : zz_K} {L : Nat} {xs : Nat → Int32} (hX : ∀ U, G U → va_T .int (sp 999999) L (fun j => .int (xs j)) (fun q : Nat => z0 ≤ q) U U.heap) (hL : L ≤ 2147483648) : zz_O l zTs D zcl zFK cy z0 sp (zTys cy) G "ToolMillLaw" mn 7 code d K 481 (za_kl (zg_el L xs) 482) :=
  zo_kli zd_900_481 (fun i j v h => by
    unfold zg_el at h
    split at h
    · rename_i e
      cases h
      obtain ⟨e, e2⟩ := e
      subst e
      exact ⟨L, _, fun U hU => by rw [zz_r_s]; exact hX U hU, e2, hL, by rw [zz_nI_of]⟩
    · cases h)
theorem zlw_494 {l : Launch} {D : va_G} {cy : Nat → ClassId} {z0 : Nat} {sp : Nat → Nat} {G : State → Prop} {mn : String} {d : Nat} {K : zz_K} {L : Nat} {xs : Nat → Int32} (hX : ∀ U, G U → va_T .int (sp 999999) L (fun j => .int (xs j)) (fun q : Nat => z0 ≤ q) U U.heap) (hL : L ≤ 2147483648) : zz_O l zTs D zcl zFK cy z0 sp (zTys cy) G "ToolMillLaw" mn 7 code d K 494 (za_kl (zg_el L xs) 495) :=
  zo_kli zd_900_494 (fun i j v h => by
    unfold zg_el at h
    split at h
    · rename_i e
      cases h
      obtain ⟨e, e2⟩ := e
      subst e
      exact ⟨L, _, fun U hU => by rw [zz_r_s]; exact hX U hU, e2, hL, by rw [zz_nI_of]⟩
    · cases h)
theorem zlw_500 {l : Launch} {D : va_G} {cy : Nat → ClassId} {z0 : Nat} {sp : Nat → Nat} {G : State → Prop} {mn : String} {d : Nat} {K : zz_K} {L : Nat} {xs : Nat → Int32} (hX : ∀ U, G U → va_T .int (sp 999999) L (fun j => .int (xs j)) (fun q : Nat => z0 ≤ q) U U.heap) (hL : L ≤ 2147483648) : zz_O l zTs D zcl zFK cy z0 sp (zTys cy) G "ToolMillLaw" mn 7 code d K 500 (za_kl (zg_el L xs) 501) :=
  zo_kli zd_900_500 (fun i j v h => by
    unfold zg_el at h
    split at h
    · rename_i e
      cases h
      obtain ⟨e, e2⟩ := e
      subst e
      exact ⟨L, _, fun U hU => by rw [zz_r_s]; exact hX U hU, e2, hL, by rw [zz_nI_of]⟩
    · cases h)
theorem zlw_506 {l : Launch} {D : va_G} {cy : Nat → ClassId} {z0 : Nat} {sp : Nat → Nat} {G : State → Prop} {mn : String} {d : Nat} {K : zz_K} {L : Nat} {xs : Nat → Int32} (hX : ∀ U, G U → va_T .int (sp 999999) L (fun j => .int (xs j)) (fun q : Nat => z0 ≤ q) U U.heap) (hL : L ≤ 2147483648) : zz_O l zTs D zcl zFK cy z0 sp (zTys cy) G "ToolMillLaw" mn 7 code d K 506 (za_kl (zg_el L xs) 507) :=
  zo_kli zd_900_506 (fun i j v h => by
    unfold zg_el at h
    split at h
    · rename_i e
      cases h
      obtain ⟨e, e2⟩ := e
      subst e
      exact ⟨L, _, fun U hU => by rw [zz_r_s]; exact hX U hU, e2, hL, by rw [zz_nI_of]⟩
    · cases h)
theorem zlw_521 {l : Launch} {D : va_G} {cy : Nat → ClassId} {z0 : Nat} {sp : Nat → Nat} {G : State → Prop} {mn : String} {d : Nat} {K : zz_K} {L : Nat} {xs : Nat → Int32} (hX : ∀ U, G U → va_T .int (sp 999999) L (fun j => .int (xs j)) (fun q : Nat => z0 ≤ q) U U.heap) (hL : L ≤ 2147483648) : zz_O l zTs D zcl zFK cy z0 sp (zTys cy) G "ToolMillLaw" mn 7 code d K 521 (za_kl (zg_el L xs) 522) :=
  zo_kli zd_900_521 (fun i j v h => by
    unfold zg_el at h
    split at h
    · rename_i e
      cases h
      obtain ⟨e, e2⟩ := e
      subst e
      exact ⟨L, _, fun U hU => by rw [zz_r_s]; exact hX U hU, e2, hL, by rw [zz_nI_of]⟩
    · cases h)
theorem zlw_527 {l : Launch} {D : va_G} {cy : Nat → ClassId} {z0 : Nat} {sp : Nat → Nat} {G : State → Prop} {mn : String} {d : Nat} {K : zz_K} {L : Nat} {xs : Nat → Int32} (hX : ∀ U, G U → va_T .int (sp 999999) L (fun j => .int (xs j)) (fun q : Nat => z0 ≤ q) U U.heap) (hL : L ≤ 2147483648) : zz_O l zTs D zcl zFK cy z0 sp (zTys cy) G "ToolMillLaw" mn 7 code d K 527 (za_kl (zg_el L xs) 528) :=
  zo_kli zd_900_527 (fun i j v h => by
    unfold zg_el at h
    split at h
    · rename_i e
      cases h
      obtain ⟨e, e2⟩ := e
      subst e
      exact ⟨L, _, fun U hU => by rw [zz_r_s]; exact hX U hU, e2, hL, by rw [zz_nI_of]⟩
    · cases h)
theorem zlw_533 {l : Launch} {D : va_G} {cy : Nat → ClassId} {z0 : Nat} {sp : Nat → Nat} {G : State → Prop} {mn : String} {d : Nat} {K : zz_K} {L : Nat} {xs : Nat → Int32} (hX : ∀ U, G U → va_T .int (sp 999999) L (fun j => .int (xs j)) (fun q : Nat => z0 ≤ q) U U.heap) (hL : L ≤ 2147483648) : zz_O l zTs D zcl zFK cy z0 sp (zTys cy) G "ToolMillLaw" mn 7 code d K 533 (za_kl (zg_el L xs) 534) :=
  zo_kli zd_900_533 (fun i j v h => by
    unfold zg_el at h
    split at h
    · rename_i e
      cases h
      obtain ⟨e, e2⟩ := e
      subst e
      exact ⟨L, _, fun U hU => by rw [zz_r_s]; exact hX U hU, e2, hL, by rw [zz_nI_of]⟩
    · cases h)
theorem zlw_546 {l : Launch} {D : va_G} {cy : Nat → ClassId} {z0 : Nat} {sp : Nat → Nat} {G : State → Prop} {mn : String} {d : Nat} {K : zz_K} {L : Nat} {xs : Nat → Int32} (hX : ∀ U, G U → va_T .int (sp 999999) L (fun j => .int (xs j)) (fun q : Nat => z0 ≤ q) U U.heap) (hL : L ≤ 2147483648) : zz_O l zTs D zcl zFK cy z0 sp (zTys cy) G "ToolMillLaw" mn 7 code d K 546 (za_kl (zg_el L xs) 547) :=
  zo_kli zd_900_546 (fun i j v h => by
    unfold zg_el at h
    split at h
    · rename_i e
      cases h
      obtain ⟨e, e2⟩ := e
      subst e
      exact ⟨L, _, fun U hU => by rw [zz_r_s]; exact hX U hU, e2, hL, by rw [zz_nI_of]⟩
    · cases h)
theorem zlw_552 {l : Launch} {D : va_G} {cy : Nat → ClassId} {z0 : Nat} {sp : Nat → Nat} {G : State → Prop} {mn : String} {d : Nat} {K : zz_K} {L : Nat} {xs : Nat → Int32} (hX : ∀ U, G U → va_T .int (sp 999999) L (fun j => .int (xs j)) (fun q : Nat => z0 ≤ q) U U.heap) (hL : L ≤ 2147483648) : zz_O l zTs D zcl zFK cy z0 sp (zTys cy) G "ToolMillLaw" mn 7 code d K 552 (za_kl (zg_el L xs) 553) :=
  zo_kli zd_900_552 (fun i j v h => by
    unfold zg_el at h
    split at h
    · rename_i e
      cases h
      obtain ⟨e, e2⟩ := e
      subst e
      exact ⟨L, _, fun U hU => by rw [zz_r_s]; exact hX U hU, e2, hL, by rw [zz_nI_of]⟩
    · cases h)
theorem zlw_558 {l : Launch} {D : va_G} {cy : Nat → ClassId} {z0 : Nat} {sp : Nat → Nat} {G : State → Prop} {mn : String} {d : Nat} {K : zz_K} {L : Nat} {xs : Nat → Int32} (hX : ∀ U, G U → va_T .int (sp 999999) L (fun j => .int (xs j)) (fun q : Nat => z0 ≤ q) U U.heap) (hL : L ≤ 2147483648) : zz_O l zTs D zcl zFK cy z0 sp (zTys cy) G "ToolMillLaw" mn 7 code d K 558 (za_kl (zg_el L xs) 559) :=
  zo_kli zd_900_558 (fun i j v h => by
    unfold zg_el at h
    split at h
    · rename_i e
      cases h
      obtain ⟨e, e2⟩ := e
      subst e
      exact ⟨L, _, fun U hU => by rw [zz_r_s]; exact hX U hU, e2, hL, by rw [zz_nI_of]⟩
    · cases h)
theorem zlw_573 {l : Launch} {D : va_G} {cy : Nat → ClassId} {z0 : Nat} {sp : Nat → Nat} {G : State → Prop} {mn : String} {d : Nat} {K : zz_K} {L : Nat} {xs : Nat → Int32} (hX : ∀ U, G U → va_T .int (sp 999999) L (fun j => .int (xs j)) (fun q : Nat => z0 ≤ q) U U.heap) (hL : L ≤ 2147483648) : zz_O l zTs D zcl zFK cy z0 sp (zTys cy) G "ToolMillLaw" mn 7 code d K 573 (za_kl (zg_el L xs) 574) :=
  zo_kli zd_900_573 (fun i j v h => by
    unfold zg_el at h
    split at h
    · rename_i e
      cases h
      obtain ⟨e, e2⟩ := e
      subst e
      exact ⟨L, _, fun U hU => by rw [zz_r_s]; exact hX U hU, e2, hL, by rw [zz_nI_of]⟩
    · cases h)
theorem zlw_586 {l : Launch} {D : va_G} {cy : Nat → ClassId} {z0 : Nat} {sp : Nat → Nat} {G : State → Prop} {mn : String} {d : Nat} {K : zz_K} {L : Nat} {xs : Nat → Int32} (hX : ∀ U, G U → va_T .int (sp 999999) L (fun j => .int (xs j)) (fun q : Nat => z0 ≤ q) U U.heap) (hL : L ≤ 2147483648) : zz_O l zTs D zcl zFK cy z0 sp (zTys cy) G "ToolMillLaw" mn 7 code d K 586 (za_kl (zg_el L xs) 587) :=
  zo_kli zd_900_586 (fun i j v h => by
    unfold zg_el at h
    split at h
    · rename_i e
      cases h
      obtain ⟨e, e2⟩ := e
      subst e
      exact ⟨L, _, fun U hU => by rw [zz_r_s]; exact hX U hU, e2, hL, by rw [zz_nI_of]⟩
    · cases h)
theorem zlw_601 {l : Launch} {D : va_G} {cy : Nat → ClassId} {z0 : Nat} {sp : Nat → Nat} {G : State → Prop} {mn : String} {d : Nat} {K : zz_K} {L : Nat} {xs : Nat → Int32} (hX : ∀ U, G U → va_T .int (sp 999999) L (fun j => .int (xs j)) (fun q : Nat => z0 ≤ q) U U.heap) (hL : L ≤ 2147483648) : zz_O l zTs D zcl zFK cy z0 sp (zTys cy) G "ToolMillLaw" mn 7 code d K 601 (za_kl (zg_el L xs) 602) :=
  zo_kli zd_900_601 (fun i j v h => by
    unfold zg_el at h
    split at h
    · rename_i e
      cases h
      obtain ⟨e, e2⟩ := e
      subst e
      exact ⟨L, _, fun U hU => by rw [zz_r_s]; exact hX U hU, e2, hL, by rw [zz_nI_of]⟩
    · cases h)
theorem zlw_607 {l : Launch} {D : va_G} {cy : Nat → ClassId} {z0 : Nat} {sp : Nat → Nat} {G : State → Prop} {mn : String} {d : Nat} {K : zz_K} {L : Nat} {xs : Nat → Int32} (hX : ∀ U, G U → va_T .int (sp 999999) L (fun j => .int (xs j)) (fun q : Nat => z0 ≤ q) U U.heap) (hL : L ≤ 2147483648) : zz_O l zTs D zcl zFK cy z0 sp (zTys cy) G "ToolMillLaw" mn 7 code d K 607 (za_kl (zg_el L xs) 608) :=
  zo_kli zd_900_607 (fun i j v h => by
    unfold zg_el at h
    split at h
    · rename_i e
      cases h
      obtain ⟨e, e2⟩ := e
      subst e
      exact ⟨L, _, fun U hU => by rw [zz_r_s]; exact hX U hU, e2, hL, by rw [zz_nI_of]⟩
    · cases h)
theorem zlw_620 {l : Launch} {D : va_G} {cy : Nat → ClassId} {z0 : Nat} {sp : Nat → Nat} {G : State → Prop} {mn : String} {d : Nat} {K : zz_K} {L : Nat} {xs : Nat → Int32} (hX : ∀ U, G U → va_T .int (sp 999999) L (fun j => .int (xs j)) (fun q : Nat => z0 ≤ q) U U.heap) (hL : L ≤ 2147483648) : zz_O l zTs D zcl zFK cy z0 sp (zTys cy) G "ToolMillLaw" mn 7 code d K 620 (za_kl (zg_el L xs) 621) :=
  zo_kli zd_900_620 (fun i j v h => by
    unfold zg_el at h
    split at h
    · rename_i e
      cases h
      obtain ⟨e, e2⟩ := e
      subst e
      exact ⟨L, _, fun U hU => by rw [zz_r_s]; exact hX U hU, e2, hL, by rw [zz_nI_of]⟩
    · cases h)
theorem zlw_626 {l : Launch} {D : va_G} {cy : Nat → ClassId} {z0 : Nat} {sp : Nat → Nat} {G : State → Prop} {mn : String} {d : Nat} {K : zz_K} {L : Nat} {xs : Nat → Int32} (hX : ∀ U, G U → va_T .int (sp 999999) L (fun j => .int (xs j)) (fun q : Nat => z0 ≤ q) U U.heap) (hL : L ≤ 2147483648) : zz_O l zTs D zcl zFK cy z0 sp (zTys cy) G "ToolMillLaw" mn 7 code d K 626 (za_kl (zg_el L xs) 627) :=
  zo_kli zd_900_626 (fun i j v h => by
    unfold zg_el at h
    split at h
    · rename_i e
      cases h
      obtain ⟨e, e2⟩ := e
      subst e
      exact ⟨L, _, fun U hU => by rw [zz_r_s]; exact hX U hU, e2, hL, by rw [zz_nI_of]⟩
    · cases h)
theorem zlw_641 {l : Launch} {D : va_G} {cy : Nat → ClassId} {z0 : Nat} {sp : Nat → Nat} {G : State → Prop} {mn : String} {d : Nat} {K : zz_K} {L : Nat} {xs : Nat → Int32} (hX : ∀ U, G U → va_T .int (sp 999999) L (fun j => .int (xs j)) (fun q : Nat => z0 ≤ q) U U.heap) (hL : L ≤ 2147483648) : zz_O l zTs D zcl zFK cy z0 sp (zTys cy) G "ToolMillLaw" mn 7 code d K 641 (za_kl (zg_el L xs) 642) :=
  zo_kli zd_900_641 (fun i j v h => by
    unfold zg_el at h
    split at h
    · rename_i e
      cases h
      obtain ⟨e, e2⟩ := e
      subst e
      exact ⟨L, _, fun U hU => by rw [zz_r_s]; exact hX U hU, e2, hL, by rw [zz_nI_of]⟩
    · cases h)
theorem zlw_654 {l : Launch} {D : va_G} {cy : Nat → ClassId} {z0 : Nat} {sp : Nat → Nat} {G : State → Prop} {mn : String} {d : Nat} {K : zz_K} {L : Nat} {xs : Nat → Int32} (hX : ∀ U, G U → va_T .int (sp 999999) L (fun j => .int (xs j)) (fun q : Nat => z0 ≤ q) U U.heap) (hL : L ≤ 2147483648) : zz_O l zTs D zcl zFK cy z0 sp (zTys cy) G "ToolMillLaw" mn 7 code d K 654 (za_kl (zg_el L xs) 655) :=
  zo_kli zd_900_654 (fun i j v h => by
    unfold zg_el at h
    split at h
    · rename_i e
      cases h
      obtain ⟨e, e2⟩ := e
      subst e
      exact ⟨L, _, fun U hU => by rw [zz_r_s]; exact hX U hU, e2, hL, by rw [zz_nI_of]⟩
    · cases h)
theorem zlw_669 {l : Launch} {D : va_G} {cy : Nat → ClassId} {z0 : Nat} {sp : Nat → Nat} {G : State → Prop} {mn : String} {d : Nat} {K : zz_K} {L : Nat} {xs : Nat → Int32} (hX : ∀ U, G U → va_T .int (sp 999999) L (fun j => .int (xs j)) (fun q : Nat => z0 ≤ q) U U.heap) (hL : L ≤ 2147483648) : zz_O l zTs D zcl zFK cy z0 sp (zTys cy) G "ToolMillLaw" mn 7 code d K 669 (za_kl (zg_el L xs) 670) :=
  zo_kli zd_900_669 (fun i j v h => by
    unfold zg_el at h
    split at h
    · rename_i e
      cases h
      obtain ⟨e, e2⟩ := e
      subst e
      exact ⟨L, _, fun U hU => by rw [zz_r_s]; exact hX U hU, e2, hL, by rw [zz_nI_of]⟩
    · cases h)
theorem zlw_682 {l : Launch} {D : va_G} {cy : Nat → ClassId} {z0 : Nat} {sp : Nat → Nat} {G : State → Prop} {mn : String} {d : Nat} {K : zz_K} {L : Nat} {xs : Nat → Int32} (hX : ∀ U, G U → va_T .int (sp 999999) L (fun j => .int (xs j)) (fun q : Nat => z0 ≤ q) U U.heap) (hL : L ≤ 2147483648) : zz_O l zTs D zcl zFK cy z0 sp (zTys cy) G "ToolMillLaw" mn 7 code d K 682 (za_kl (zg_el L xs) 683) :=
  zo_kli zd_900_682 (fun i j v h => by
    unfold zg_el at h
    split at h
    · rename_i e
      cases h
      obtain ⟨e, e2⟩ := e
      subst e
      exact ⟨L, _, fun U hU => by rw [zz_r_s]; exact hX U hU, e2, hL, by rw [zz_nI_of]⟩
    · cases h)
theorem zlw_697 {l : Launch} {D : va_G} {cy : Nat → ClassId} {z0 : Nat} {sp : Nat → Nat} {G : State → Prop} {mn : String} {d : Nat} {K : zz_K} {L : Nat} {xs : Nat → Int32} (hX : ∀ U, G U → va_T .int (sp 999999) L (fun j => .int (xs j)) (fun q : Nat => z0 ≤ q) U U.heap) (hL : L ≤ 2147483648) : zz_O l zTs D zcl zFK cy z0 sp (zTys cy) G "ToolMillLaw" mn 7 code d K 697 (za_kl (zg_el L xs) 698) :=
  zo_kli zd_900_697 (fun i j v h => by
    unfold zg_el at h
    split at h
    · rename_i e
      cases h
      obtain ⟨e, e2⟩ := e
      subst e
      exact ⟨L, _, fun U hU => by rw [zz_r_s]; exact hX U hU, e2, hL, by rw [zz_nI_of]⟩
    · cases h)
theorem zlw_710 {l : Launch} {D : va_G} {cy : Nat → ClassId} {z0 : Nat} {sp : Nat → Nat} {G : State → Prop} {mn : String} {d : Nat} {K : zz_K} {L : Nat} {xs : Nat → Int32} (hX : ∀ U, G U → va_T .int (sp 999999) L (fun j => .int (xs j)) (fun q : Nat => z0 ≤ q) U U.heap) (hL : L ≤ 2147483648) : zz_O l zTs D zcl zFK cy z0 sp (zTys cy) G "ToolMillLaw" mn 7 code d K 710 (za_kl (zg_el L xs) 711) :=
  zo_kli zd_900_710 (fun i j v h => by
    unfold zg_el at h
    split at h
    · rename_i e
      cases h
      obtain ⟨e, e2⟩ := e
      subst e
      exact ⟨L, _, fun U hU => by rw [zz_r_s]; exact hX U hU, e2, hL, by rw [zz_nI_of]⟩
    · cases h)
theorem zlw_725 {l : Launch} {D : va_G} {cy : Nat → ClassId} {z0 : Nat} {sp : Nat → Nat} {G : State → Prop} {mn : String} {d : Nat} {K : zz_K} {L : Nat} {xs : Nat → Int32} (hX : ∀ U, G U → va_T .int (sp 999999) L (fun j => .int (xs j)) (fun q : Nat => z0 ≤ q) U U.heap) (hL : L ≤ 2147483648) : zz_O l zTs D zcl zFK cy z0 sp (zTys cy) G "ToolMillLaw" mn 7 code d K 725 (za_kl (zg_el L xs) 726) :=
  zo_kli zd_900_725 (fun i j v h => by
    unfold zg_el at h
    split at h
    · rename_i e
      cases h
      obtain ⟨e, e2⟩ := e
      subst e
      exact ⟨L, _, fun U hU => by rw [zz_r_s]; exact hX U hU, e2, hL, by rw [zz_nI_of]⟩
    · cases h)
theorem zlw_738 {l : Launch} {D : va_G} {cy : Nat → ClassId} {z0 : Nat} {sp : Nat → Nat} {G : State → Prop} {mn : String} {d : Nat} {K : zz_K} {L : Nat} {xs : Nat → Int32} (hX : ∀ U, G U → va_T .int (sp 999999) L (fun j => .int (xs j)) (fun q : Nat => z0 ≤ q) U U.heap) (hL : L ≤ 2147483648) : zz_O l zTs D zcl zFK cy z0 sp (zTys cy) G "ToolMillLaw" mn 7 code d K 738 (za_kl (zg_el L xs) 739) :=
  zo_kli zd_900_738 (fun i j v h => by
    unfold zg_el at h
    split at h
    · rename_i e
      cases h
      obtain ⟨e, e2⟩ := e
      subst e
      exact ⟨L, _, fun U hU => by rw [zz_r_s]; exact hX U hU, e2, hL, by rw [zz_nI_of]⟩
    · cases h)
theorem zlw_753 {l : Launch} {D : va_G} {cy : Nat → ClassId} {z0 : Nat} {sp : Nat → Nat} {G : State → Prop} {mn : String} {d : Nat} {K : zz_K} {L : Nat} {xs : Nat → Int32} (hX : ∀ U, G U → va_T .int (sp 999999) L (fun j => .int (xs j)) (fun q : Nat => z0 ≤ q) U U.heap) (hL : L ≤ 2147483648) : zz_O l zTs D zcl zFK cy z0 sp (zTys cy) G "ToolMillLaw" mn 7 code d K 753 (za_kl (zg_el L xs) 754) :=
  zo_kli zd_900_753 (fun i j v h => by
    unfold zg_el at h
    split at h
    · rename_i e
      cases h
      obtain ⟨e, e2⟩ := e
      subst e
      exact ⟨L, _, fun U hU => by rw [zz_r_s]; exact hX U hU, e2, hL, by rw [zz_nI_of]⟩
    · cases h)
theorem zlw_766 {l : Launch} {D : va_G} {cy : Nat → ClassId} {z0 : Nat} {sp : Nat → Nat} {G : State → Prop} {mn : String} {d : Nat} {K : zz_K} {L : Nat} {xs : Nat → Int32} (hX : ∀ U, G U → va_T .int (sp 999999) L (fun j => .int (xs j)) (fun q : Nat => z0 ≤ q) U U.heap) (hL : L ≤ 2147483648) : zz_O l zTs D zcl zFK cy z0 sp (zTys cy) G "ToolMillLaw" mn 7 code d K 766 (za_kl (zg_el L xs) 767) :=
  zo_kli zd_900_766 (fun i j v h => by
    unfold zg_el at h
    split at h
    · rename_i e
      cases h
      obtain ⟨e, e2⟩ := e
      subst e
      exact ⟨L, _, fun U hU => by rw [zz_r_s]; exact hX U hU, e2, hL, by rw [zz_nI_of]⟩
    · cases h)
theorem zlw_781 {l : Launch} {D : va_G} {cy : Nat → ClassId} {z0 : Nat} {sp : Nat → Nat} {G : State → Prop} {mn : String} {d : Nat} {K : zz_K} {L : Nat} {xs : Nat → Int32} (hX : ∀ U, G U → va_T .int (sp 999999) L (fun j => .int (xs j)) (fun q : Nat => z0 ≤ q) U U.heap) (hL : L ≤ 2147483648) : zz_O l zTs D zcl zFK cy z0 sp (zTys cy) G "ToolMillLaw" mn 7 code d K 781 (za_kl (zg_el L xs) 782) :=
  zo_kli zd_900_781 (fun i j v h => by
    unfold zg_el at h
    split at h
    · rename_i e
      cases h
      obtain ⟨e, e2⟩ := e
      subst e
      exact ⟨L, _, fun U hU => by rw [zz_r_s]; exact hX U hU, e2, hL, by rw [zz_nI_of]⟩
    · cases h)
theorem zlw_787 {l : Launch} {D : va_G} {cy : Nat → ClassId} {z0 : Nat} {sp : Nat → Nat} {G : State → Prop} {mn : String} {d : Nat} {K : zz_K} {L : Nat} {xs : Nat → Int32} (hX : ∀ U, G U → va_T .int (sp 999999) L (fun j => .int (xs j)) (fun q : Nat => z0 ≤ q) U U.heap) (hL : L ≤ 2147483648) : zz_O l zTs D zcl zFK cy z0 sp (zTys cy) G "ToolMillLaw" mn 7 code d K 787 (za_kl (zg_el L xs) 788) :=
  zo_kli zd_900_787 (fun i j v h => by
    unfold zg_el at h
    split at h
    · rename_i e
      cases h
      obtain ⟨e, e2⟩ := e
      subst e
      exact ⟨L, _, fun U hU => by rw [zz_r_s]; exact hX U hU, e2, hL, by rw [zz_nI_of]⟩
    · cases h)
theorem zlw_800 {l : Launch} {D : va_G} {cy : Nat → ClassId} {z0 : Nat} {sp : Nat → Nat} {G : State → Prop} {mn : String} {d : Nat} {K : zz_K} {L : Nat} {xs : Nat → Int32} (hX : ∀ U, G U → va_T .int (sp 999999) L (fun j => .int (xs j)) (fun q : Nat => z0 ≤ q) U U.heap) (hL : L ≤ 2147483648) : zz_O l zTs D zcl zFK cy z0 sp (zTys cy) G "ToolMillLaw" mn 7 code d K 800 (za_kl (zg_el L xs) 801) :=
  zo_kli zd_900_800 (fun i j v h => by
    unfold zg_el at h
    split at h
    · rename_i e
      cases h
      obtain ⟨e, e2⟩ := e
      subst e
      exact ⟨L, _, fun U hU => by rw [zz_r_s]; exact hX U hU, e2, hL, by rw [zz_nI_of]⟩
    · cases h)
theorem zlw_806 {l : Launch} {D : va_G} {cy : Nat → ClassId} {z0 : Nat} {sp : Nat → Nat} {G : State → Prop} {mn : String} {d : Nat} {K : zz_K} {L : Nat} {xs : Nat → Int32} (hX : ∀ U, G U → va_T .int (sp 999999) L (fun j => .int (xs j)) (fun q : Nat => z0 ≤ q) U U.heap) (hL : L ≤ 2147483648) : zz_O l zTs D zcl zFK cy z0 sp (zTys cy) G "ToolMillLaw" mn 7 code d K 806 (za_kl (zg_el L xs) 807) :=
  zo_kli zd_900_806 (fun i j v h => by
    unfold zg_el at h
    split at h
    · rename_i e
      cases h
      obtain ⟨e, e2⟩ := e
      subst e
      exact ⟨L, _, fun U hU => by rw [zz_r_s]; exact hX U hU, e2, hL, by rw [zz_nI_of]⟩
    · cases h)
theorem zlw_821 {l : Launch} {D : va_G} {cy : Nat → ClassId} {z0 : Nat} {sp : Nat → Nat} {G : State → Prop} {mn : String} {d : Nat} {K : zz_K} {L : Nat} {xs : Nat → Int32} (hX : ∀ U, G U → va_T .int (sp 999999) L (fun j => .int (xs j)) (fun q : Nat => z0 ≤ q) U U.heap) (hL : L ≤ 2147483648) : zz_O l zTs D zcl zFK cy z0 sp (zTys cy) G "ToolMillLaw" mn 7 code d K 821 (za_kl (zg_el L xs) 822) :=
  zo_kli zd_900_821 (fun i j v h => by
    unfold zg_el at h
    split at h
    · rename_i e
      cases h
      obtain ⟨e, e2⟩ := e
      subst e
      exact ⟨L, _, fun U hU => by rw [zz_r_s]; exact hX U hU, e2, hL, by rw [zz_nI_of]⟩
    · cases h)
theorem zlw_834 {l : Launch} {D : va_G} {cy : Nat → ClassId} {z0 : Nat} {sp : Nat → Nat} {G : State → Prop} {mn : String} {d : Nat} {K : zz_K} {L : Nat} {xs : Nat → Int32} (hX : ∀ U, G U → va_T .int (sp 999999) L (fun j => .int (xs j)) (fun q : Nat => z0 ≤ q) U U.heap) (hL : L ≤ 2147483648) : zz_O l zTs D zcl zFK cy z0 sp (zTys cy) G "ToolMillLaw" mn 7 code d K 834 (za_kl (zg_el L xs) 835) :=
  zo_kli zd_900_834 (fun i j v h => by
    unfold zg_el at h
    split at h
    · rename_i e
      cases h
      obtain ⟨e, e2⟩ := e
      subst e
      exact ⟨L, _, fun U hU => by rw [zz_r_s]; exact hX U hU, e2, hL, by rw [zz_nI_of]⟩
    · cases h)
theorem zlw_849 {l : Launch} {D : va_G} {cy : Nat → ClassId} {z0 : Nat} {sp : Nat → Nat} {G : State → Prop} {mn : String} {d : Nat} {K : zz_K} {L : Nat} {xs : Nat → Int32} (hX : ∀ U, G U → va_T .int (sp 999999) L (fun j => .int (xs j)) (fun q : Nat => z0 ≤ q) U U.heap) (hL : L ≤ 2147483648) : zz_O l zTs D zcl zFK cy z0 sp (zTys cy) G "ToolMillLaw" mn 7 code d K 849 (za_kl (zg_el L xs) 850) :=
  zo_kli zd_900_849 (fun i j v h => by
    unfold zg_el at h
    split at h
    · rename_i e
      cases h
      obtain ⟨e, e2⟩ := e
      subst e
      exact ⟨L, _, fun U hU => by rw [zz_r_s]; exact hX U hU, e2, hL, by rw [zz_nI_of]⟩
    · cases h)
theorem zlw_862 {l : Launch} {D : va_G} {cy : Nat → ClassId} {z0 : Nat} {sp : Nat → Nat} {G : State → Prop} {mn : String} {d : Nat} {K : zz_K} {L : Nat} {xs : Nat → Int32} (hX : ∀ U, G U → va_T .int (sp 999999) L (fun j => .int (xs j)) (fun q : Nat => z0 ≤ q) U U.heap) (hL : L ≤ 2147483648) : zz_O l zTs D zcl zFK cy z0 sp (zTys cy) G "ToolMillLaw" mn 7 code d K 862 (za_kl (zg_el L xs) 863) :=
  zo_kli zd_900_862 (fun i j v h => by
    unfold zg_el at h
    split at h
    · rename_i e
      cases h
      obtain ⟨e, e2⟩ := e
      subst e
      exact ⟨L, _, fun U hU => by rw [zz_r_s]; exact hX U hU, e2, hL, by rw [zz_nI_of]⟩
    · cases h)
theorem zlw_877 {l : Launch} {D : va_G} {cy : Nat → ClassId} {z0 : Nat} {sp : Nat → Nat} {G : State → Prop} {mn : String} {d : Nat} {K : zz_K} {L : Nat} {xs : Nat → Int32} (hX : ∀ U, G U → va_T .int (sp 999999) L (fun j => .int (xs j)) (fun q : Nat => z0 ≤ q) U U.heap) (hL : L ≤ 2147483648) : zz_O l zTs D zcl zFK cy z0 sp (zTys cy) G "ToolMillLaw" mn 7 code d K 877 (za_kl (zg_el L xs) 878) :=
  zo_kli zd_900_877 (fun i j v h => by
    unfold zg_el at h
    split at h
    · rename_i e
      cases h
      obtain ⟨e, e2⟩ := e
      subst e
      exact ⟨L, _, fun U hU => by rw [zz_r_s]; exact hX U hU, e2, hL, by rw [zz_nI_of]⟩
    · cases h)
theorem zlw_890 {l : Launch} {D : va_G} {cy : Nat → ClassId} {z0 : Nat} {sp : Nat → Nat} {G : State → Prop} {mn : String} {d : Nat} {K : zz_K} {L : Nat} {xs : Nat → Int32} (hX : ∀ U, G U → va_T .int (sp 999999) L (fun j => .int (xs j)) (fun q : Nat => z0 ≤ q) U U.heap) (hL : L ≤ 2147483648) : zz_O l zTs D zcl zFK cy z0 sp (zTys cy) G "ToolMillLaw" mn 7 code d K 890 (za_kl (zg_el L xs) 891) :=
  zo_kli zd_900_890 (fun i j v h => by
    unfold zg_el at h
    split at h
    · rename_i e
      cases h
      obtain ⟨e, e2⟩ := e
      subst e
      exact ⟨L, _, fun U hU => by rw [zz_r_s]; exact hX U hU, e2, hL, by rw [zz_nI_of]⟩
    · cases h)
