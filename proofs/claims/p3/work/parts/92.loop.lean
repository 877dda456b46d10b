/-! the law, from its entry to its loop, around it and out, by program -/
noncomputable def zW00 : zz_W := (0, 0, [zz_ch0, zz_ch0, zz_ch0, zz_ch0, zz_ch0, zz_ch0, zz_ch0, zz_ch0, zz_ch0, zz_ch0, zz_ch0, zz_ch0, zz_ch0, zz_ch0, zz_ch0, zz_ch0, zz_ch0, zz_ch0, zz_ch0, zz_ch0, zz_ch0, zz_ch0, zz_ch0, zz_ch0, zz_ch0, zz_ch0, zz_ch0, zz_ch0, zz_ch0, zz_ch0, zz_ch0, zz_ch0, zz_ch0, zz_ch0, zz_ch0, zz_ch0, zz_ch0, zz_ch0, zz_ch0, zz_ch0, zz_ch0, zz_ch0, zz_ch0, zz_ch0, zz_ch0, zz_ch0, zz_ch0, zz_ch0, zz_ch0, zz_ch0, zz_ch0, zz_ch0, zz_ch0, zz_ch0, zz_ch0, zz_ch0, zz_ch0, zz_ch0, zz_ch0, zz_ch0, zz_ch0, zz_ch0, zz_ch0, zz_ch0])
noncomputable def zF_0 : zz_F := (0, [(0, .ref 1999999)], [], zW00)
noncomputable def zF_1 : zz_F := (3, [(0, .ref 1999999)], [(.ref 0 : Value)], zWa)
noncomputable def zF_2 : zz_F := (4, [(0, .ref 1999999)], [(.ref 0 : Value), (.ref 0 : Value)], zWa)
noncomputable def zF_3 : zz_F := (7, [(0, .ref 1999999)], [(.ref 0 : Value)], zW1)
noncomputable def zF_4 : zz_F := (8, [(1, .ref 0), (0, .ref 1999999)], [], zW1)
noncomputable def zF_5 : zz_F := (11, [(1, .ref 0), (0, .ref 1999999)], [(.ref 171 : Value)], zWb)
noncomputable def zF_6 : zz_F := (12, [(1, .ref 0), (0, .ref 1999999)], [(.ref 171 : Value), (.ref 171 : Value)], zWb)
noncomputable def zF_7 : zz_F := (15, [(1, .ref 0), (0, .ref 1999999)], [(.ref 171 : Value)], zW2)
noncomputable def zF_8 : zz_F := (16, [(2, .ref 171), (1, .ref 0), (0, .ref 1999999)], [], zW2)
noncomputable def zF_9 : zz_F := (17, [(2, .ref 171), (1, .ref 0), (0, .ref 1999999)], [(.int (Int32.ofNat 1) : Value)], zW2)
noncomputable def zF_10 : zz_F := (19, [(2, .ref 171), (1, .ref 0), (0, .ref 1999999)], [(.ref 328 : Value)], zW3)
noncomputable def zF_11 : zz_F := (20, [(3, .ref 328), (2, .ref 171), (1, .ref 0), (0, .ref 1999999)], [], zW3)
noncomputable def zF_12 : zz_F := (21, [(3, .ref 328), (2, .ref 171), (1, .ref 0), (0, .ref 1999999)], [(.int (Int32.ofNat 0) : Value)], zW3)
noncomputable def zF_13 : zz_F := (23, [(4, .int (Int32.ofNat 0)), (3, .ref 328), (2, .ref 171), (1, .ref 0), (0, .ref 1999999)], [], zW3)
set_option maxRecDepth 100000 in
theorem zLaw_pre {l : Launch} {D : va_G} {cy : Nat → ClassId} {z0 : Nat} {sp : Nat → Nat} {G : State → Prop} {mn : String} {d : Nat} {K : zz_K} (hKS : zz_KS l D zcl zFK cy z0 sp (zTys cy) G zYN (fun y => Cond.code (zYN y) (zCN y) (zMQ y) (zRT y) :: zTs) d K) (hsp0 : sp 18446744073709551616 = 0) (hG : zz_GF z0 G) (hP : ∀ U, G U → zz_GD zS zS2 zLg z0 sp U) (h1 : K 0 [.ref 0] zWa = some ([], zW1)) (h2 : K 24 [.ref 171] zWb = some ([], zW2)) : zz_B l zTs D zcl zFK cy z0 sp (zTys cy) G "ToolMillLaw" mn 7 code d zF_0 zF_13 := by
  have b0 : zz_B l zTs D zcl zFK cy z0 sp (zTys cy) G "ToolMillLaw" mn 7 code d zF_0 zF_1 := zz_O_B (zlw_0 hKS hsp0 hG hP) rfl rfl
  have b1 : zz_B l zTs D zcl zFK cy z0 sp (zTys cy) G "ToolMillLaw" mn 7 code d zF_1 zF_2 := zz_O_B (zlw_3 hKS hsp0 hG hP) rfl rfl
  have b2 : zz_B l zTs D zcl zFK cy z0 sp (zTys cy) G "ToolMillLaw" mn 7 code d zF_2 zF_3 := zz_O_B (zlw_4 hKS hsp0 hG hP) rfl ((show (za_callV 1 0 0 7) K zF_2 = zz_cr 7 [(0, .ref 1999999)] [.ref 0] (K 0 [.ref 0] zWa) from rfl).trans (by rw [h1]; rfl))
  have b3 : zz_B l zTs D zcl zFK cy z0 sp (zTys cy) G "ToolMillLaw" mn 7 code d zF_3 zF_4 := zz_O_B (zlw_7 hKS hsp0 hG hP) rfl rfl
  have b4 : zz_B l zTs D zcl zFK cy z0 sp (zTys cy) G "ToolMillLaw" mn 7 code d zF_4 zF_5 := zz_O_B (zlw_8 hKS hsp0 hG hP) rfl rfl
  have b5 : zz_B l zTs D zcl zFK cy z0 sp (zTys cy) G "ToolMillLaw" mn 7 code d zF_5 zF_6 := zz_O_B (zlw_11 hKS hsp0 hG hP) rfl rfl
  have b6 : zz_B l zTs D zcl zFK cy z0 sp (zTys cy) G "ToolMillLaw" mn 7 code d zF_6 zF_7 := zz_O_B (zlw_12 hKS hsp0 hG hP) rfl ((show (za_callV 0 24 0 15) K zF_6 = zz_cr 15 [(1, .ref 0), (0, .ref 1999999)] [.ref 171] (K 24 [.ref 171] zWb) from rfl).trans (by rw [h2]; rfl))
  have b7 : zz_B l zTs D zcl zFK cy z0 sp (zTys cy) G "ToolMillLaw" mn 7 code d zF_7 zF_8 := zz_O_B (zlw_15 hKS hsp0 hG hP) rfl rfl
  have b8 : zz_B l zTs D zcl zFK cy z0 sp (zTys cy) G "ToolMillLaw" mn 7 code d zF_8 zF_9 := zz_O_B (zlw_16 hKS hsp0 hG hP) rfl rfl
  have b9 : zz_B l zTs D zcl zFK cy z0 sp (zTys cy) G "ToolMillLaw" mn 7 code d zF_9 zF_10 := zz_O_B (zlw_17 hKS hsp0 hG hP) rfl rfl
  have b10 : zz_B l zTs D zcl zFK cy z0 sp (zTys cy) G "ToolMillLaw" mn 7 code d zF_10 zF_11 := zz_O_B (zlw_19 hKS hsp0 hG hP) rfl rfl
  have b11 : zz_B l zTs D zcl zFK cy z0 sp (zTys cy) G "ToolMillLaw" mn 7 code d zF_11 zF_12 := zz_O_B (zlw_20 hKS hsp0 hG hP) rfl rfl
  have b12 : zz_B l zTs D zcl zFK cy z0 sp (zTys cy) G "ToolMillLaw" mn 7 code d zF_12 zF_13 := zz_O_B (zlw_21 hKS hsp0 hG hP) rfl rfl
  exact zz_B_tr b0 (zz_B_tr b1 (zz_B_tr b2 (zz_B_tr b3 (zz_B_tr b4 (zz_B_tr b5 (zz_B_tr b6 (zz_B_tr b7 (zz_B_tr b8 (zz_B_tr b9 (zz_B_tr b10 (zz_B_tr b11 (b12))))))))))))
theorem zLaw_out {l : Launch} {D : va_G} {cy : Nat → ClassId} {z0 : Nat} {sp : Nat → Nat} {G : State → Prop} {mn : String} {d : Nat} {K : zz_K} {L : Nat} {xs : Nat → Int32} (hKS : zz_KS l D zcl zFK cy z0 sp (zTys cy) G zYN (fun y => Cond.code (zYN y) (zCN y) (zMQ y) (zRT y) :: zTs) d K) (hsp0 : sp 18446744073709551616 = 0) (hG : zz_GF z0 G) (hP : ∀ U, G U → zz_GD zS zS2 zLg z0 sp U) (hX : ∀ U, G U → va_T .int (sp 999999) L (fun j => .int (xs j)) (fun q : Nat => z0 ≤ q) U U.heap) {i : Int32} {w : zz_W} (hlt : Int32.ofNat L - Int32.ofNat 4 < i) : zz_B l zTs D zcl zFK cy z0 sp (zTys cy) G "ToolMillLaw" mn 7 code d (23, zLv i, [], w) (906, zLv i, [.int (Int32.ofNat 1)], w) := by
  have b0 : zz_B l zTs D zcl zFK cy z0 sp (zTys cy) G "ToolMillLaw" mn 7 code d (23, zLv i, [], w) (25, zLv i, [.int i], w) := zz_O_B (zlw_23 hKS hsp0 hG hP) rfl rfl
  have b1 : zz_B l zTs D zcl zFK cy z0 sp (zTys cy) G "ToolMillLaw" mn 7 code d (25, zLv i, [.int i], w) (26, zLv i, [.ref 1999999, .int i], w) := zz_O_B (zlw_25 hKS hsp0 hG hP) rfl rfl
  have b2 : zz_B l zTs D zcl zFK cy z0 sp (zTys cy) G "ToolMillLaw" mn 7 code d (26, zLv i, [.ref 1999999, .int i], w) (27, zLv i, [.int (Int32.ofNat L), .int i], w) := zz_O_B (zlw_26 (K := K) hX) rfl (by show zz_fN L (fun v => some (27, zLv i, Value.int (Int32.ofNat v) :: [Value.int i], w)) = _; rw [zz_fN_eq])
  have b3 : zz_B l zTs D zcl zFK cy z0 sp (zTys cy) G "ToolMillLaw" mn 7 code d (27, zLv i, [.int (Int32.ofNat L), .int i], w) (28, zLv i, [.int (Int32.ofNat 4), .int (Int32.ofNat L), .int i], w) := zz_O_B (zlw_27 hKS hsp0 hG hP) rfl rfl
  have b4 : zz_B l zTs D zcl zFK cy z0 sp (zTys cy) G "ToolMillLaw" mn 7 code d (28, zLv i, [.int (Int32.ofNat 4), .int (Int32.ofNat L), .int i], w) (29, zLv i, [.int (Int32.ofNat L - Int32.ofNat 4), .int i], w) := zz_O_B (zlw_28 hKS hsp0 hG hP) rfl (by show zz_fI (Int32.ofNat L - Int32.ofNat 4) (fun z => some (29, zLv i, Value.int z :: [Value.int i], w)) = _; rw [zz_fI_eq])
  have b5 : zz_B l zTs D zcl zFK cy z0 sp (zTys cy) G "ToolMillLaw" mn 7 code d (29, zLv i, [.int (Int32.ofNat L - Int32.ofNat 4), .int i], w) (905, zLv i, [], w) := zz_O_B (zlw_29 hKS hsp0 hG hP) rfl (by show (if Int32.ofNat L - Int32.ofNat 4 < i then some ((905, zLv i, [], w) : zz_F) else some (32, zLv i, [], w)) = _; rw [if_pos hlt])
  have b6 : zz_B l zTs D zcl zFK cy z0 sp (zTys cy) G "ToolMillLaw" mn 7 code d (905, zLv i, [], w) (906, zLv i, [.int (Int32.ofNat 1)], w) := zz_O_B (zlw_905 hKS hsp0 hG hP) rfl rfl
  exact zz_B_tr b0 (zz_B_tr b1 (zz_B_tr b2 (zz_B_tr b3 (zz_B_tr b4 (zz_B_tr b5 (b6))))))
theorem zLaw_in {l : Launch} {D : va_G} {cy : Nat → ClassId} {z0 : Nat} {sp : Nat → Nat} {G : State → Prop} {mn : String} {d : Nat} {K : zz_K} {L : Nat} {xs : Nat → Int32} (hKS : zz_KS l D zcl zFK cy z0 sp (zTys cy) G zYN (fun y => Cond.code (zYN y) (zCN y) (zMQ y) (zRT y) :: zTs) d K) (hsp0 : sp 18446744073709551616 = 0) (hG : zz_GF z0 G) (hP : ∀ U, G U → zz_GD zS zS2 zLg z0 sp U) (hX : ∀ U, G U → va_T .int (sp 999999) L (fun j => .int (xs j)) (fun q : Nat => z0 ≤ q) U U.heap) {i : Int32} {w : zz_W} (hL : L ≤ 2147483648) (hge : ¬ Int32.ofNat L - Int32.ofNat 4 < i) (hj : zz_nI i < L) : zz_B l zTs D zcl zFK cy z0 sp (zTys cy) G "ToolMillLaw" mn 7 code d (23, zLv i, [], w) (39, zLv i, [.int (xs (zz_nI i) &&& Int32.ofNat 31)], w) := by
  have b0 : zz_B l zTs D zcl zFK cy z0 sp (zTys cy) G "ToolMillLaw" mn 7 code d (23, zLv i, [], w) (25, zLv i, [.int i], w) := zz_O_B (zlw_23 hKS hsp0 hG hP) rfl rfl
  have b1 : zz_B l zTs D zcl zFK cy z0 sp (zTys cy) G "ToolMillLaw" mn 7 code d (25, zLv i, [.int i], w) (26, zLv i, [.ref 1999999, .int i], w) := zz_O_B (zlw_25 hKS hsp0 hG hP) rfl rfl
  have b2 : zz_B l zTs D zcl zFK cy z0 sp (zTys cy) G "ToolMillLaw" mn 7 code d (26, zLv i, [.ref 1999999, .int i], w) (27, zLv i, [.int (Int32.ofNat L), .int i], w) := zz_O_B (zlw_26 (K := K) hX) rfl (by show zz_fN L (fun v => some (27, zLv i, Value.int (Int32.ofNat v) :: [Value.int i], w)) = _; rw [zz_fN_eq])
  have b3 : zz_B l zTs D zcl zFK cy z0 sp (zTys cy) G "ToolMillLaw" mn 7 code d (27, zLv i, [.int (Int32.ofNat L), .int i], w) (28, zLv i, [.int (Int32.ofNat 4), .int (Int32.ofNat L), .int i], w) := zz_O_B (zlw_27 hKS hsp0 hG hP) rfl rfl
  have b4 : zz_B l zTs D zcl zFK cy z0 sp (zTys cy) G "ToolMillLaw" mn 7 code d (28, zLv i, [.int (Int32.ofNat 4), .int (Int32.ofNat L), .int i], w) (29, zLv i, [.int (Int32.ofNat L - Int32.ofNat 4), .int i], w) := zz_O_B (zlw_28 hKS hsp0 hG hP) rfl (by show zz_fI (Int32.ofNat L - Int32.ofNat 4) (fun z => some (29, zLv i, Value.int z :: [Value.int i], w)) = _; rw [zz_fI_eq])
  have b5 : zz_B l zTs D zcl zFK cy z0 sp (zTys cy) G "ToolMillLaw" mn 7 code d (29, zLv i, [.int (Int32.ofNat L - Int32.ofNat 4), .int i], w) (32, zLv i, [], w) := zz_O_B (zlw_29 hKS hsp0 hG hP) rfl (by show (if Int32.ofNat L - Int32.ofNat 4 < i then some ((905, zLv i, [], w) : zz_F) else some (32, zLv i, [], w)) = _; rw [if_neg hge])
  have b6 : zz_B l zTs D zcl zFK cy z0 sp (zTys cy) G "ToolMillLaw" mn 7 code d (32, zLv i, [], w) (33, zLv i, [.ref 1999999], w) := zz_O_B (zlw_32 hKS hsp0 hG hP) rfl rfl
  have b7 : zz_B l zTs D zcl zFK cy z0 sp (zTys cy) G "ToolMillLaw" mn 7 code d (33, zLv i, [.ref 1999999], w) (35, zLv i, [.int i, .ref 1999999], w) := zz_O_B (zlw_33 hKS hsp0 hG hP) rfl rfl
  have b8 : zz_B l zTs D zcl zFK cy z0 sp (zTys cy) G "ToolMillLaw" mn 7 code d (35, zLv i, [.int i, .ref 1999999], w) (36, zLv i, [.int (xs (zz_nI i))], w) := zz_O_B (zlw_35 (K := K) hX hL) rfl (by unfold za_kl zg_el; show (match (if (1999999 : Nat) = 1999999 ∧ zz_nI i < L then some (zz_nI (xs (zz_nI i))) else none) with | some v => zz_fN v (fun v => some (36, zLv i, Value.int (Int32.ofNat v) :: [], w)) | none => none) = _; rw [if_pos ⟨rfl, hj⟩]; show zz_fN (zz_nI (xs (zz_nI i))) _ = _; rw [zz_fN_eq, zz_nI_of])
  have b9 : zz_B l zTs D zcl zFK cy z0 sp (zTys cy) G "ToolMillLaw" mn 7 code d (36, zLv i, [.int (xs (zz_nI i))], w) (38, zLv i, [.int (Int32.ofNat 31), .int (xs (zz_nI i))], w) := zz_O_B (zlw_36 hKS hsp0 hG hP) rfl rfl
  have b10 : zz_B l zTs D zcl zFK cy z0 sp (zTys cy) G "ToolMillLaw" mn 7 code d (38, zLv i, [.int (Int32.ofNat 31), .int (xs (zz_nI i))], w) (39, zLv i, [.int (xs (zz_nI i) &&& Int32.ofNat 31)], w) := zz_O_B (zlw_38 hKS hsp0 hG hP) rfl (by show zz_fI (xs (zz_nI i) &&& Int32.ofNat 31) (fun z => some (39, zLv i, Value.int z :: [], w)) = _; rw [zz_fI_eq])
  exact zz_B_tr b0 (zz_B_tr b1 (zz_B_tr b2 (zz_B_tr b3 (zz_B_tr b4 (zz_B_tr b5 (zz_B_tr b6 (zz_B_tr b7 (zz_B_tr b8 (zz_B_tr b9 (b10))))))))))
theorem zLaw_e {l : Launch} {D : va_G} {cy : Nat → ClassId} {z0 : Nat} {sp : Nat → Nat} {G : State → Prop} {mn : String} {d : Nat} {K : zz_K} (hKS : zz_KS l D zcl zFK cy z0 sp (zTys cy) G zYN (fun y => Cond.code (zYN y) (zCN y) (zMQ y) (zRT y) :: zTs) d K) (hsp0 : sp 18446744073709551616 = 0) (hG : zz_GF z0 G) (hP : ∀ U, G U → zz_GD zS zS2 zLg z0 sp U) {i : Int32} {w : zz_W} : zz_B l zTs D zcl zFK cy z0 sp (zTys cy) G "ToolMillLaw" mn 7 code d (899, zLv i, [], w) (23, zLv (i + Int32.ofNat 4), [], w) := by
  have b1 : zz_B l zTs D zcl zFK cy z0 sp (zTys cy) G "ToolMillLaw" mn 7 code d (899, zLv i, [], w) (902, zLv (i + Int32.ofNat 4), [], w) := zz_O_B (zlw_899 hKS hsp0 hG hP) rfl (by
    show zz_fI (i + Int32.ofNat 4) (fun z => zz_lf false 4 (zLv i) (fun l => some ((902, (4, Value.int z) :: l, [], w) : zz_F))) = _
    rw [zz_fI_eq, zz_lf_eq]
    rfl)
  have b2 : zz_B l zTs D zcl zFK cy z0 sp (zTys cy) G "ToolMillLaw" mn 7 code d (902, zLv (i + Int32.ofNat 4), [], w) (23, zLv (i + Int32.ofNat 4), [], w) := zz_O_B (zlw_902 hKS hsp0 hG hP) rfl rfl
  exact zz_B_tr b1 b2
theorem zLaw_39 {l : Launch} {D : va_G} {cy : Nat → ClassId} {z0 : Nat} {sp : Nat → Nat} {G : State → Prop} (H : zHy l D cy z0 sp G) {mn : String} {L n m : Nat} {xs : Nat → Int32} (hX : ∀ U, G U → va_T .int (sp 999999) L (fun j => .int (xs j)) (fun q : Nat => z0 ≤ q) U U.heap) (hL : L ≤ 2048) (hnm : n ≤ m) (hn4 : 4 * m + 4 ≤ L) {w : zz_W} (h : zIv zQI n 0 w) {k : Nat} (hk : k < 32) : ∃ n2 w2, zz_B l zTs D zcl zFK cy z0 sp (zTys cy) G "ToolMillLaw" mn 7 code 470 (39, zLv (Int32.ofNat (4 * m)), [.int (Int32.ofNat k)], w) (899, zLv (Int32.ofNat (4 * m)), [], w2) ∧ n2 ≤ m + 1 ∧ zIv zQI n2 0 w2 := by
  by_cases h22 : 22 < k
  · obtain ⟨hG, hP, -, hsp0, -, -, -, -⟩ := H
    refine ⟨n, w, zz_O_B (zlw_39 (K := zz_k0) zz_k0_KS hsp0 hG hP) rfl (ze_tsw_d (Or.inr ?_)), by omega, h⟩
    rw [Int32.toInt_ofNat_of_lt (by omega)]
    omega
  · match k, h22 with
    | 0, _ => obtain ⟨w2, b, hI⟩ := zLc_0 (mn := mn) H hX hL hnm hn4 h; exact ⟨_, w2, b, Nat.succ_le_succ hnm, hI⟩
    | 1, _ => obtain ⟨w2, b, hI⟩ := zLc_1 (mn := mn) H hX hL hnm hn4 h; exact ⟨_, w2, b, Nat.succ_le_succ hnm, hI⟩
    | 2, _ => obtain ⟨w2, b, hI⟩ := zLc_2 (mn := mn) H hX hL hnm hn4 h; exact ⟨_, w2, b, Nat.succ_le_succ hnm, hI⟩
    | 3, _ => obtain ⟨w2, b, hI⟩ := zLc_3 (mn := mn) H hX hL hnm hn4 h; exact ⟨_, w2, b, Nat.succ_le_succ hnm, hI⟩
    | 4, _ => obtain ⟨w2, b, hI⟩ := zLc_4 (mn := mn) H hX hL hnm hn4 h; exact ⟨_, w2, b, Nat.succ_le_succ hnm, hI⟩
    | 5, _ => obtain ⟨w2, b, hI⟩ := zLc_5 (mn := mn) H hX hL hnm hn4 h; exact ⟨_, w2, b, Nat.succ_le_succ hnm, hI⟩
    | 6, _ => obtain ⟨w2, b, hI⟩ := zLc_6 (mn := mn) H hX hL hnm hn4 h; exact ⟨_, w2, b, Nat.succ_le_succ hnm, hI⟩
    | 7, _ => obtain ⟨w2, b, hI⟩ := zLc_7 (mn := mn) H hX hL hnm hn4 h; exact ⟨_, w2, b, Nat.succ_le_succ hnm, hI⟩
    | 8, _ => obtain ⟨w2, b, hI⟩ := zLc_8 (mn := mn) H hX hL hnm hn4 h; exact ⟨_, w2, b, Nat.succ_le_succ hnm, hI⟩
    | 9, _ => obtain ⟨w2, b, hI⟩ := zLc_9 (mn := mn) H hX hL hnm hn4 h; exact ⟨_, w2, b, Nat.succ_le_succ hnm, hI⟩
    | 10, _ => obtain ⟨w2, b, hI⟩ := zLc_10 (mn := mn) H hX hL hnm hn4 h; exact ⟨_, w2, b, Nat.succ_le_succ hnm, hI⟩
    | 11, _ => obtain ⟨w2, b, hI⟩ := zLc_11 (mn := mn) H hX hL hnm hn4 h; exact ⟨_, w2, b, Nat.succ_le_succ hnm, hI⟩
    | 12, _ => obtain ⟨w2, b, hI⟩ := zLc_12 (mn := mn) H hX hL hnm hn4 h; exact ⟨_, w2, b, Nat.succ_le_succ hnm, hI⟩
    | 13, _ => obtain ⟨w2, b, hI⟩ := zLc_13 (mn := mn) H hX hL hnm hn4 h; exact ⟨_, w2, b, Nat.succ_le_succ hnm, hI⟩
    | 14, _ => obtain ⟨w2, b, hI⟩ := zLc_14 (mn := mn) H hX hL hnm hn4 h; exact ⟨_, w2, b, Nat.succ_le_succ hnm, hI⟩
    | 15, _ => obtain ⟨w2, b, hI⟩ := zLc_15 (mn := mn) H hX hL hnm hn4 h; exact ⟨_, w2, b, Nat.succ_le_succ hnm, hI⟩
    | 16, _ => obtain ⟨w2, b, hI⟩ := zLc_16 (mn := mn) H hX hL hnm hn4 h; exact ⟨_, w2, b, Nat.succ_le_succ hnm, hI⟩
    | 17, _ => obtain ⟨w2, b, hI⟩ := zLc_17 (mn := mn) H hX hL hnm hn4 h; exact ⟨_, w2, b, Nat.succ_le_succ hnm, hI⟩
    | 18, _ => obtain ⟨w2, b, hI⟩ := zLc_18 (mn := mn) H hX hL hnm hn4 h; exact ⟨_, w2, b, Nat.succ_le_succ hnm, hI⟩
    | 19, _ => obtain ⟨w2, b, hI⟩ := zLc_19 (mn := mn) H hX hL hnm hn4 h; exact ⟨_, w2, b, Nat.succ_le_succ hnm, hI⟩
    | 20, _ => obtain ⟨w2, b, hI⟩ := zLc_20 (mn := mn) H hX hL hnm hn4 h; exact ⟨_, w2, b, Nat.succ_le_succ hnm, hI⟩
    | 21, _ => obtain ⟨w2, b, hI⟩ := zLc_21 (mn := mn) H hX hL hnm hn4 h; exact ⟨_, w2, b, Nat.succ_le_succ hnm, hI⟩
    | 22, _ => obtain ⟨w2, b, hI⟩ := zLc_22 (mn := mn) H hX hL hnm hn4 h; exact ⟨_, w2, b, Nat.succ_le_succ hnm, hI⟩
    | _ + 23, h22 => exact absurd h22 (by omega)
theorem zl_Lm4 {L : Nat} (hL : L ≤ 2048) : (Int32.ofNat L - Int32.ofNat 4).toInt = (L : Int) - 4 := by
  rw [Int32.toInt_sub, Int32.toInt_ofNat_of_lt (by omega), Int32.toInt_ofNat_of_lt (by decide)]
  rw [Int.bmod_def]
  omega
theorem zLaw_go {l : Launch} {D : va_G} {cy : Nat → ClassId} {z0 : Nat} {sp : Nat → Nat} {G : State → Prop} (H : zHy l D cy z0 sp G) {mn : String} {L : Nat} {xs : Nat → Int32} (hX : ∀ U, G U → va_T .int (sp 999999) L (fun j => .int (xs j)) (fun q : Nat => z0 ≤ q) U U.heap) (hL : L ≤ 2048) : ∀ (g m n : Nat) (w : zz_W), L < 4 * m + 4 + 4 * g → 4 * m ≤ 2048 → n ≤ m → zIv zQI n 0 w → ∃ i w2, zz_B l zTs D zcl zFK cy z0 sp (zTys cy) G "ToolMillLaw" mn 7 code 470 (23, zLv (Int32.ofNat (4 * m)), [], w) (906, zLv i, [.int (Int32.ofNat 1)], w2) ∧ w2.1 ≤ 1000 ∧ w2.2.1 ≤ 2330000 := by
  obtain ⟨hG, hP, hW, hsp0, hr⟩ := id H
  have KS := zKS (l := l) (D := D) (cy := cy) (z0 := z0) (sp := sp) hsp0 hG hP 470
  have hlt : ∀ m : Nat, 4 * m ≤ 2048 → (Int32.ofNat L - Int32.ofNat 4 < Int32.ofNat (4 * m) ↔ L < 4 * m + 4) := fun m hm => by
    rw [Int32.lt_iff_toInt_lt, zl_Lm4 hL, Int32.toInt_ofNat_of_lt (by omega)]
    omega
  intro g
  induction g with
  | zero =>
    intro m n w h1 h2 h3 h
    have c1 := h.2.2.1
    have c2 := h.2.2.2
    exact ⟨_, w, zLaw_out KS hsp0 hG hP hX ((hlt m h2).mpr (by omega)), by omega, by omega⟩
  | succ g ih =>
    intro m n w h1 h2 h3 h
    by_cases hc : L < 4 * m + 4
    · have c1 := h.2.2.1
      have c2 := h.2.2.2
      exact ⟨_, w, zLaw_out KS hsp0 hG hP hX ((hlt m h2).mpr hc), by omega, by omega⟩
    · have e4 : zz_nI (Int32.ofNat (4 * m)) = 4 * m := zz_nI_ofNat (by omega)
      have b1 := zLaw_in (mn := mn) (i := Int32.ofNat (4 * m)) (w := w) KS hsp0 hG hP hX (by omega) (fun q => hc ((hlt m h2).mp q)) (by rw [e4]; omega)
      rw [zF_lo (xs (zz_nI (Int32.ofNat (4 * m)))) 5 31 (by decide) rfl] at b1
      obtain ⟨n2, w2, b2, h4, h5⟩ := zLaw_39 (mn := mn) H hX hL h3 (by omega) h (zF_lt (xs (zz_nI (Int32.ofNat (4 * m)))) 0 5)
      have b3 := zLaw_e (l := l) (D := D) (cy := cy) (z0 := z0) (sp := sp) (mn := mn) (w := w2) (i := Int32.ofNat (4 * m)) KS hsp0 hG hP
      rw [zl_ij, show 4 * m + 4 = 4 * (m + 1) by omega] at b3
      obtain ⟨i, w3, b4, k1, k2⟩ := ih (m + 1) n2 w2 (by omega) (by omega) h4 h5
      exact ⟨i, w3, zz_B_tr b1 (zz_B_tr b2 (zz_B_tr b3 b4)), k1, k2⟩
