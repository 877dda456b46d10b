section
/-! the law, from its entry to its loop, around it and out, by program -/
noncomputable def zW00 : zz_W := (0, 0, [zz_ch0, zz_ch0, zz_ch0, zz_ch0, zz_ch0, zz_ch0, zz_ch0, zz_ch0, zz_ch0, zz_ch0, zz_ch0, zz_ch0, zz_ch0, zz_ch0, zz_ch0, zz_ch0, zz_ch0, zz_ch0, zz_ch0, zz_ch0, zz_ch0, zz_ch0, zz_ch0, zz_ch0, zz_ch0, zz_ch0, zz_ch0, zz_ch0, zz_ch0, zz_ch0, zz_ch0, zz_ch0, zz_ch0, zz_ch0, zz_ch0, zz_ch0, zz_ch0, zz_ch0, zz_ch0, zz_ch0, zz_ch0, zz_ch0, zz_ch0, zz_ch0, zz_ch0, zz_ch0, zz_ch0, zz_ch0, zz_ch0, zz_ch0, zz_ch0, zz_ch0, zz_ch0, zz_ch0, zz_ch0, zz_ch0, zz_ch0, zz_ch0, zz_ch0, zz_ch0, zz_ch0, zz_ch0, zz_ch0, zz_ch0])
noncomputable def zF_0 : zz_F := (0, [(0, .ref 1999999)], [], zW00)
noncomputable def zF_1 : zz_F := (3, [(0, .ref 1999999)], [(.ref 0 : Value)], zWa)
noncomputable def zF_2 : zz_F := (4, [(0, .ref 1999999)], [(.ref 0 : Value), (.ref 0 : Value)], zWa)
noncomputable def zF_3 : zz_F := (7, [(0, .ref 1999999)], [(.ref 0 : Value)], zW1)
noncomputable def zF_4 : zz_F := (8, [(1, .ref 0), (0, .ref 1999999)], [], zW1)
noncomputable def zF_5 : zz_F := (11, [(1, .ref 0), (0, .ref 1999999)], [(.ref 171 : Value)], zWb)
noncomputable def zF_6 : zz_F := (12, [(1, .ref 0), (0, .ref 1999999)], [(.ref 171 : Value), (.ref 171 : Value)], zWb)
noncomputable def zF_7 : zz_F := (15, [(1, .ref 0), (0, .ref 1999999)], [(.ref 171 : Value)], zW2)
noncomputable def zF_8 : zz_F := (16, [(2, .ref 171), (1, .ref 0), (0, .ref 1999999)], [], zW2)
noncomputable def zF_9 : zz_F := (17, [(2, .ref 171), (1, .ref 0), (0, .ref 1999999)], [(.int (Int32.ofNat 1) : Value)], zW2)
noncomputable def zF_10 : zz_F := (19, [(2, .ref 171), (1, .ref 0), (0, .ref 1999999)], [(.ref 328 : Value)], zW3)
noncomputable def zF_11 : zz_F := (20, [(3, .ref 328), (2, .ref 171), (1, .ref 0), (0, .ref 1999999)], [], zW3)
noncomputable def zF_12 : zz_F := (21, [(3, .ref 328), (2, .ref 171), (1, .ref 0), (0, .ref 1999999)], [(.int (Int32.ofNat 0) : Value)], zW3)
noncomputable def zF_13 : zz_F := (23, [(4, .int (Int32.ofNat 0)), (3, .ref 328), (2, .ref 171), (1, .ref 0), (0, .ref 1999999)], [], zW3)
set_option maxRecDepth 100000 in
theorem zLaw_pre {l : Launch} {D : va_G} {cy : Nat → ClassId} {z0 : Nat} {sp : Nat → Nat} {G : State → Prop} {mn : String} {d : Nat} {K : zz_K} (hKS : zz_KS l D zcl zFK cy z0 sp (zTys cy) G zYN (fun y => Cond.code (zYN y) (zCN y) (zMQ y) (zRT y) :: zTs) d K) (hsp0 : sp 18446744073709551616 = 0) (hG : zz_GF z0 G) (hP : ∀ U, G U → zz_GD zS zS2 zLg z0 sp U) (h1 : K 0 [.ref 0] zWa = some ([], zW1)) (h2 : K 24 [.ref 171] zWb = some ([], zW2)) : zz_B l zTs D zcl zFK cy z0 sp (zTys cy) G "ToolMillLaw" mn 7 code d zF_0 zF_13 := by
  have b0 : zz_B l zTs D zcl zFK cy z0 sp (zTys cy) G "ToolMillLaw" mn 7 code d zF_0 zF_1 := zz_O_B (zlw_0 hKS hsp0 hG hP) rfl rfl
  have b1 : zz_B l zTs D zcl zFK cy z0 sp (zTys cy) G "ToolMillLaw" mn 7 code d zF_1 zF_2 := zz_O_B (zlw_3 hKS hsp0 hG hP) rfl rfl
  have b2 : zz_B l zTs D zcl zFK cy z0 sp (zTys cy) G "ToolMillLaw" mn 7 code d zF_2 zF_3 := zz_O_B (zlw_4 hKS hsp0 hG hP) rfl ((show (za_callV 1 0 0 7) K zF_2 = zz_cr 7 [(0, .ref 1999999)] [.ref 0] (K 0 [.ref 0] zWa) from rfl).trans (by rw [h1]; rfl))
  have b3 : zz_B l zTs D zcl zFK cy z0 sp (zTys cy) G "ToolMillLaw" mn 7 code d zF_3 zF_4 := zz_O_B (zlw_7 hKS hsp0 hG hP) rfl rfl
  have b4 : zz_B l zTs D zcl zFK cy z0 sp (zTys cy) G "ToolMillLaw" mn 7 code d zF_4 zF_5 := zz_O_B (zlw_8 hKS hsp0 hG hP) rfl rfl
  have b5 : zz_B l zTs D zcl zFK cy z0 sp (zTys cy) G "ToolMillLaw" mn 7 code d zF_5 zF_6 := zz_O_B (zlw_11 hKS hsp0 hG hP) rfl rfl
  have b6 : zz_B l zTs D zcl zFK cy z0 sp (zTys cy) G "ToolMillLaw" mn 7 code d zF_6 zF_7 := zz_O_B (zlw_12 hKS hsp0 hG hP) rfl ((show (za_callV 0 24 0 15) K zF_6 = zz_cr 15 [(1, .ref 0), (0, .ref 1999999)] [.ref 171] (K 24 [.ref 171] zWb) from rfl).trans (by rw [h2]; rfl))
  have b7 : zz_B l zTs D zcl zFK cy z0 sp (zTys cy) G "ToolMillLaw" mn 7 code d zF_7 zF_8 := zz_O_B (zlw_15 hKS hsp0 hG hP) rfl rfl
  have b8 : zz_B l zTs D zcl zFK cy z0 sp (zTys cy) G "ToolMillLaw" mn 7 code d zF_8 zF_9 := zz_O_B (zlw_16 hKS hsp0 hG hP) rfl rfl
  have b9 : zz_B l zTs D zcl zFK cy z0 sp (zTys cy) G "ToolMillLaw" mn 7 code d zF_9 zF_10 := zz_O_B (zlw_17 hKS hsp0 hG hP) rfl rfl
  have b10 : zz_B l zTs D zcl zFK cy z0 sp (zTys cy) G "ToolMillLaw" mn 7 code d zF_10 zF_11 := zz_O_B (zlw_19 hKS hsp0 hG hP) rfl rfl
  have b11 : zz_B l zTs D zcl zFK cy z0 sp (zTys cy) G "ToolMillLaw" mn 7 code d zF_11 zF_12 := zz_O_B (zlw_20 hKS hsp0 hG hP) rfl rfl
  have b12 : zz_B l zTs D zcl zFK cy z0 sp (zTys cy) G "ToolMillLaw" mn 7 code d zF_12 zF_13 := zz_O_B (zlw_21 hKS hsp0 hG hP) rfl rfl
  exact zz_B_tr b0 (zz_B_tr b1 (zz_B_tr b2 (zz_B_tr b3 (zz_B_tr b4 (zz_B_tr b5 (zz_B_tr b6 (zz_B_tr b7 (zz_B_tr b8 (zz_B_tr b9 (zz_B_tr b10 (zz_B_tr b11 (b12))))))))))))
theorem zLaw_out {l : Launch} {D : va_G} {cy : Nat → ClassId} {z0 : Nat} {sp : Nat → Nat} {G : State → Prop} {mn : String} {d : Nat} {K : zz_K} {L : Nat} {xs : Nat → Int32} (hKS : zz_KS l D zcl zFK cy z0 sp (zTys cy) G zYN (fun y => Cond.code (zYN y) (zCN y) (zMQ y) (zRT y) :: zTs) d K) (hsp0 : sp 18446744073709551616 = 0) (hG : zz_GF z0 G) (hP : ∀ U, G U → zz_GD zS zS2 zLg z0 sp U) (hX : ∀ U, G U → va_T .int (sp 999999) L (fun j => .int (xs j)) (fun q : Nat => z0 ≤ q) U U.heap) {i : Int32} {w : zz_W} (hlt : Int32.ofNat L - Int32.ofNat 4 < i) : zz_B l zTs D zcl zFK cy z0 sp (zTys cy) G "ToolMillLaw" mn 7 code d (23, zLv i, [], w) (906, zLv i, [.int (Int32.ofNat 1)], w) := by
  have b0 : zz_B l zTs D zcl zFK cy z0 sp (zTys cy) G "ToolMillLaw" mn 7 code d (23, zLv i, [], w) (25, zLv i, [.int i], w) := zz_O_B (zlw_23 hKS hsp0 hG hP) rfl rfl
  have b1 : zz_B l zTs D zcl zFK cy z0 sp (zTys cy) G "ToolMillLaw" mn 7 code d (25, zLv i, [.int i], w) (26, zLv i, [.ref 1999999, .int i], w) := zz_O_B (zlw_25 hKS hsp0 hG hP) rfl rfl
  have b2 : zz_B l zTs D zcl zFK cy z0 sp (zTys cy) G "ToolMillLaw" mn 7 code d (26, zLv i, [.ref 1999999, .int i], w) (27, zLv i, [.int (Int32.ofNat L), .int i], w) := zz_O_B (zlw_26 (K := K) hX) rfl (by show zz_fN L (fun v => some (27, zLv i, Value.int (Int32.ofNat v) :: [Value.int i], w)) = _; rw [zz_fN_eq])
  have b3 : zz_B l zTs D zcl zFK cy z0 sp (zTys cy) G "ToolMillLaw" mn 7 code d (27, zLv i, [.int (Int32.ofNat L), .int i], w) (28, zLv i, [.int (Int32.ofNat 4), .int (Int32.ofNat L), .int i], w) := zz_O_B (zlw_27 hKS hsp0 hG hP) rfl rfl
  have b4 : zz_B l zTs D zcl zFK cy z0 sp (zTys cy) G "ToolMillLaw" mn 7 code d (28, zLv i, [.int (Int32.ofNat 4), .int (Int32.ofNat L), .int i], w) (29, zLv i, [.int (Int32.ofNat L - Int32.ofNat 4), .int i], w) := zz_O_B (zlw_28 hKS hsp0 hG hP) rfl (by show zz_fI (Int32.ofNat L - Int32.ofNat 4) (fun z => some (29, zLv i, Value.int z :: [Value.int i], w)) = _; rw [zz_fI_eq])
  have b5 : zz_B l zTs D zcl zFK cy z0 sp (zTys cy) G "ToolMillLaw" mn 7 code d (29, zLv i, [.int (Int32.ofNat L - Int32.ofNat 4), .int i], w) (905, zLv i, [], w) := zz_O_B (zlw_29 hKS hsp0 hG hP) rfl (by show (if Int32.ofNat L - Int32.ofNat 4 < i then some ((905, zLv i, [], w) : zz_F) else some (32, zLv i, [], w)) = _; rw [if_pos hlt])
  have b6 : zz_B l zTs D zcl zFK cy z0 sp (zTys cy) G "ToolMillLaw" mn 7 code d (905, zLv i, [], w) (906, zLv i, [.int (Int32.ofNat 1)], w) := zz_O_B (zlw_905 hKS hsp0 hG hP) rfl rfl
  exact zz_B_tr b0 (zz_B_tr b1 (zz_B_tr b2 (zz_B_tr b3 (zz_B_tr b4 (zz_B_tr b5 (b6))))))
theorem zLaw_in {l : Launch} {D : va_G} {cy : Nat → ClassId} {z0 : Nat} {sp : Nat → Nat} {G : State → Prop} {mn : String} {d : Nat} {K : zz_K} {L : Nat} {xs : Nat → Int32} (hKS : zz_KS l D zcl zFK cy z0 sp (zTys cy) G zYN (fun y => Cond.code (zYN y) (zCN y) (zMQ y) (zRT y) :: zTs) d K) (hsp0 : sp 18446744073709551616 = 0) (hG : zz_GF z0 G) (hP : ∀ U, G U → zz_GD zS zS2 zLg z0 sp U) (hX : ∀ U, G U → va_T .int (sp 999999) L (fun j => .int (xs j)) (fun q : Nat => z0 ≤ q) U U.heap) {i : Int32} {w : zz_W} (hL : L ≤ 2147483648) (hge : ¬ Int32.ofNat L - Int32.ofNat 4 < i) (hj : zz_nI i < L) : zz_B l zTs D zcl zFK cy z0 sp (zTys cy) G "ToolMillLaw" mn 7 code d (23, zLv i, [], w) (39, zLv i, [.int (xs (zz_nI i) &&& Int32.ofNat 31)], w) := by
  have b0 : zz_B l zTs D zcl zFK cy z0 sp (zTys cy) G "ToolMillLaw" mn 7 code d (23, zLv i, [], w) (25, zLv i, [.int i], w) := zz_O_B (zlw_23 hKS hsp0 hG hP) rfl rfl
  have b1 : zz_B l zTs D zcl zFK cy z0 sp (zTys cy) G "ToolMillLaw" mn 7 code d (25, zLv i, [.int i], w) (26, zLv i, [.ref 1999999, .int i], w) := zz_O_B (zlw_25 hKS hsp0 hG hP) rfl rfl
  have b2 : zz_B l zTs D zcl zFK cy z0 sp (zTys cy) G "ToolMillLaw" mn 7 code d (26, zLv i, [.ref 1999999, .int i], w) (27, zLv i, [.int (Int32.ofNat L), .int i], w) := zz_O_B (zlw_26 (K := K) hX) rfl (by show zz_fN L (fun v => some (27, zLv i, Value.int (Int32.ofNat v) :: [Value.int i], w)) = _; rw [zz_fN_eq])
  have b3 : zz_B l zTs D zcl zFK cy z0 sp (zTys cy) G "ToolMillLaw" mn 7 code d (27, zLv i, [.int (Int32.ofNat L), .int i], w) (28, zLv i, [.int (Int32.ofNat 4), .int (Int32.ofNat L), .int i], w) := zz_O_B (zlw_27 hKS hsp0 hG hP) rfl rfl
  have b4 : zz_B l zTs D zcl zFK cy z0 sp (zTys cy) G "ToolMillLaw" mn 7 code d (28, zLv i, [.int (Int32.ofNat 4), .int (Int32.ofNat L), .int i], w) (29, zLv i, [.int (Int32.ofNat L - Int32.ofNat 4), .int i], w) := zz_O_B (zlw_28 hKS hsp0 hG hP) rfl (by show zz_fI (Int32.ofNat L - Int32.ofNat 4) (fun z => some (29, zLv i, Value.int z :: [Value.int i], w)) = _; rw [zz_fI_eq])
  have b5 : zz_B l zTs D zcl zFK cy z0 sp (zTys cy) G "ToolMillLaw" mn 7 code d (29, zLv i, [.int (Int32.ofNat L - Int32.ofNat 4), .int i], w) (32, zLv i, [], w) := zz_O_B (zlw_29 hKS hsp0 hG hP) rfl (by show (if Int32.ofNat L - Int32.ofNat 4 < i then some ((905, zLv i, [], w) : zz_F) else some (32, zLv i, [], w)) = _; rw [if_neg hge])
  have b6 : zz_B l zTs D zcl zFK cy z0 sp (zTys cy) G "ToolMillLaw" mn 7 code d (32, zLv i, [], w) (33, zLv i, [.ref 1999999], w) := zz_O_B (zlw_32 hKS hsp0 hG hP) rfl rfl
  have b7 : zz_B l zTs D zcl zFK cy z0 sp (zTys cy) G "ToolMillLaw" mn 7 code d (33, zLv i, [.ref 1999999], w) (35, zLv i, [.int i, .ref 1999999], w) := zz_O_B (zlw_33 hKS hsp0 hG hP) rfl rfl
  have b8 : zz_B l zTs D zcl zFK cy z0 sp (zTys cy) G "ToolMillLaw" mn 7 code d (35, zLv i, [.int i, .ref 1999999], w) (36, zLv i, [.int (xs (zz_nI i))], w) := zz_O_B (zlw_35 (K := K) hX hL) rfl (by unfold za_kl zg_el; show (match (if (1999999 : Nat) = 1999999 ∧ zz_nI i < L then some (zz_nI (xs (zz_nI i))) else none) with | some v => zz_fN v (fun v => some (36, zLv i, Value.int (Int32.ofNat v) :: [], w)) | none => none) = _; rw [if_pos ⟨rfl, hj⟩]; show zz_fN (zz_nI (xs (zz_nI i))) _ = _; rw [zz_fN_eq, zz_nI_of])
  have b9 : zz_B l zTs D zcl zFK cy z0 sp (zTys cy) G "ToolMillLaw" mn 7 code d (36, zLv i, [.int (xs (zz_nI i))], w) (38, zLv i, [.int (Int32.ofNat 31), .int (xs (zz_nI i))], w) := zz_O_B (zlw_36 hKS hsp0 hG hP) rfl rfl
  have b10 : zz_B l zTs D zcl zFK cy z0 sp (zTys cy) G "ToolMillLaw" mn 7 code d (38, zLv i, [.int (Int32.ofNat 31), .int (xs (zz_nI i))], w) (39, zLv i, [.int (xs (zz_nI i) &&& Int32.ofNat 31)], w) := zz_O_B (zlw_38 hKS hsp0 hG hP) rfl (by show zz_fI (xs (zz_nI i) &&& Int32.ofNat 31) (fun z => some (39, zLv i, Value.int z :: [], w)) = _; rw [zz_fI_eq])
  exact zz_B_tr b0 (zz_B_tr b1 (zz_B_tr b2 (zz_B_tr b3 (zz_B_tr b4 (zz_B_tr b5 (zz_B_tr b6 (zz_B_tr b7 (zz_B_tr b8 (zz_B_tr b9 (b10))))))))))
theorem zLaw_e {l : Launch} {D : va_G} {cy : Nat → ClassId} {z0 : Nat} {sp : Nat → Nat} {G : State → Prop} {mn : String} {d : Nat} {K : zz_K} (hKS : zz_KS l D zcl zFK cy z0 sp (zTys cy) G zYN (fun y => Cond.code (zYN y) (zCN y) (zMQ y) (zRT y) :: zTs) d K) (hsp0 : sp 18446744073709551616 = 0) (hG : zz_GF z0 G) (hP : ∀ U, G U → zz_GD zS zS2 zLg z0 sp U) {i : Int32} {w : zz_W} : zz_B l zTs D zcl zFK cy z0 sp (zTys cy) G "ToolMillLaw" mn 7 code d (899, zLv i, [], w) (23, zLv (i + Int32.ofNat 4), [], w) := by
  have b1 : zz_B l zTs D zcl zFK cy z0 sp (zTys cy) G "ToolMillLaw" mn 7 code d (899, zLv i, [], w) (902, zLv (i + Int32.ofNat 4), [], w) := zz_O_B (zlw_899 hKS hsp0 hG hP) rfl (by
    show zz_fI (i + Int32.ofNat 4) (fun z => zz_lf false 4 (zLv i) (fun l => some ((902, (4, Value.int z) :: l, [], w) : zz_F))) = _
    rw [zz_fI_eq, zz_lf_eq]
    rfl)
  have b2 : zz_B l zTs D zcl zFK cy z0 sp (zTys cy) G "ToolMillLaw" mn 7 code d (902, zLv (i + Int32.ofNat 4), [], w) (23, zLv (i + Int32.ofNat 4), [], w) := zz_O_B (zlw_902 hKS hsp0 hG hP) rfl rfl
  exact zz_B_tr b1 b2
theorem zLaw_39 {l : Launch} {D : va_G} {cy : Nat → ClassId} {z0 : Nat} {sp : Nat → Nat} {G : State → Prop} (H : zHy l D cy z0 sp G) {mn : String} {L n m : Nat} {xs : Nat → Int32} (hX : ∀ U, G U → va_T .int (sp 999999) L (fun j => .int (xs j)) (fun q : Nat => z0 ≤ q) U U.heap) (hL : L ≤ 2048) (hnm : n ≤ m) (hn4 : 4 * m + 4 ≤ L) {w : zz_W} (h : zIv zQI n 0 w) {k : Nat} (hk : k < 32) : ∃ n2 w2, zz_B l zTs D zcl zFK cy z0 sp (zTys cy) G "ToolMillLaw" mn 7 code 470 (39, zLv (Int32.ofNat (4 * m)), [.int (Int32.ofNat k)], w) (899, zLv (Int32.ofNat (4 * m)), [], w2) ∧ n2 ≤ m + 1 ∧ zIv zQI n2 0 w2 := by
  by_cases h22 : 22 < k
  · obtain ⟨hG, hP, -, hsp0, -, -, -, -⟩ := H
    refine ⟨n, w, zz_O_B (zlw_39 (K := zz_k0) zz_k0_KS hsp0 hG hP) rfl (ze_tsw_d (Or.inr ?_)), by omega, h⟩
    rw [Int32.toInt_ofNat_of_lt (by omega)]
    omega
  · match k, h22 with
    | 0, _ => obtain ⟨w2, b, hI⟩ := zLc_0 (mn := mn) H hX hL hnm hn4 h; exact ⟨_, w2, b, Nat.succ_le_succ hnm, hI⟩
    | 1, _ => obtain ⟨w2, b, hI⟩ := zLc_1 (mn := mn) H hX hL hnm hn4 h; exact ⟨_, w2, b, Nat.succ_le_succ hnm, hI⟩
    | 2, _ => obtain ⟨w2, b, hI⟩ := zLc_2 (mn := mn) H hX hL hnm hn4 h; exact ⟨_, w2, b, Nat.succ_le_succ hnm, hI⟩
    | 3, _ => obtain ⟨w2, b, hI⟩ := zLc_3 (mn := mn) H hX hL hnm hn4 h; exact ⟨_, w2, b, Nat.succ_le_succ hnm, hI⟩
    | 4, _ => obtain ⟨w2, b, hI⟩ := zLc_4 (mn := mn) H hX hL hnm hn4 h; exact ⟨_, w2, b, Nat.succ_le_succ hnm, hI⟩
    | 5, _ => obtain ⟨w2, b, hI⟩ := zLc_5 (mn := mn) H hX hL hnm hn4 h; exact ⟨_, w2, b, Nat.succ_le_succ hnm, hI⟩
    | 6, _ => obtain ⟨w2, b, hI⟩ := zLc_6 (mn := mn) H hX hL hnm hn4 h; exact ⟨_, w2, b, Nat.succ_le_succ hnm, hI⟩
    | 7, _ => obtain ⟨w2, b, hI⟩ := zLc_7 (mn := mn) H hX hL hnm hn4 h; exact ⟨_, w2, b, Nat.succ_le_succ hnm, hI⟩
    | 8, _ => obtain ⟨w2, b, hI⟩ := zLc_8 (mn := mn) H hX hL hnm hn4 h; exact ⟨_, w2, b, Nat.succ_le_succ hnm, hI⟩
    | 9, _ => obtain ⟨w2, b, hI⟩ := zLc_9 (mn := mn) H hX hL hnm hn4 h; exact ⟨_, w2, b, Nat.succ_le_succ hnm, hI⟩
    | 10, _ => obtain ⟨w2, b, hI⟩ := zLc_10 (mn := mn) H hX hL hnm hn4 h; exact ⟨_, w2, b, Nat.succ_le_succ hnm, hI⟩
    | 11, _ => obtain ⟨w2, b, hI⟩ := zLc_11 (mn := mn) H hX hL hnm hn4 h; exact ⟨_, w2, b, Nat.succ_le_succ hnm, hI⟩
    | 12, _ => obtain ⟨w2, b, hI⟩ := zLc_12 (mn := mn) H hX hL hnm hn4 h; exact ⟨_, w2, b, Nat.succ_le_succ hnm, hI⟩
    | 13, _ => obtain ⟨w2, b, hI⟩ := zLc_13 (mn := mn) H hX hL hnm hn4 h; exact ⟨_, w2, b, Nat.succ_le_succ hnm, hI⟩
    | 14, _ => obtain ⟨w2, b, hI⟩ := zLc_14 (mn := mn) H hX hL hnm hn4 h; exact ⟨_, w2, b, Nat.succ_le_succ hnm, hI⟩
    | 15, _ => obtain ⟨w2, b, hI⟩ := zLc_15 (mn := mn) H hX hL hnm hn4 h; exact ⟨_, w2, b, Nat.succ_le_succ hnm, hI⟩
    | 16, _ => obtain ⟨w2, b, hI⟩ := zLc_16 (mn := mn) H hX hL hnm hn4 h; exact ⟨_, w2, b, Nat.succ_le_succ hnm, hI⟩
    | 17, _ => obtain ⟨w2, b, hI⟩ := zLc_17 (mn := mn) H hX hL hnm hn4 h; exact ⟨_, w2, b, Nat.succ_le_succ hnm, hI⟩
    | 18, _ => obtain ⟨w2, b, hI⟩ := zLc_18 (mn := mn) H hX hL hnm hn4 h; exact ⟨_, w2, b, Nat.succ_le_succ hnm, hI⟩
    | 19, _ => obtain ⟨w2, b, hI⟩ := zLc_19 (mn := mn) H hX hL hnm hn4 h; exact ⟨_, w2, b, Nat.succ_le_succ hnm, hI⟩
    | 20, _ => obtain ⟨w2, b, hI⟩ := zLc_20 (mn := mn) H hX hL hnm hn4 h; exact ⟨_, w2, b, Nat.succ_le_succ hnm, hI⟩
    | 21, _ => obtain ⟨w2, b, hI⟩ := zLc_21 (mn := mn) H hX hL hnm hn4 h; exact ⟨_, w2, b, Nat.succ_le_succ hnm, hI⟩
    | 22, _ => obtain ⟨w2, b, hI⟩ := zLc_22 (mn := mn) H hX hL hnm hn4 h; exact ⟨_, w2, b, Nat.succ_le_succ hnm, hI⟩
    | _ + 23, h22 => exact absurd h22 (by omega)
theorem zl_Lm4 {L : Nat} (hL : L ≤ 2048) : (Int32.ofNat L - Int32.ofNat 4).toInt = (L : Int) - 4 := by
  rw [Int32.toInt_sub, Int32.toInt_ofNat_of_lt (by omega), Int32.toInt_ofNat_of_lt (by decide)]
  rw [Int.bmod_def]
  omega
theorem zLaw_go {l : Launch} {D : va_G} {cy : Nat → ClassId} {z0 : Nat} {sp : Nat → Nat} {G : State → Prop} (H : zHy l D cy z0 sp G) {mn : String} {L : Nat} {xs : Nat → Int32} (hX : ∀ U, G U → va_T .int (sp 999999) L (fun j => .int (xs j)) (fun q : Nat => z0 ≤ q) U U.heap) (hL : L ≤ 2048) : ∀ (g m n : Nat) (w : zz_W), L < 4 * m + 4 + 4 * g → 4 * m ≤ 2048 → n ≤ m → zIv zQI n 0 w → ∃ i w2, zz_B l zTs D zcl zFK cy z0 sp (zTys cy) G "ToolMillLaw" mn 7 code 470 (23, zLv (Int32.ofNat (4 * m)), [], w) (906, zLv i, [.int (Int32.ofNat 1)], w2) ∧ w2.1 ≤ 1000 ∧ w2.2.1 ≤ 2330000 := by
  obtain ⟨hG, hP, hW, hsp0, hr⟩ := id H
  have KS := zKS (l := l) (D := D) (cy := cy) (z0 := z0) (sp := sp) hsp0 hG hP 470
  have hlt : ∀ m : Nat, 4 * m ≤ 2048 → (Int32.ofNat L - Int32.ofNat 4 < Int32.ofNat (4 * m) ↔ L < 4 * m + 4) := fun m hm => by
    rw [Int32.lt_iff_toInt_lt, zl_Lm4 hL, Int32.toInt_ofNat_of_lt (by omega)]
    omega
  intro g
  induction g with
  | zero =>
    intro m n w h1 h2 h3 h
    have c1 := h.2.2.1
    have c2 := h.2.2.2
    exact ⟨_, w, zLaw_out KS hsp0 hG hP hX ((hlt m h2).mpr (by omega)), by omega, by omega⟩
  | succ g ih =>
    intro m n w h1 h2 h3 h
    by_cases hc : L < 4 * m + 4
    · have c1 := h.2.2.1
      have c2 := h.2.2.2
      exact ⟨_, w, zLaw_out KS hsp0 hG hP hX ((hlt m h2).mpr hc), by omega, by omega⟩
    · have e4 : zz_nI (Int32.ofNat (4 * m)) = 4 * m := zz_nI_ofNat (by omega)
      have b1 := zLaw_in (mn := mn) (i := Int32.ofNat (4 * m)) (w := w) KS hsp0 hG hP hX (by omega) (fun q => hc ((hlt m h2).mp q)) (by rw [e4]; omega)
      rw [zF_lo (xs (zz_nI (Int32.ofNat (4 * m)))) 5 31 (by decide) rfl] at b1
      obtain ⟨n2, w2, b2, h4, h5⟩ := zLaw_39 (mn := mn) H hX hL h3 (by omega) h (zF_lt (xs (zz_nI (Int32.ofNat (4 * m)))) 0 5)
      have b3 := zLaw_e (l := l) (D := D) (cy := cy) (z0 := z0) (sp := sp) (mn := mn) (w := w2) (i := Int32.ofNat (4 * m)) KS hsp0 hG hP
      rw [zl_ij, show 4 * m + 4 = 4 * (m + 1) by omega] at b3
      obtain ⟨i, w3, b4, k1, k2⟩ := ih (m + 1) n2 w2 (by omega) (by omega) h4 h5
      exact ⟨i, w3, zz_B_tr b1 (zz_B_tr b2 (zz_B_tr b3 b4)), k1, k2⟩
end
section
/-! what holds behind both constructors, by program -/
noncomputable section
/-- the element at j of a row that is given by those that are not 0 -/
def z8Y_lk : List (Nat × Nat) → Nat → Nat
  | [], _ => 0
  | q :: r, j => if q.1 = j then q.2 else z8Y_lk r j
def z8Y_st (w : Nat) : Nat → List (Nat × Nat) → Bool
  | _, [] => true
  | lo, q :: r => Nat.ble lo q.1 && (Nat.blt q.2 (2 ^ w) && z8Y_st w (q.1 + 1) r)
theorem z8Y_pw (w a b : Nat) (h : a < b) : 2 ^ (w * b) = 2 ^ (w * a) * (2 ^ w * 2 ^ (w * (b - a - 1))) := by
  rw [← Nat.pow_add, ← Nat.pow_add]
  congr 1
  have e : b = a + (1 + (b - a - 1)) := by omega
  calc w * b = w * (a + (1 + (b - a - 1))) := by rw [← e]
    _ = _ := by rw [Nat.mul_add, Nat.mul_add, Nat.mul_one]
theorem z8Y_at {w : Nat} : ∀ {L : List (Nat × Nat)} {lo : Nat}, z8Y_st w lo L = true → (∃ R, zz_sp w L = 2 ^ (w * lo) * R) ∧ ∀ j, zz_at w (zz_sp w L) j = z8Y_lk L j ∧ (j < lo → z8Y_lk L j = 0)
  | [], lo, _ => ⟨⟨0, rfl⟩, fun j => ⟨by show (0 >>> (w * j)) % 2 ^ w = 0; rw [Nat.zero_shiftRight, Nat.zero_mod], fun _ => rfl⟩⟩
  | q :: r, lo, h => by
    obtain ⟨h1, h2⟩ := zz_and (show (Nat.ble lo q.1 && (Nat.blt q.2 (2 ^ w) && z8Y_st w (q.1 + 1) r)) = true from h)
    obtain ⟨h2, h3⟩ := zz_and h2
    have h1 := zz_ble h1
    have h2 := zz_blt h2
    obtain ⟨⟨R, e⟩, hr⟩ := z8Y_at h3
    have e0 : zz_sp w (q :: r) = 2 ^ (w * q.1) * (q.2 + 2 ^ w * R) := by
      show (q.2 <<< (w * q.1)) + zz_sp w r = _
      rw [e, Nat.shiftLeft_eq, Nat.mul_succ, Nat.pow_add, Nat.mul_add, Nat.mul_comm q.2, Nat.mul_assoc]
    have hd : ∀ N j, zz_at w N j = N / 2 ^ (w * j) % 2 ^ w := fun N j => by
      unfold zz_at
      rw [Nat.shiftRight_eq_div_pow]
    refine ⟨⟨2 ^ (w * (q.1 - lo)) * (q.2 + 2 ^ w * R), ?_⟩, fun j => ⟨?_, fun hj => ?_⟩⟩
    · rw [e0, ← Nat.mul_assoc, ← Nat.pow_add, ← Nat.mul_add, Nat.add_sub_cancel' h1]
    · rw [hd, e0]
      show _ = (if q.1 = j then q.2 else z8Y_lk r j)
      rcases Nat.lt_trichotomy j q.1 with hj | hj | hj
      · rw [if_neg (by omega), (hr j).2 (by omega), z8Y_pw w j q.1 hj, Nat.mul_assoc, Nat.mul_div_cancel_left _ (Nat.two_pow_pos _), Nat.mul_assoc, Nat.mul_mod_right]
      · subst hj
        rw [if_pos rfl, Nat.mul_div_cancel_left _ (Nat.two_pow_pos _), Nat.add_mul_mod_self_left, Nat.mod_eq_of_lt h2]
      · rw [if_neg (by omega), ← (hr j).1, hd, e, z8Y_pw w q.1 j hj, Nat.mul_div_mul_left _ _ (Nat.two_pow_pos _), Nat.mul_succ, Nat.pow_add, Nat.mul_assoc, Nat.mul_div_mul_left _ _ (Nat.two_pow_pos _), ← Nat.div_div_eq_div_mul, Nat.add_mul_div_left _ _ (Nat.two_pow_pos _), Nat.div_eq_of_lt h2, Nat.zero_add, Nat.mul_div_mul_left _ _ (Nat.two_pow_pos _)]
    · show (if q.1 = j then q.2 else z8Y_lk r j) = 0
      rw [if_neg (by omega)]
      exact (hr j).2 (by omega)
theorem z8Y_mem : ∀ (L : List (Nat × Nat)) (j : Nat), z8Y_lk L j = 0 ∨ (j, z8Y_lk L j) ∈ L
  | [], _ => Or.inl rfl
  | q :: r, j => by
    show (if q.1 = j then q.2 else z8Y_lk r j) = 0 ∨ (j, if q.1 = j then q.2 else z8Y_lk r j) ∈ q :: r
    by_cases h : q.1 = j
    · rw [if_pos h]
      subst h
      exact Or.inr List.mem_cons_self
    · rw [if_neg h]
      rcases z8Y_mem r j with e | e
      · exact Or.inl e
      · exact Or.inr (List.mem_cons_of_mem _ e)
/-- a cell with its elements that are not 0, of so many bits -/
abbrev z8YC : Type := Nat × Nat × Nat × Nat × List (Nat × Nat)
def z8Y0 : z8YC := (0, 0, 0, 32, [])
def z8Yf (q : z8YC) : zz_C := (q.1, q.2.1, q.2.2.1, zz_sp q.2.2.2.1 q.2.2.2.2)
def z8Y_in (lo hi : Int) (v : Nat) : Bool := decide (lo ≤ (Int32.ofNat v).toInt) && decide ((Int32.ofNat v).toInt ≤ hi)
theorem z8Y_in_ok {lo hi : Int} {v : Nat} (h : z8Y_in lo hi v = true) : lo ≤ (Int32.ofNat v).toInt ∧ (Int32.ofNat v).toInt ≤ hi := by
  obtain ⟨h1, h2⟩ := zz_and h
  exact ⟨of_decide_eq_true h1, of_decide_eq_true h2⟩
def z8Y_ok0 (H : zk_H) (L : List (Nat × Nat)) : Bool := (z8Y_in H.2.2.2.1 H.2.2.2.2.1 0 && L.all (fun q => z8Y_in H.2.2.2.1 H.2.2.2.2.1 q.2)) && (H.2.2.2.2.2.all (fun c => z8Y_in c.2.2.1 c.2.2.2 0) && L.all (fun q => match H.2.2.2.2.2[q.1 % H.2.2.2.2.2.length]? with
  | some c => z8Y_in c.2.2.1 c.2.2.2 q.2
  | none => true))
theorem z8Y_ok0_ok {H : zk_H} {L : List (Nat × Nat)} (h : z8Y_ok0 H L = true) (j : Nat) : (H.2.2.2.1 ≤ (Int32.ofNat (z8Y_lk L j)).toInt ∧ (Int32.ofNat (z8Y_lk L j)).toInt ≤ H.2.2.2.2.1) ∧ ∀ q : Nat × Nat × Int × Int, H.2.2.2.2.2[j % H.2.2.2.2.2.length]? = some q → q.2.2.1 ≤ (Int32.ofNat (z8Y_lk L j)).toInt ∧ (Int32.ofNat (z8Y_lk L j)).toInt ≤ q.2.2.2 := by
  obtain ⟨h1, h2⟩ := zz_and h
  obtain ⟨h1, h3⟩ := zz_and h1
  obtain ⟨h2, h4⟩ := zz_and h2
  rcases z8Y_mem L j with e | e
  · rw [e]
    exact ⟨z8Y_in_ok h1, fun q hq => z8Y_in_ok (List.all_eq_true.mp h2 q (List.mem_of_getElem? hq))⟩
  · refine ⟨z8Y_in_ok (List.all_eq_true.mp h3 _ e), fun q hq => ?_⟩
    have h5 := List.all_eq_true.mp h4 _ e
    have h5 : (match H.2.2.2.2.2[j % H.2.2.2.2.2.length]? with
      | some c => z8Y_in c.2.2.1 c.2.2.2 (z8Y_lk L j)
      | none => true) = true := h5
    rw [hq] at h5
    exact z8Y_in_ok h5
def z8Y_fs {α : Type} (f : Nat → α → Bool) : Nat → List α → Bool
  | _, [] => true
  | k, q :: r => f k q && z8Y_fs f (k + 1) r
theorem z8Y_fs_ok {α : Type} {f : Nat → α → Bool} : ∀ {l : List α} {k : Nat}, z8Y_fs f k l = true → ∀ (i : Nat) (q : α), l[i]? = some q → f (k + i) q = true
  | [], _, _, i, q, hq => by cases hq
  | a :: r, k, h, i, q, hq => by
    obtain ⟨h1, h2⟩ := zz_and (show (f k a && z8Y_fs f (k + 1) r) = true from h)
    cases i with
    | zero => cases hq; exact h1
    | succ i =>
      have := z8Y_fs_ok h2 i q hq
      rw [show k + (i + 1) = k + 1 + i by omega]
      exact this
def zkb (H : zk_H) (c : z8YC) : Bool := (Nat.beq c.1 H.1 && (Nat.beq c.2.1 H.2.1 && Nat.beq c.2.2.1 H.2.2.1)) && (z8Y_st c.2.2.2.1 0 c.2.2.2.2 && cond (Nat.beq H.1 0) (Nat.beq c.2.2.2.1 32 && z8Y_ok0 H c.2.2.2.2) (cond (Nat.beq H.1 2) (Nat.beq c.2.2.2.1 32 && z8Y_fs (fun k (q : Nat × Nat × Int × Int) => Nat.beq (z8Y_lk c.2.2.2.2 k) q.2.1) 0 H.2.2.2.2.2) (cond (Nat.beq H.1 3) (Nat.beq c.2.2.2.1 64 && z8Y_fs (fun k (q : Nat × Nat × Int × Int) => (cond (Nat.beq q.1 0) (z8Y_in q.2.2.1 q.2.2.2 (z8Y_lk c.2.2.2.2 k)) true) && cond (Nat.beq q.1 2) (Nat.beq (z8Y_lk c.2.2.2.2 k) q.2.1) true) 0 H.2.2.2.2.2) (Nat.beq c.2.2.2.1 64 && z8Y_fs (fun k (q : Nat × Nat × Int × Int) => Nat.beq (z8Y_lk c.2.2.2.2 k) q.2.1) 0 H.2.2.2.2.2))))
theorem zkb_ok {H : zk_H} {c : z8YC} (h : zkb H c = true) : zk_Hok H (z8Yf c) := by
  obtain ⟨a, b, n, wd, L⟩ := c
  obtain ⟨h1, h2⟩ := zz_and h
  obtain ⟨h1, h3⟩ := zz_and h1
  obtain ⟨h3, h4⟩ := zz_and h3
  obtain ⟨h2, h5⟩ := zz_and h2
  have hat := fun j => ((z8Y_at (w := wd) h2).2 j).1
  refine ⟨zz_beq h1, zz_beq h3, zz_beq h4, fun e => ?_, fun e => ?_, fun e => ?_, fun e => ?_⟩
  · rw [e] at h5
    obtain ⟨h6, h7⟩ := zz_and (show (Nat.beq wd 32 && z8Y_ok0 H L) = true from h5)
    have hw : wd = 32 := zz_beq h6
    subst hw
    intro j _
    show (H.2.2.2.1 ≤ (Int32.ofNat (zz_at 32 (zz_sp 32 L) j)).toInt ∧ (Int32.ofNat (zz_at 32 (zz_sp 32 L) j)).toInt ≤ H.2.2.2.2.1) ∧ ∀ q : Nat × Nat × Int × Int, H.2.2.2.2.2[j % H.2.2.2.2.2.length]? = some q → q.2.2.1 ≤ (Int32.ofNat (zz_at 32 (zz_sp 32 L) j)).toInt ∧ (Int32.ofNat (zz_at 32 (zz_sp 32 L) j)).toInt ≤ q.2.2.2
    rw [hat j]
    exact z8Y_ok0_ok h7 j
  · rw [e] at h5
    obtain ⟨h6, h7⟩ := zz_and (show (Nat.beq wd 32 && z8Y_fs (fun k (q : Nat × Nat × Int × Int) => Nat.beq (z8Y_lk L k) q.2.1) 0 H.2.2.2.2.2) = true from h5)
    have hw : wd = 32 := zz_beq h6
    subst hw
    intro k q hq
    have h8 := z8Y_fs_ok h7 k q hq
    rw [Nat.zero_add] at h8
    show zz_at 32 (zz_sp 32 L) k = q.2.1
    rw [hat k]
    exact zz_beq h8
  · rw [e] at h5
    obtain ⟨h6, h7⟩ := zz_and (show (Nat.beq wd 64 && z8Y_fs (fun k (q : Nat × Nat × Int × Int) => (cond (Nat.beq q.1 0) (z8Y_in q.2.2.1 q.2.2.2 (z8Y_lk L k)) true) && cond (Nat.beq q.1 2) (Nat.beq (z8Y_lk L k) q.2.1) true) 0 H.2.2.2.2.2) = true from h5)
    have hw : wd = 64 := zz_beq h6
    subst hw
    intro k q hq
    have h8 := z8Y_fs_ok h7 k q hq
    rw [Nat.zero_add] at h8
    obtain ⟨h8, h9⟩ := zz_and h8
    show (q.1 = 0 → q.2.2.1 ≤ (Int32.ofNat (zz_at 64 (zz_sp 64 L) k)).toInt ∧ (Int32.ofNat (zz_at 64 (zz_sp 64 L) k)).toInt ≤ q.2.2.2) ∧ (q.1 = 2 → zz_at 64 (zz_sp 64 L) k = q.2.1)
    rw [hat k]
    refine ⟨fun e => ?_, fun e => ?_⟩
    · rw [e] at h8
      exact z8Y_in_ok h8
    · rw [e] at h9
      exact zz_beq h9
  · rw [e] at h5
    obtain ⟨h6, h7⟩ := zz_and (show (Nat.beq wd 64 && z8Y_fs (fun k (q : Nat × Nat × Int × Int) => Nat.beq (z8Y_lk L k) q.2.1) 0 H.2.2.2.2.2) = true from h5)
    have hw : wd = 64 := zz_beq h6
    subst hw
    intro k q hq
    have h8 := z8Y_fs_ok h7 k q hq
    rw [Nat.zero_add] at h8
    show zz_at 64 (zz_sp 64 L) k = q.2.1
    rw [hat k]
    exact zz_beq h8
/-- all numbers below N -/
def z8Y_all (N : Nat) (f : Nat → Bool) : Bool := (List.range (N / 128 + 1)).all (fun a => (List.range 128).all (fun b => cond (Nat.blt (128 * a + b) N) (f (128 * a + b)) true))
theorem z8Y_all_ok {N : Nat} {f : Nat → Bool} (h : z8Y_all N f = true) : ∀ n, n < N → f n = true := by
  intro n hn
  have h1 := List.all_eq_true.mp (List.all_eq_true.mp h (n / 128) (List.mem_range.mpr (by omega))) (n % 128) (List.mem_range.mpr (Nat.mod_lt _ (by decide)))
  have e : 128 * (n / 128) + n % 128 = n := Nat.div_add_mod n 128
  rw [e, show Nat.blt n N = true from Nat.ble_eq.mpr hn] at h1
  exact h1

def z8Ys_0 : List z8YC := [(3, 1, 17, 64, [(0, 2), (2, 3), (4, 4), (7, 4294967295), (8, 4294967295), (11, 13), (12, 19), (13, 24), (14, 51), (15, 47), (16, 53)]),
  (0, 1, 3000, 32, []),
  (2, 4, 7, 32, [(0, 59), (1, 76), (2, 93), (3, 110), (4, 127), (5, 144), (6, 162)]),
  (0, 0, 64, 32, []),
  (3, 9, 9, 64, [(0, 6), (1, 7), (2, 8), (3, 9), (4, 10), (5, 11), (6, 12), (7, 161), (8, 157)]),
  (1, 3, 4000, 64, [(0, 7105651), (1, 7107187), (2, 6386291), (3, 1986817139), (4, 1986818675), (5, 1986097779), (6, 29290), (7, 1919705450), (8, 30518463020890483), (9, 461195539042), (10, 1768449645), (11, 1768453229), (12, 1869375085), (13, 1869378669), (14, 1953265005), (15, 504464438637), (16, 7760228), (17, 1970694500), (18, 1969513569), (19, 1969386867), (20, 6581857), (21, 29295), (22, 7499640), (23, 7499630), (24, 7629939), (25, 1970564211), (26, 2054450274), (27, 2053465954), (28, 119165922077794), (29, 119165921093474), (30, 106), (31, 7102826), (32, 7431522), (33, 6647394), (34, 2053467234), (35, 2054448994), (36, 504279360609), (37, 1769237619), (38, 504280411251), (39, 1768189537), (40, 6910575), (41, 1769107320), (42, 6911340), (43, 25196), (44, 26732), (45, 30572), (46, 7692908), (47, 7694444), (48, 25203), (49, 26739), (50, 30579), (51, 7368558), (52, 1702260589), (53, 7630702), (54, 6776174), (55, 26988), (56, 24940), (57, 98), (58, 2054251874), (59, 2053467746), (60, 7629922), (61, 6645602), (62, 7628642), (63, 6646882), (64, 500236121134), (65, 418564367406), (66, 119170031970094), (67, 431349132078), (68, 500068087598), (69, 431416637230), (70, 439904987182), (71, 435745808942), (72, 111477510927150), (73, 121390429397294), (74, 1952805678), (75, 8243105135629529646), (76, 7237970032640093742), (77, 6711598), (78, 28549237963122990), (79, 435728180526), (80, 112602842555694), (81, 122537084284206), (82, 469836391726), (83, 500101902894), (84, 491311228206), (85, 7496054), (86, 1668248176), (87, 26217), (88, 1702063205), (89, 435610544247), (90, 121437875889522), (91, 7632239), (92, 28265), (93, 478660622884), (94, 7627044), (95, 3175972), (96, 3241508), (97, 3170596), (98, 3236132), (99, 3301668), (100, 3367204), (101, 3175460), (102, 3240996), (103, 3306532), (104, 3372068), (105, 3437604), (106, 3503140), (107, 3568676), (108, 3634212), (109, 3175204), (110, 3240740), (111, 3306276), (112, 3371812), (113, 3437348), (114, 3502884), (115, 3568420), (116, 3633956), (117, 3699748), (118, 3765284), (119, 3173156), (120, 3238692), (121, 7366436), (122, 7369508), (123, 7366180), (124, 6386212), (125, 12324), (126, 12580), (127, 12836), (128, 13092), (129, 13348), (130, 13604), (131, 13860), (132, 14116), (133, 14372), (134, 14628), (135, 3158308), (136, 3223844), (137, 3289380), (138, 3354916), (139, 3420452), (140, 3485988), (141, 3551524), (142, 3617060), (143, 3682596), (144, 3748132), (145, 3158564), (146, 3224100), (147, 3289636), (148, 3355172), (149, 3420708), (150, 3486244), (151, 3551780), (152, 3617316), (153, 3682852), (154, 3748388), (155, 3158820), (156, 3224356), (157, 128034610115423), (158, 1986618463), (159, 132376871987551), (160, 470021010015)]),
  (1, 3, 4000, 64, [(76, 29285)]),
  (0, 0, 4000, 32, [(0, 4294967295), (1, 4294967295), (2, 4294967295), (3, 4294967295), (4, 4294967295), (5, 4294967295), (6, 4294967295), (7, 4294967295), (8, 4294967295), (9, 4294967295), (10, 4294967295), (11, 4294967295), (12, 4294967295), (13, 4294967295), (14, 4294967295), (15, 4294967295), (16, 4294967295), (17, 4294967295), (18, 4294967295), (19, 4294967295), (20, 4294967295), (21, 4294967295), (22, 4294967295), (23, 4294967295), (24, 4294967295), (25, 4294967295), (26, 4294967295), (27, 4294967295), (28, 4294967295), (29, 4294967295), (30, 4294967295), (31, 4294967295), (32, 4294967295), (33, 4294967295), (34, 4294967295), (35, 4294967295), (36, 4294967295), (37, 4294967295), (38, 4294967295), (39, 4294967295), (40, 4294967295), (41, 4294967295), (42, 4294967295), (43, 4294967295), (44, 4294967295), (45, 4294967295), (46, 4294967295), (47, 4294967295), (48, 4294967295), (49, 4294967295), (50, 4294967295), (51, 4294967295), (52, 4294967295), (53, 4294967295), (54, 4294967295), (55, 4294967295), (56, 4294967295), (57, 4294967295), (58, 4294967295), (59, 4294967295), (60, 4294967295), (61, 4294967295), (62, 4294967295), (63, 4294967295), (64, 4294967295), (65, 4294967295), (66, 4294967295), (67, 4294967295), (68, 4294967295), (69, 4294967295), (70, 4294967295), (71, 4294967295), (72, 4294967295), (73, 4294967295), (74, 4294967295), (75, 4294967295), (76, 4294967295), (77, 4294967295), (78, 4294967295), (79, 4294967295), (80, 4294967295), (81, 4294967295), (82, 4294967295), (83, 4294967295), (84, 4294967295), (85, 4294967295), (86, 4294967295), (87, 4294967295), (88, 4294967295), (89, 4294967295), (90, 4294967295), (91, 4294967295), (92, 4294967295), (93, 4294967295), (94, 4294967295), (95, 4294967295), (96, 4294967295), (97, 4294967295), (98, 4294967295), (99, 4294967295), (100, 4294967295), (101, 4294967295), (102, 4294967295), (103, 4294967295), (104, 4294967295), (105, 4294967295), (106, 4294967295), (107, 4294967295), (108, 4294967295), (109, 4294967295), (110, 4294967295), (111, 4294967295), (112, 4294967295), (113, 4294967295), (114, 4294967295), (115, 4294967295), (116, 4294967295), (117, 4294967295), (118, 4294967295), (119, 4294967295), (120, 4294967295), (121, 4294967295), (122, 4294967295), (123, 4294967295), (124, 4294967295), (125, 4294967295), (126, 4294967295), (127, 4294967295), (128, 4294967295), (129, 4294967295), (130, 4294967295), (131, 4294967295), (132, 4294967295), (133, 4294967295), (134, 4294967295), (135, 4294967295), (136, 4294967295), (137, 4294967295), (138, 4294967295), (139, 4294967295), (140, 4294967295), (141, 4294967295), (142, 4294967295), (143, 4294967295), (144, 4294967295), (145, 4294967295), (146, 4294967295), (147, 4294967295), (148, 4294967295), (149, 4294967295), (150, 4294967295), (151, 4294967295), (152, 4294967295), (153, 4294967295), (154, 4294967295), (155, 4294967295), (156, 4294967295), (158, 1), (159, 2), (160, 3)]),
  (0, 0, 4000, 32, [(157, 6), (158, 6), (159, 6), (160, 6)]),
  (0, 0, 4000, 32, []),
  (0, 0, 8192, 32, [(92, 44), (133, 131), (168, 26), (176, 155), (195, 101), (210, 30), (213, 88), (220, 67), (232, 51), (249, 141), (280, 161), (308, 150), (381, 136), (475, 87), (483, 48), (508, 2), (610, 22), (643, 119), (685, 83), (716, 115), (750, 70), (761, 77), (773, 60), (774, 106), (802, 123), (812, 23), (813, 75), (848, 110), (1000, 63), (1016, 33), (1068, 159), (1160, 61), (1201, 49), (1388, 52), (1395, 62), (1555, 64), (1624, 18), (1699, 57), (1739, 130), (1783, 145), (1841, 154), (1856, 82), (1859, 100), (1899, 135), (1914, 140), (1930, 47), (1936, 37), (1955, 1), (1972, 149), (2183, 90), (2189, 21), (2190, 8), (2191, 69), (2308, 118), (2331, 81), (2346, 38), (2381, 114), (2436, 3), (2439, 105), (2521, 89), (2556, 97), (2803, 125), (2914, 73), (2921, 54), (3091, 86), (3202, 84), (3329, 7), (3346, 129), (3432, 36), (3447, 59), (3448, 144), (3500, 78), (3505, 134), (3506, 153), (3524, 99), (3579, 139), (3591, 27), (3637, 148), (3665, 5), (3695, 157), (3696, 122), (3745, 93), (3776, 72), (3826, 28), (3843, 121), (3972, 109), (3986, 35), (4046, 113), (4095, 11), (4104, 104), (4110, 15), (4151, 9), (4220, 96), (4396, 80), (4451, 91), (4539, 13), (4652, 158), (4886, 79), (4952, 128), (5021, 25), (5088, 39), (5112, 4), (5113, 133), (5114, 143), (5170, 152), (5189, 98), (5204, 66), (5208, 19), (5231, 56), (5243, 138), (5302, 147), (5303, 124), (5360, 156), (5458, 71), (5508, 120), (5579, 117), (5593, 6), (5637, 108), (5710, 112), (5769, 103), (5914, 85), (5979, 74), (6039, 41), (6166, 68), (6180, 12), (6246, 31), (6251, 24), (6329, 42), (6478, 17), (6499, 32), (6515, 76), (6534, 34), (6559, 127), (6581, 94), (6624, 14), (6677, 95), (6718, 132), (6729, 65), (6777, 142), (6835, 151), (6837, 45), (6852, 16), (6908, 137), (6966, 146), (7243, 116), (7302, 107), (7316, 46), (7321, 58), (7375, 111), (7433, 102), (7482, 20), (7484, 92), (7553, 10), (7639, 160), (7705, 40), (7766, 43), (7859, 55), (7946, 50), (8017, 53), (8165, 126), (8167, 29)]),
  (0, 0, 4000, 32, [(0, 1955), (1, 508), (2, 2436), (3, 5112), (4, 3665), (5, 5593), (6, 3329), (7, 2190), (8, 4151), (9, 7553), (10, 4095), (11, 6180), (12, 4539), (13, 6624), (14, 4110), (15, 6852), (16, 6478), (17, 1624), (18, 5208), (19, 7482), (20, 2189), (21, 610), (22, 812), (23, 6251), (24, 5021), (25, 168), (26, 3591), (27, 3826), (28, 8167), (29, 210), (30, 6246), (31, 6499), (32, 1016), (33, 6534), (34, 3986), (35, 3432), (36, 1936), (37, 2346), (38, 5088), (39, 7705), (40, 6039), (41, 6329), (42, 7766), (43, 92), (44, 6837), (45, 7316), (46, 1930), (47, 483), (48, 1201), (49, 7946), (50, 232), (51, 1388), (52, 8017), (53, 2921), (54, 7859), (55, 5231), (56, 1699), (57, 7321), (58, 3447), (59, 773), (60, 1160), (61, 1395), (62, 1000), (63, 1555), (64, 6729), (65, 5204), (66, 220), (67, 6166), (68, 2191), (69, 750), (70, 5458), (71, 3776), (72, 2914), (73, 5979), (74, 813), (75, 6515), (76, 761), (77, 3500), (78, 4886), (79, 4396), (80, 2331), (81, 1856), (82, 685), (83, 3202), (84, 5914), (85, 3091), (86, 475), (87, 213), (88, 2521), (89, 2183), (90, 4451), (91, 7484), (92, 3745), (93, 6581), (94, 6677), (95, 4220), (96, 2556), (97, 5189), (98, 3524), (99, 1859), (100, 195), (101, 7433), (102, 5769), (103, 4104), (104, 2439), (105, 774), (106, 7302), (107, 5637), (108, 3972), (109, 848), (110, 7375), (111, 5710), (112, 4046), (113, 2381), (114, 716), (115, 7243), (116, 5579), (117, 2308), (118, 643), (119, 5508), (120, 3843), (121, 3696), (122, 802), (123, 5303), (124, 2803), (125, 8165), (126, 6559), (127, 4952), (128, 3346), (129, 1739), (130, 133), (131, 6718), (132, 5113), (133, 3505), (134, 1899), (135, 381), (136, 6908), (137, 5243), (138, 3579), (139, 1914), (140, 249), (141, 6777), (142, 5114), (143, 3448), (144, 1783), (145, 6966), (146, 5302), (147, 3637), (148, 1972), (149, 308), (150, 6835), (151, 5170), (152, 3506), (153, 1841), (154, 176), (155, 5360), (156, 3695), (157, 4652), (158, 1068), (159, 7639), (160, 280)]),
  (3, 3, 5, 64, [(0, 5), (1, 14), (2, 15), (3, 16), (4, 17)]),
  (0, 0, 64, 32, [(0, 4294967295), (1, 4294967295), (2, 30), (3, 31), (4, 32), (5, 33), (6, 34), (7, 35), (8, 4294967295), (9, 36), (10, 37), (11, 38), (12, 39), (13, 40), (14, 41), (15, 42), (16, 4294967295), (17, 4294967295), (18, 4294967295), (19, 4294967295), (20, 4294967295), (21, 4294967295), (22, 4294967295), (23, 4294967295), (24, 4294967295), (25, 4294967295), (26, 4294967295), (27, 4294967295), (28, 4294967295), (29, 4294967295), (30, 4294967295), (31, 4294967295), (32, 43), (33, 44), (34, 4294967295), (35, 45), (36, 46), (37, 47), (38, 4294967295), (39, 4294967295), (40, 48), (41, 49), (42, 4294967295), (43, 50), (44, 4294967295), (45, 4294967295), (46, 4294967295), (47, 4294967295), (48, 4294967295), (49, 4294967295), (50, 4294967295), (51, 4294967295), (52, 4294967295), (53, 4294967295), (54, 4294967295), (55, 4294967295), (56, 4294967295), (57, 4294967295), (58, 4294967295), (59, 4294967295), (60, 4294967295), (61, 4294967295), (62, 4294967295), (63, 4294967295)]),
  (0, 0, 64, 32, [(1, 4294967295), (2, 1), (3, 2), (4, 3), (5, 4294967295), (6, 4), (7, 5), (8, 6), (9, 7), (10, 4294967295), (11, 4294967295), (12, 8), (13, 9), (14, 4294967295), (15, 4294967295), (16, 10), (17, 11), (18, 12), (19, 13), (20, 4294967295), (21, 4294967295), (22, 4294967295), (23, 4294967295), (24, 14), (25, 15), (26, 16), (27, 17), (28, 4294967295), (29, 4294967295), (30, 4294967295), (31, 4294967295), (32, 4294967295), (33, 18), (34, 4294967295), (35, 19), (36, 20), (37, 21), (38, 22), (39, 23), (40, 4294967295), (41, 4294967295), (42, 24), (43, 25), (44, 4294967295), (45, 4294967295), (46, 4294967295), (47, 4294967295), (48, 4294967295), (49, 4294967295), (50, 4294967295), (51, 4294967295), (52, 4294967295), (53, 4294967295), (54, 4294967295), (55, 4294967295), (56, 4294967295), (57, 4294967295), (58, 4294967295), (59, 4294967295), (60, 4294967295), (61, 4294967295), (62, 4294967295), (63, 4294967295)]),
  (0, 0, 32, 32, [(0, 26), (1, 27), (2, 4294967295), (3, 4294967295), (4, 4294967295), (5, 4294967295), (6, 4294967295), (7, 4294967295), (8, 4294967295), (9, 4294967295), (10, 4294967295), (11, 4294967295), (12, 4294967295), (13, 4294967295), (14, 4294967295), (15, 4294967295), (16, 28), (17, 29), (18, 4294967295), (19, 4294967295), (20, 4294967295), (21, 4294967295), (22, 4294967295), (23, 4294967295), (24, 4294967295), (25, 4294967295), (26, 4294967295), (27, 4294967295), (28, 4294967295), (29, 4294967295), (30, 4294967295), (31, 4294967295)])]
def z8Ys_1 : List z8YC := [(3, 13, 4, 64, [(0, 18)]),
  (0, 1, 16, 32, []),
  (3, 10, 17, 64, [(2, 5), (4, 20), (10, 21), (12, 22), (15, 23)]),
  (0, 0, 9006, 32, []),
  (0, 0, 9006, 32, []),
  (0, 0, 2250, 32, []),
  (0, 0, 750, 32, []),
  (3, 2, 19, 64, [(1, 13), (2, 5), (3, 33), (4, 41), (5, 162), (6, 2), (7, 1), (8, 4), (10, 25), (11, 26), (12, 27), (13, 28), (14, 29), (15, 30), (16, 31), (17, 32), (18, 4294967295)]),
  (0, 0, 10, 32, [(0, 4294967295), (1, 4294967295), (2, 4294967295), (3, 4294967295), (4, 4294967295), (5, 4294967295), (6, 4294967295), (7, 4294967295), (8, 4294967295), (9, 4294967295)]),
  (0, 0, 10, 32, [(0, 4294967295), (1, 4294967295), (2, 4294967295), (3, 4294967295), (4, 4294967295), (5, 4294967295), (6, 4294967295), (7, 4294967295), (8, 4294967295), (9, 4294967295)]),
  (0, 0, 10, 32, []),
  (0, 0, 3000, 32, []),
  (0, 0, 64, 32, [(0, 4294967295), (1, 4294967295), (2, 4294967295)]),
  (0, 0, 64, 32, [(1, 8), (2, 9)]),
  (0, 0, 64, 32, [(1, 4294967295), (2, 4294967295)]),
  (0, 0, 64, 32, [(0, 4294967295), (2, 8)])]
def z8Ys_2 : List z8YC := [(3, 5, 21, 64, [(1, 13), (2, 34), (3, 12), (4, 5), (5, 161), (6, 184), (7, 14), (8, 14), (9, 172), (10, 184), (11, 35), (13, 36), (14, 37), (17, 38), (18, 39), (19, 40)]),
  (0, 1, 3001, 32, [(0, 46), (1, 119), (2, 97), (3, 110), (4, 116), (5, 32), (6, 109), (7, 97), (8, 105), (9, 110), (10, 44), (11, 51), (12, 32), (13, 51), (14, 50), (15, 110)]),
  (0, 0, 88, 32, [(0, 185), (2, 185), (3, 1), (4, 4294967295)]),
  (0, 0, 36, 32, []),
  (1, 3, 130, 64, []),
  (0, 1, 6000, 32, []),
  (0, 0, 60, 32, []),
  (0, 0, 16, 32, []),
  (3, 11, 12, 64, [(1, 3), (2, 4294967295), (3, 5), (4, 34), (5, 12), (6, 42), (7, 43), (8, 44), (9, 45), (10, 46), (11, 4)]),
  (0, 0, 3002, 32, [(0, 2), (1, 2), (2, 44), (3, 3)]),
  (0, 0, 3002, 32, [(0, 68), (1, 4294967295), (2, 9), (3, 3)]),
  (0, 0, 3002, 32, [(0, 5), (1, 10), (2, 11), (3, 12), (4, 12)]),
  (1, 3, 3002, 64, [(0, 500068087598), (1, 1852399981), (2, 461195539042), (3, 1)]),
  (1, 3, 3002, 64, []),
  (3, 7, 20, 64, [(9, 48), (10, 49), (13, 13), (14, 50)]),
  (0, 0, 32, 32, [])]
def z8Ys_3 : List z8YC := [(0, 0, 200, 32, []),
  (0, 0, 16384, 32, []),
  (3, 6, 14, 64, [(4, 5), (5, 47), (9, 52)]),
  (0, 0, 448, 32, []),
  (3, 8, 21, 64, [(6, 54), (7, 5), (9, 55), (10, 56), (11, 57), (14, 58)]),
  (0, 0, 200, 32, []),
  (0, 0, 720, 32, []),
  (0, 0, 360, 32, []),
  (0, 0, 24576, 32, []),
  (0, 0, 16600, 32, []),
  (3, 12, 16, 64, [(1, 60), (2, 75), (4, 67), (5, 68), (7, 69), (8, 70), (10, 71), (11, 72), (13, 73), (14, 74)]),
  (3, 4, 16, 64, [(0, 61), (2, 62), (4, 63), (5, 64), (7, 65), (8, 66)]),
  (0, 1, 40000, 32, []),
  (0, 0, 6400, 32, []),
  (0, 0, 3072, 32, []),
  (1, 3, 512, 64, [])]
def z8Ys_4 : List z8YC := [(0, 0, 60, 32, []),
  (1, 3, 60, 64, []),
  (1, 3, 128, 64, []),
  (0, 0, 384, 32, []),
  (1, 3, 1200, 64, []),
  (0, 0, 3000, 32, []),
  (1, 3, 1200, 64, []),
  (0, 0, 1200, 32, []),
  (1, 3, 6000, 64, []),
  (0, 0, 18000, 32, []),
  (0, 1, 16384, 32, []),
  (3, 12, 16, 64, [(1, 77), (2, 92), (4, 84), (5, 85), (7, 86), (8, 87), (10, 88), (11, 89), (13, 90), (14, 91)]),
  (3, 4, 16, 64, [(0, 78), (2, 79), (4, 80), (5, 81), (7, 82), (8, 83)]),
  (0, 1, 40000, 32, []),
  (0, 0, 6400, 32, []),
  (0, 0, 3072, 32, [])]
def z8Ys_5 : List z8YC := [(1, 3, 512, 64, []),
  (0, 0, 60, 32, []),
  (1, 3, 60, 64, []),
  (1, 3, 128, 64, []),
  (0, 0, 384, 32, []),
  (1, 3, 1200, 64, []),
  (0, 0, 3000, 32, []),
  (1, 3, 1200, 64, []),
  (0, 0, 1200, 32, []),
  (1, 3, 6000, 64, []),
  (0, 0, 18000, 32, []),
  (0, 1, 16384, 32, []),
  (3, 12, 16, 64, [(1, 94), (2, 109), (4, 101), (5, 102), (7, 103), (8, 104), (10, 105), (11, 106), (13, 107), (14, 108)]),
  (3, 4, 16, 64, [(0, 95), (2, 96), (4, 97), (5, 98), (7, 99), (8, 100)]),
  (0, 1, 40000, 32, []),
  (0, 0, 6400, 32, [])]
def z8Ys_6 : List z8YC := [(0, 0, 3072, 32, []),
  (1, 3, 512, 64, []),
  (0, 0, 60, 32, []),
  (1, 3, 60, 64, []),
  (1, 3, 128, 64, []),
  (0, 0, 384, 32, []),
  (1, 3, 1200, 64, []),
  (0, 0, 3000, 32, []),
  (1, 3, 1200, 64, []),
  (0, 0, 1200, 32, []),
  (1, 3, 6000, 64, []),
  (0, 0, 18000, 32, []),
  (0, 1, 16384, 32, []),
  (3, 12, 16, 64, [(1, 111), (2, 126), (4, 118), (5, 119), (7, 120), (8, 121), (10, 122), (11, 123), (13, 124), (14, 125)]),
  (3, 4, 16, 64, [(0, 112), (2, 113), (4, 114), (5, 115), (7, 116), (8, 117)]),
  (0, 1, 40000, 32, [])]
def z8Ys_7 : List z8YC := [(0, 0, 6400, 32, []),
  (0, 0, 3072, 32, []),
  (1, 3, 512, 64, []),
  (0, 0, 60, 32, []),
  (1, 3, 60, 64, []),
  (1, 3, 128, 64, []),
  (0, 0, 384, 32, []),
  (1, 3, 1200, 64, []),
  (0, 0, 3000, 32, []),
  (1, 3, 1200, 64, []),
  (0, 0, 1200, 32, []),
  (1, 3, 6000, 64, []),
  (0, 0, 18000, 32, []),
  (0, 1, 16384, 32, []),
  (3, 12, 16, 64, [(1, 128), (2, 143), (4, 135), (5, 136), (7, 137), (8, 138), (10, 139), (11, 140), (13, 141), (14, 142)]),
  (3, 4, 16, 64, [(0, 129), (2, 130), (4, 131), (5, 132), (7, 133), (8, 134)])]
def z8Ys_8 : List z8YC := [(0, 1, 40000, 32, []),
  (0, 0, 6400, 32, []),
  (0, 0, 3072, 32, []),
  (1, 3, 512, 64, []),
  (0, 0, 60, 32, []),
  (1, 3, 60, 64, []),
  (1, 3, 128, 64, []),
  (0, 0, 384, 32, []),
  (1, 3, 1200, 64, []),
  (0, 0, 3000, 32, []),
  (1, 3, 1200, 64, []),
  (0, 0, 1200, 32, []),
  (1, 3, 6000, 64, []),
  (0, 0, 18000, 32, []),
  (0, 1, 16384, 32, []),
  (3, 12, 16, 64, [(1, 145), (2, 160), (4, 152), (5, 153), (7, 154), (8, 155), (10, 156), (11, 157), (13, 158), (14, 159)])]
def z8Ys_9 : List z8YC := [(3, 4, 16, 64, [(0, 146), (2, 147), (4, 148), (5, 149), (7, 150), (8, 151)]),
  (0, 1, 40000, 32, []),
  (0, 0, 6400, 32, []),
  (0, 0, 3072, 32, []),
  (1, 3, 512, 64, []),
  (0, 0, 60, 32, []),
  (1, 3, 60, 64, []),
  (1, 3, 128, 64, []),
  (0, 0, 384, 32, []),
  (1, 3, 1200, 64, []),
  (0, 0, 3000, 32, []),
  (1, 3, 1200, 64, []),
  (0, 0, 1200, 32, []),
  (1, 3, 6000, 64, []),
  (0, 0, 18000, 32, []),
  (0, 1, 16384, 32, [])]
def z8Ys_10 : List z8YC := [(0, 1, 184, 32, [(0, 46), (1, 116), (2, 101), (3, 120), (4, 116), (5, 32), (6, 95), (7, 115), (8, 116), (9, 97), (10, 114), (11, 116), (12, 10), (13, 46), (14, 103), (15, 108), (16, 111), (17, 98), (18, 108), (19, 32), (20, 95), (21, 115), (22, 116), (23, 97), (24, 114), (25, 116), (26, 10), (27, 95), (28, 115), (29, 116), (30, 97), (31, 114), (32, 116), (33, 58), (34, 32), (35, 106), (36, 97), (37, 108), (38, 32), (39, 109), (40, 97), (41, 105), (42, 110), (43, 10), (44, 109), (45, 111), (46, 118), (47, 101), (48, 32), (49, 36), (50, 97), (51, 48), (52, 44), (53, 36), (54, 118), (55, 48), (56, 10), (57, 108), (58, 105), (59, 32), (60, 36), (61, 118), (62, 48), (63, 44), (64, 49), (65, 48), (66, 10), (67, 115), (68, 121), (69, 115), (70, 99), (71, 97), (72, 108), (73, 108), (74, 10), (75, 46), (76, 116), (77, 101), (78, 120), (79, 116), (80, 32), (81, 95), (82, 116), (83, 114), (84, 97), (85, 112), (86, 115), (87, 10), (88, 46), (89, 103), (90, 108), (91, 111), (92, 98), (93, 108), (94, 32), (95, 95), (96, 100), (97, 105), (98, 118), (99, 10), (100, 46), (101, 103), (102, 108), (103, 111), (104, 98), (105, 108), (106, 32), (107, 95), (108, 105), (109, 110), (110, 100), (111, 101), (112, 120), (113, 10), (114, 46), (115, 103), (116, 108), (117, 111), (118, 98), (119, 108), (120, 32), (121, 95), (122, 114), (123, 111), (124, 111), (125, 109), (126, 10), (127, 95), (128, 100), (129, 105), (130, 118), (131, 58), (132, 32), (133, 98), (134, 114), (135, 101), (136, 97), (137, 107), (138, 32), (139, 49), (140, 10), (141, 95), (142, 105), (143, 110), (144, 100), (145, 101), (146, 120), (147, 58), (148, 32), (149, 98), (150, 114), (151, 101), (152, 97), (153, 107), (154, 32), (155, 50), (156, 10), (157, 95), (158, 114), (159, 111), (160, 111), (161, 109), (162, 58), (163, 32), (164, 98), (165, 114), (166, 101), (167, 97), (168, 107), (169, 32), (170, 51), (171, 10), (172, 46), (173, 119), (174, 97), (175, 110), (176, 116), (177, 32), (178, 109), (179, 97), (180, 105), (181, 110), (182, 44), (183, 51)]),
  (3, 12, 16, 64, [(2, 171), (3, 32), (4, 163), (5, 164), (6, 3), (7, 165), (8, 166), (9, 4), (10, 167), (11, 168), (12, 1), (13, 169), (14, 170), (15, 1)]),
  (1, 3, 8, 64, [(0, 1954047348), (2, 128034610115423), (4, 126926508422239)]),
  (0, 0, 24, 32, [(2, 4), (5, 4294967295), (7, 20), (8, 4), (11, 4294967295), (13, 12), (14, 4), (15, 20), (17, 4294967295)]),
  (1, 3, 16, 64, [(0, 128034610115423), (2, 1986618463), (4, 132376871987551), (6, 470021010015)]),
  (0, 0, 40, 32, [(0, 1), (2, 2), (3, 1), (5, 2), (7, 10), (8, 1), (10, 2), (11, 4), (12, 11), (13, 1), (15, 2), (16, 8), (17, 12), (18, 1)]),
  (1, 3, 8, 64, [(0, 1852399981)]),
  (0, 0, 8, 32, [(0, 3), (1, 13)]),
  (1, 3, 32, 64, [(0, 1852399981)]),
  (0, 0, 96, 32, [(0, 1), (2, 3), (3, 4294967295), (5, 2)]),
  (0, 1, 64, 32, [(3, 12), (8, 33), (9, 32), (10, 64), (12, 10), (14, 2), (15, 36), (16, 12), (20, 13), (22, 1), (24, 13), (26, 2), (28, 13), (30, 3)]),
  (3, 0, 243, 64, [(1, 173), (3, 132), (4, 174), (5, 175), (6, 176), (8, 4294967295), (9, 4294967295), (11, 177), (12, 178), (13, 179), (14, 180), (15, 181), (16, 182), (17, 183), (18, 184), (19, 185), (20, 186), (21, 187), (22, 188), (23, 189), (24, 190), (25, 191), (26, 192), (27, 193), (28, 194), (29, 195), (30, 196), (31, 197), (32, 198), (33, 199), (34, 200), (35, 201), (36, 202), (37, 203), (38, 204), (39, 205), (40, 206), (41, 207), (42, 208), (43, 209), (44, 210), (45, 211), (46, 212), (47, 213), (48, 214), (49, 215), (50, 216), (51, 217), (52, 218), (53, 219), (54, 220), (55, 221), (57, 222), (58, 223), (59, 224), (62, 225), (66, 226), (67, 227), (68, 228), (70, 229), (74, 230), (75, 231), (76, 232), (77, 233), (78, 234), (79, 235), (80, 236), (81, 237), (82, 238), (83, 239), (86, 240), (87, 241), (88, 242), (89, 243), (90, 244), (91, 245), (92, 246), (93, 247), (94, 248), (95, 249), (96, 250), (97, 251), (98, 252), (100, 253), (101, 254), (103, 255), (104, 256), (106, 257), (107, 258), (111, 259), (112, 260), (115, 261), (117, 6), (118, 185), (119, 15), (120, 262), (121, 263), (123, 4294967295), (124, 14), (125, 15), (128, 264), (130, 1), (132, 265), (133, 266), (134, 267), (135, 268), (136, 269), (137, 270), (138, 271), (139, 272), (141, 273), (142, 274), (143, 275), (145, 276), (146, 277), (147, 278), (148, 279), (149, 280), (151, 281), (152, 282), (153, 283), (154, 284), (156, 285), (157, 286), (158, 4), (159, 287), (160, 4), (161, 288), (162, 289), (164, 1), (165, 2), (166, 32), (167, 290), (168, 291), (169, 292), (170, 293), (171, 294), (172, 295), (173, 296), (174, 297), (175, 298), (176, 299), (177, 1), (178, 300), (179, 301), (180, 302), (181, 303), (182, 304), (183, 305), (184, 306), (185, 307), (186, 3), (188, 4294967295), (190, 308), (191, 309), (192, 310), (193, 311), (198, 312), (199, 313), (200, 314), (201, 1), (207, 315), (208, 316), (209, 317), (218, 318), (221, 319), (223, 320), (229, 321), (232, 322), (233, 323), (234, 324), (236, 325), (237, 326), (238, 327), (239, 328)]),
  (0, 0, 3000, 32, [(0, 46), (1, 116), (2, 101), (3, 120), (4, 116), (5, 32), (6, 95), (7, 115), (8, 116), (9, 97), (10, 114), (11, 116), (12, 10), (13, 46), (14, 103), (15, 108), (16, 111), (17, 98), (18, 108), (19, 32), (20, 95), (21, 115), (22, 116), (23, 97), (24, 114), (25, 116), (26, 10), (27, 95), (28, 115), (29, 116), (30, 97), (31, 114), (32, 116), (33, 58), (34, 32), (35, 106), (36, 97), (37, 108), (38, 32), (39, 109), (40, 97), (41, 105), (42, 110), (43, 10), (44, 109), (45, 111), (46, 118), (47, 101), (48, 32), (49, 36), (50, 97), (51, 48), (52, 44), (53, 36), (54, 118), (55, 48), (56, 10), (57, 108), (58, 105), (59, 32), (60, 36), (61, 118), (62, 48), (63, 44), (64, 49), (65, 48), (66, 10), (67, 115), (68, 121), (69, 115), (70, 99), (71, 97), (72, 108), (73, 108), (74, 10), (75, 46), (76, 116), (77, 101), (78, 120), (79, 116), (80, 32), (81, 95), (82, 116), (83, 114), (84, 97), (85, 112), (86, 115), (87, 10), (88, 46), (89, 103), (90, 108), (91, 111), (92, 98), (93, 108), (94, 32), (95, 95), (96, 100), (97, 105), (98, 118), (99, 10), (100, 46), (101, 103), (102, 108), (103, 111), (104, 98), (105, 108), (106, 32), (107, 95), (108, 105), (109, 110), (110, 100), (111, 101), (112, 120), (113, 10), (114, 46), (115, 103), (116, 108), (117, 111), (118, 98), (119, 108), (120, 32), (121, 95), (122, 114), (123, 111), (124, 111), (125, 109), (126, 10), (127, 95), (128, 100), (129, 105), (130, 118), (131, 58), (132, 32), (133, 98), (134, 114), (135, 101), (136, 97), (137, 107), (138, 32), (139, 49), (140, 10), (141, 95), (142, 105), (143, 110), (144, 100), (145, 101), (146, 120), (147, 58), (148, 32), (149, 98), (150, 114), (151, 101), (152, 97), (153, 107), (154, 32), (155, 50), (156, 10), (157, 95), (158, 114), (159, 111), (160, 111), (161, 109), (162, 58), (163, 32), (164, 98), (165, 114), (166, 101), (167, 97), (168, 107), (169, 32), (170, 51), (171, 10), (172, 46), (173, 119), (174, 97), (175, 110), (176, 116), (177, 32), (178, 109), (179, 97), (180, 105), (181, 110), (182, 44), (183, 51), (184, 10)]),
  (1, 3, 65536, 64, [(0, 7496054), (1, 1668248176), (2, 26217), (3, 1702063205), (4, 435610544247), (5, 121437875889522), (6, 7632239), (7, 28265), (8, 1969513569), (9, 1969386867), (10, 6581857), (11, 29295), (12, 7499640), (13, 7499630), (14, 7629939), (15, 1970564211), (16, 7105651), (17, 7107187), (18, 6386291), (19, 1986817139), (20, 1986818675), (21, 1986097779), (22, 1953265005), (23, 504464438637), (24, 7760228), (25, 1970694500), (26, 1768449645), (27, 1869375085), (28, 1768453229), (29, 1869378669), (30, 29290), (31, 1919705450), (32, 30518463020890483), (33, 461195539042), (34, 504279360609), (35, 1769237619), (36, 504280411251), (37, 1768189537), (38, 6910575), (39, 1769107320), (40, 6911340), (41, 25196), (42, 26732), (43, 30572), (44, 7692908), (45, 7694444), (46, 25203), (47, 26739), (48, 30579), (49, 7431522), (50, 6647394), (51, 2053467234), (52, 2054448994), (53, 2054450274), (54, 2053465954), (55, 119165922077794), (56, 119165921093474), (57, 106), (58, 7102826), (59, 7368558), (60, 1702260589), (61, 7630702), (62, 6776174), (63, 26988), (64, 24940), (65, 98), (66, 2054251874), (67, 2053467746), (68, 7629922), (69, 6645602), (70, 7628642), (71, 6646882), (72, 500236121134), (73, 418564367406), (74, 119170031970094), (75, 431349132078), (76, 500068087598), (77, 431416637230), (78, 439904987182), (79, 435745808942), (80, 111477510927150), (81, 121390429397294), (82, 1952805678), (83, 8243105135629529646), (84, 7237970032640093742), (85, 6711598), (86, 28549237963122990), (87, 435728180526), (88, 112602842555694), (89, 122537084284206), (90, 469836391726), (91, 500101902894), (92, 491311228206), (93, 1869768058), (94, 29793), (95, 12406), (96, 12662), (97, 12385), (98, 12641), (99, 12897), (100, 13153), (101, 12404), (102, 12660), (103, 12916), (104, 13172), (105, 13428), (106, 13684), (107, 13940), (108, 14196), (109, 12403), (110, 12659), (111, 12915), (112, 13171), (113, 13427), (114, 13683), (115, 13939), (116, 14195), (117, 14452), (118, 14708), (119, 12395), (120, 12651), (121, 28775), (122, 28787), (123, 28774), (124, 24946), (125, 1954047348), (126, 128034610115423), (127, 1852399981), (128, 126926508422239), (129, 1986618463), (130, 132376871987551), (131, 470021010015)]),
  (1, 3, 65536, 64, [(84, 29285)]),
  (0, 0, 131072, 32, [(1094, 4), (1761, 27), (2685, 20), (3038, 66), (3286, 58), (3296, 130), (4731, 79), (6072, 95), (6588, 100), (6650, 72), (7150, 112), (7183, 104), (7608, 92), (12035, 67), (14524, 101), (15086, 113), (15119, 105), (15713, 16), (15758, 88), (16252, 7), (22813, 6), (23022, 114), (23055, 106), (23480, 73), (23546, 51), (25426, 128), (26289, 3), (28359, 80), (30162, 54), (30227, 44), (30442, 49), (30944, 29), (30958, 115), (30991, 107), (33746, 71), (34847, 87), (38894, 116), (38927, 108), (42258, 43), (42475, 48), (42530, 30), (46252, 24), (46830, 117), (46863, 109), (47777, 86), (48247, 34), (50031, 37), (50194, 64), (50231, 25), (54799, 118), (55331, 28), (56595, 39), (56843, 19), (57007, 2), (59059, 132), (60431, 45), (60925, 55), (61565, 21), (62735, 119), (63147, 94), (69652, 127), (69775, 33), (71890, 69), (73189, 40), (74651, 10), (75353, 32), (75489, 15), (75645, 17), (76319, 84), (76739, 82), (78218, 90), (79010, 23), (79098, 68), (80939, 9), (80940, 38), (81526, 41), (81923, 50), (82785, 36), (83014, 126), (85520, 63), (87088, 93), (87551, 76), (88250, 131), (88728, 61), (89003, 11), (89777, 8), (90110, 85), (90338, 57), (95994, 52), (96412, 60), (96447, 14), (96606, 62), (96613, 13), (99069, 70), (99105, 78), (104603, 81), (105564, 124), (105599, 122), (105963, 123), (107023, 46), (109180, 74), (112132, 5), (114810, 77), (116261, 35), (117670, 1), (117777, 65), (117917, 75), (117963, 125), (118105, 59), (119856, 91), (120923, 89), (121552, 31), (121719, 12), (121789, 98), (122103, 120), (122237, 18), (122351, 110), (122382, 102), (122440, 96), (122807, 26), (125713, 42), (125928, 47), (126674, 53), (127243, 22), (129229, 56), (129725, 99), (130039, 121), (130069, 129), (130287, 111), (130318, 103), (130376, 97), (130742, 83)])]
def z8Ys_11 : List z8YC := [(0, 2, 7, 32, []),
  (0, 1, 240000, 32, []),
  (0, 0, 6, 32, []),
  (0, 0, 7, 32, [(6, 3)]),
  (0, 0, 448, 32, [(384, 125), (385, 126), (386, 128)]),
  (0, 2, 448, 32, []),
  (0, 0, 448, 32, [(385, 20), (386, 12)]),
  (0, 0, 448, 32, [(384, 4), (385, 4), (386, 4)]),
  (0, 0, 448, 32, [(384, 98304), (385, 98304), (386, 98324)]),
  (0, 0, 448, 32, []),
  (0, 2, 448, 32, []),
  (0, 1, 114688, 32, [(98307, 12), (98312, 33), (98313, 32), (98314, 64), (98316, 10), (98318, 2), (98319, 36), (98320, 12), (98324, 13), (98326, 1), (98328, 13), (98330, 2), (98332, 13), (98334, 3)]),
  (0, 0, 7, 32, [(6, 4)]),
  (0, 0, 4200, 32, [(3600, 126), (3601, 129), (3602, 130), (3603, 131)]),
  (0, 0, 4200, 32, [(3600, 1), (3601, 2), (3602, 2), (3603, 2)]),
  (0, 0, 4200, 32, [(3602, 4), (3603, 8)])]
def z8Ys_12 : List z8YC := [(0, 0, 4200, 32, [(3600, 2), (3601, 10), (3602, 11), (3603, 12)]),
  (0, 2, 4200, 32, [(3600, 1), (3601, 1), (3602, 1), (3603, 1)]),
  (0, 0, 4200, 32, []),
  (0, 0, 7, 32, [(6, 1)]),
  (0, 0, 21000, 32, [(18000, 1)]),
  (0, 0, 21000, 32, []),
  (0, 0, 21000, 32, [(18000, 3)]),
  (0, 0, 21000, 32, [(18000, 4294967295)]),
  (0, 0, 21000, 32, []),
  (0, 0, 21000, 32, [(18000, 127)]),
  (0, 0, 21000, 32, [(18000, 2)]),
  (0, 0, 7, 32, [(6, 1)]),
  (0, 0, 4200, 32, [(3600, 127)]),
  (0, 0, 4200, 32, [(3600, 3)]),
  (0, 0, 4200, 32, [(3600, 13)]),
  (0, 0, 6, 32, [])]
def z8Ys_13 : List z8YC := [(0, 0, 48000, 32, []),
  (0, 0, 48000, 32, []),
  (0, 0, 48000, 32, []),
  (0, 0, 48000, 32, []),
  (0, 0, 48000, 32, []),
  (0, 0, 6, 32, []),
  (0, 0, 384, 32, []),
  (0, 0, 384, 32, []),
  (0, 0, 384, 32, []),
  (0, 0, 384, 32, []),
  (0, 0, 384, 32, []),
  (0, 0, 384, 32, []),
  (0, 0, 65536, 32, []),
  (0, 0, 3001, 32, []),
  (0, 0, 3001, 32, []),
  (0, 0, 3001, 32, [])]
def z8Ys_14 : List z8YC := [(0, 0, 5, 32, []),
  (0, 0, 1100, 32, []),
  (0, 0, 1100, 32, []),
  (0, 0, 1100, 32, []),
  (0, 0, 1100, 32, []),
  (0, 0, 3001, 32, []),
  (0, 0, 3001, 32, []),
  (0, 0, 3001, 32, []),
  (0, 0, 3001, 32, []),
  (0, 0, 3001, 32, []),
  (0, 0, 3001, 32, []),
  (0, 0, 3001, 32, []),
  (0, 0, 3001, 32, []),
  (0, 0, 3001, 32, []),
  (0, 0, 3001, 32, []),
  (0, 0, 64, 32, [])]
def z8Ys_15 : List z8YC := [(0, 0, 64, 32, []),
  (0, 0, 64, 32, []),
  (0, 0, 64, 32, []),
  (0, 0, 64, 32, []),
  (0, 0, 64, 32, []),
  (0, 0, 64, 32, []),
  (0, 0, 64, 32, []),
  (0, 0, 64, 32, []),
  (0, 0, 64, 32, []),
  (0, 0, 64, 32, []),
  (0, 0, 64, 32, []),
  (0, 2, 64, 32, []),
  (0, 0, 64, 32, []),
  (0, 0, 64, 32, []),
  (0, 0, 64, 32, []),
  (0, 0, 64, 32, [])]
def z8Ys_16 : List z8YC := [(0, 0, 3001, 32, []),
  (0, 0, 3001, 32, []),
  (0, 0, 64, 32, []),
  (0, 0, 64, 32, []),
  (0, 0, 85, 32, [(0, 33), (1, 35), (2, 36), (3, 37), (4, 38), (5, 39), (6, 42), (7, 43), (9, 2), (10, 3), (11, 4), (12, 6), (13, 7), (14, 24), (15, 25), (16, 26), (17, 27), (18, 16), (19, 18), (20, 17), (21, 19), (22, 8), (23, 9), (24, 12), (25, 13), (26, 9), (27, 10), (28, 11), (29, 12), (30, 13), (31, 14), (32, 15), (33, 32), (34, 33), (35, 35), (36, 36), (37, 37), (38, 40), (39, 41), (40, 43), (41, 4), (42, 5), (43, 6), (44, 7), (45, 1), (46, 1), (47, 1), (48, 1), (49, 2), (50, 3)]),
  (0, 0, 10010, 32, [(1, 13), (2, 27), (3, 44), (4, 57), (5, 67), (6, 75), (7, 88), (8, 100), (9, 114), (10, 127), (11, 141), (12, 157), (13, 172), (14, 185)]),
  (0, 0, 10010, 32, [(0, 12), (1, 26), (2, 43), (3, 56), (4, 66), (5, 74), (6, 87), (7, 99), (8, 113), (9, 126), (10, 140), (11, 156), (12, 171), (13, 184), (14, 185)]),
  (0, 0, 3001, 32, [(0, 46), (1, 119), (2, 97), (3, 110), (4, 116), (5, 32), (6, 109), (7, 97), (8, 105), (9, 110), (10, 44), (11, 51), (12, 32), (13, 51), (14, 50), (15, 110)]),
  (0, 0, 12, 32, []),
  (0, 0, 12, 32, [(0, 15)]),
  (0, 0, 12, 32, []),
  (0, 0, 12, 32, []),
  (0, 0, 12, 32, [(0, 4294967295)]),
  (0, 0, 12, 32, []),
  (0, 0, 12, 32, [(0, 4294967295)]),
  (0, 0, 12, 32, [])]
def z8Ys_17 : List z8YC := [(0, 0, 40000, 32, []),
  (0, 0, 48, 32, []),
  (0, 0, 48, 32, []),
  (0, 0, 12, 32, []),
  (0, 0, 12, 32, []),
  (0, 0, 12, 32, []),
  (0, 0, 12, 32, []),
  (0, 0, 48, 32, []),
  (0, 2, 9, 32, []),
  (0, 2, 9, 32, []),
  (0, 2, 9, 32, []),
  (0, 0, 9, 32, []),
  (0, 0, 200, 32, []),
  (0, 0, 200, 32, []),
  (0, 0, 600, 32, [(0, 126), (1, 129), (2, 130), (3, 131)]),
  (0, 0, 600, 32, [])]
def z8Ys_18 : List z8YC := [(0, 0, 600, 32, []),
  (0, 0, 16384, 32, [(3, 12), (8, 33), (9, 32), (10, 64), (12, 10), (14, 2), (15, 36), (16, 12), (20, 13), (22, 1), (24, 13), (26, 2), (28, 13), (30, 3)]),
  (0, 0, 16384, 32, [(0, 1), (1, 1), (2, 1), (3, 1), (4, 1), (5, 1), (6, 1), (7, 1), (8, 1), (9, 1), (10, 1), (11, 1), (12, 1), (13, 1), (14, 1), (15, 1), (16, 1), (17, 1), (18, 1), (19, 1), (20, 2), (21, 2), (22, 2), (23, 2), (24, 2), (25, 2), (26, 2), (27, 2), (28, 2), (29, 2), (30, 2), (31, 2)]),
  (0, 0, 64, 32, [(0, 4294967295), (2, 8)]),
  (0, 2, 64, 32, []),
  (0, 0, 64, 32, [(1, 16), (2, 28)]),
  (0, 0, 64, 32, []),
  (0, 0, 64, 32, []),
  (0, 0, 64, 32, [(1, 12), (2, 196621)]),
  (0, 0, 10, 32, [(0, 4294967295), (1, 4294967295), (2, 4294967295), (3, 4294967295), (4, 4294967295), (5, 4294967295), (6, 4294967295), (7, 4294967295), (8, 4294967295), (9, 4294967295)]),
  (0, 0, 10, 32, []),
  (0, 0, 3000, 32, [(0, 1)]),
  (0, 0, 3000, 32, []),
  (0, 0, 3000, 32, [(0, 3)]),
  (0, 0, 3000, 32, [(0, 1)]),
  (0, 0, 3000, 32, [(0, 127)])]
def z8Ys_19 : List z8YC := [(0, 0, 3000, 32, [(0, 4294967295)]),
  (0, 0, 3000, 32, []),
  (0, 0, 3000, 32, [(0, 2)]),
  (0, 0, 3001, 32, [(0, 3)]),
  (0, 0, 3001, 32, []),
  (0, 0, 3001, 32, [(0, 4294967295)]),
  (0, 0, 3001, 32, []),
  (0, 0, 5, 32, []),
  (0, 0, 12, 32, []),
  (0, 0, 64, 32, [(0, 98304), (1, 98324), (2, 98336)]),
  (0, 1, 65536, 32, []),
  (0, 0, 65536, 32, []),
  (0, 0, 32, 32, []),
  (0, 0, 64, 32, []),
  (0, 0, 200, 32, []),
  (0, 0, 64, 32, [])]
def z8Ys_20 : List z8YC := [(0, 0, 200, 32, []),
  (0, 0, 384, 32, []),
  (0, 0, 72000, 32, []),
  (0, 0, 48000, 32, []),
  (0, 0, 41, 32, []),
  (0, 0, 41, 32, []),
  (0, 0, 16605, 32, []),
  (0, 0, 410, 32, []),
  (1, 3, 1, 64, []),
  (0, 0, 0, 32, []),
  (0, 0, 0, 32, []),
  (0, 0, 0, 32, []),
  (0, 0, 0, 32, []),
  (0, 0, 0, 32, []),
  (0, 0, 0, 32, []),
  (0, 0, 0, 32, [])]
def z8Ys_z : List z8YC := [z8Y0, z8Y0, z8Y0, z8Y0, z8Y0, z8Y0, z8Y0, z8Y0, z8Y0, z8Y0, z8Y0, z8Y0, z8Y0, z8Y0, z8Y0, z8Y0]
def z8Ys : List (List z8YC) := [z8Ys_0, z8Ys_1, z8Ys_2, z8Ys_3, z8Ys_4, z8Ys_5, z8Ys_6, z8Ys_7, z8Ys_8, z8Ys_9, z8Ys_10, z8Ys_11, z8Ys_12, z8Ys_13, z8Ys_14, z8Ys_15, z8Ys_16, z8Ys_17, z8Ys_18, z8Ys_19, z8Ys_20, z8Ys_z, z8Ys_z, z8Ys_z, z8Ys_z, z8Ys_z, z8Ys_z, z8Ys_z, z8Ys_z, z8Ys_z, z8Ys_z, z8Ys_z, z8Ys_z, z8Ys_z, z8Ys_z, z8Ys_z, z8Ys_z, z8Ys_z, z8Ys_z, z8Ys_z, z8Ys_z, z8Ys_z, z8Ys_z, z8Ys_z, z8Ys_z, z8Ys_z, z8Ys_z, z8Ys_z, z8Ys_z, z8Ys_z, z8Ys_z, z8Ys_z, z8Ys_z, z8Ys_z, z8Ys_z, z8Ys_z, z8Ys_z, z8Ys_z, z8Ys_z, z8Ys_z, z8Ys_z, z8Ys_z, z8Ys_z, z8Ys_z]
theorem z8Ys_eq : zW3.2.2 = z8Ys.map (fun c => c.map z8Yf) := zz_eqL_ok (by decide +kernel)
def z8Yg (i : Nat) : z8YC := (z8Ys.getD (i / 16) []).getD (i % 16) z8Y0
theorem z8Y_getD {α β : Type} (f : α → β) (l : List α) (n : Nat) (d : α) (d' : β) (h : f d = d') : (l.map f).getD n d' = f (l.getD n d) := by
  rw [List.getD_eq_getElem?_getD, List.getD_eq_getElem?_getD, List.getElem?_map]
  cases l[n]? with
  | none => exact h.symm
  | some x => rfl
theorem z8Yg_eq (i : Nat) : zz_g zW3 i = z8Yf (z8Yg i) := by
  unfold zz_g
  rw [z8Ys_eq, z8Y_getD (fun c => c.map z8Yf) z8Ys (i / 16) [] [] rfl]
  exact z8Y_getD z8Yf _ _ z8Y0 zz_c0 rfl
theorem zW3_sh : zz_sh zW3 := ⟨by decide +kernel, by decide +kernel⟩
set_option maxRecDepth 100000 in
theorem z8Yb : (List.range 329).all (fun i => Nat.beq (zk_h zHX i).1 9 || zkb (zk_h zHX i) (z8Yg i)) = true := by decide +kernel
theorem zW3_1 : zW3.1 = 329 := by decide +kernel
theorem zW3_2 : zW3.2.1 = 2300586 := by decide +kernel
theorem zW3_I : zk_I 64 zHX zW3 := by
  refine ⟨zW3_sh, by rw [zW3_1]; decide, by rw [zW3_1]; decide, fun i h9 => ?_⟩
  have hi : i < 329 := Nat.lt_of_not_le (fun e => h9 (zHX_hi i e))
  rw [zW3_1, z8Yg_eq]
  refine ⟨hi, ?_⟩
  have h := List.all_eq_true.mp z8Yb i (List.mem_range.mpr hi)
  cases hb : Nat.beq (zk_h zHX i).1 9 with
  | true => exact absurd (zz_beq hb) h9
  | false =>
    rw [hb] at h
    exact zkb_ok h
theorem zW3_Bi : zBi zW3 := by
  refine ⟨17, 0, zz_sp 64 [(0, 18)], 16, ⟨zW3_sh, ⟨⟨by rw [zW3_1]; decide, by rw [zW3_1]; decide⟩, Or.inl ⟨rfl, rfl, rfl, rfl⟩⟩, ⟨by rw [zW3_1]; decide, by decide, zz_eqC_ok (by decide +kernel)⟩, ⟨by rw [zW3_1]; decide, by decide, zz_eqC_ok (by decide +kernel)⟩, by decide +kernel, by decide +kernel, fun j => ?_, ⟨zFc_I zW3_I (zz_eqC_ok (by decide +kernel)) (zz_eqC_ok (by decide +kernel)) (zz_eqC_ok (by decide +kernel)), by decide +kernel⟩, fun _ _ _ _ => rfl⟩, by decide +kernel⟩
  show (0 >>> (32 * j)) % 2 ^ 32 < 128
  rw [Nat.zero_shiftRight, Nat.zero_mod]
  decide
end
end
section
/-! what holds behind both constructors, on: numbers, elements, tokens -/
noncomputable section
def zSv : List Int := [0, 0, 0, 0, 0, 161, 1, 0, 0, 1, 0, 0, 1, 0, 0, 1, 0, 0, 1, 0, 0, 1, 0, 0, 1, 3, 32, 1, 0, 0, 0, 0, 1, 0, 0, 0, 0, 1, 0, 0, 0, 0, 1, 0, 0, 0, 0, 1, 0, 0, 0, 0, 1, 0, 0, 0, 0, 1, 1, 0, 0, 132, 1, 3, 1, 1, 0]
def zS0 (j : Nat) : Int := zSv.getD j 0
theorem z8YF : zk_fl zS0 zQF zW3 := by
  intro q hq
  have h := List.all_eq_true.mp (by decide +kernel : zQF.all (fun q => Nat.beq q.2.1 0 && decide ((Int32.ofNat (zk_fd zW3 q.1)).toInt = zl_ev zS0 q.2.2.2)) = true) q hq
  obtain ⟨h1, h2⟩ := zz_and h
  have h1 := zz_beq h1
  exact ⟨fun _ => of_decide_eq_true h2, fun e => by omega, fun e => by omega⟩
theorem z8YB : zl_in zS0 ((0, 512) :: zQBt) := by
  intro k q hq
  have h := z8Y_fs_ok (by decide +kernel : z8Y_fs (fun k (q : Int × Int) => decide (q.1 ≤ zS0 k) && decide (zS0 k ≤ q.2)) 0 ((0, 512) :: zQBt) = true) k q hq
  rw [Nat.zero_add] at h
  obtain ⟨h1, h2⟩ := zz_and h
  exact ⟨of_decide_eq_true h1, of_decide_eq_true h2⟩
theorem z8YC' : zk_cs zS0 zQC := fun e he => of_decide_eq_true (List.all_eq_true.mp (by decide +kernel : zQC.all (fun e => decide (0 ≤ zl_ev zS0 e)) = true) e he)
theorem z8Yg_dr {f d e : Int → Int} : zg_dr f d e 0 := ⟨fun i h0 h1 => absurd h1 (by rw [show zv_dg 0 (0 : Int) = 0 from by decide]; omega), fun i h0 h1 => absurd h1 (by rw [show zv_dg 0 (0 : Int) = 0 from by decide]; omega), fun k h0 h1 => absurd h1 (by rw [show zv_dg 1 (0 : Int) = 0 from by decide]; omega)⟩
theorem z8Ymn : zh_mn (zh_f zW3 54) := by
  intro i _
  have e : zh_f zW3 54 i = 0 := by
    show (Int32.ofNat (zz_at 32 (zz_g zW3 54).2.2.2 i)).toInt = 0
    rw [show (zz_g zW3 54).2.2.2 = 0 from by decide +kernel, show zz_at 32 0 i = 0 from by show (0 >>> (32 * i)) % 2 ^ 32 = 0; rw [Nat.zero_shiftRight, Nat.zero_mod]]
    rfl
  rw [e]
  decide
def z8Yu1 (p : zu_Sp) (w : zz_W) (ps : List Int) (n : Nat) : Bool := p.2.2.2.any (fun d => d.all (fun e => decide (0 ≤ zl_ev (fun m => (zu_ex w p.1 ([(n : Int)] ++ ps)).getD m 0) e)))
def z8Yu2 (p : zu_Sp) (w : zz_W) (ps : List Int) (a b : Nat) : Bool := p.2.2.2.any (fun d => d.all (fun e => decide (0 ≤ zl_ev (fun m => (zu_ex w p.1 ([(a : Int), (b : Int)] ++ ps)).getD m 0) e)))
theorem z8Y_any {cs : List (List zl_E)} {s : Nat → Int} (h : cs.any (fun d => d.all (fun e => decide (0 ≤ zl_ev s e))) = true) : ∃ d ∈ cs, zk_cs s d := by
  obtain ⟨d, h1, h2⟩ := List.any_eq_true.mp h
  exact ⟨d, h1, fun e he => of_decide_eq_true (List.all_eq_true.mp h2 e he)⟩
theorem z8Yu_1 {p : zu_Sp} {w : zz_W} {ps : List Int} {N : Nat} (hN : p.2.1 = [N]) (h : ∀ n, n < N → z8Yu1 p w ps n = true) : zu_P p w ps := by
  intro ix hix
  rw [hN] at hix
  obtain ⟨h1, h2⟩ := hix
  match ix, h1, h2 with
  | [x], _, h2 =>
    have h3 := h2 0 N rfl
    have h3 : 0 ≤ x ∧ x < (N : Int) := h3
    have e : x = ((x.toNat : Nat) : Int) := by omega
    rw [e]
    exact z8Y_any (h x.toNat (by omega))
theorem z8Yu_2 {p : zu_Sp} {w : zz_W} {ps : List Int} {N M : Nat} (hN : p.2.1 = [N, M]) (h : ∀ a, a < N → ∀ b, b < M → z8Yu2 p w ps a b = true) : zu_P p w ps := by
  intro ix hix
  rw [hN] at hix
  obtain ⟨h1, h2⟩ := hix
  match ix, h1, h2 with
  | [x, y], _, h2 =>
    have h3 : 0 ≤ x ∧ x < (N : Int) := h2 0 N rfl
    have h4 : 0 ≤ y ∧ y < (M : Int) := h2 1 M rfl
    have e : x = ((x.toNat : Nat) : Int) := by omega
    have e2 : y = ((y.toNat : Nat) : Int) := by omega
    rw [e, e2]
    exact z8Y_any (h x.toNat (by omega) y.toNat (by omega))
def z8Yk1 (p : zk_Sp) (w : zz_W) (j : Nat) : Bool := p.2.2.any (fun d => d.all (fun e => decide (0 ≤ zl_ev (fun m => (zk_al w p.1 p.2.1 j).getD m 0) e)))
theorem z8Yt1 {p : zk_Sp} {w : zz_W} {r N : Nat} (hr : r ∈ p.1) (hN : (zk_h zHT r).2.2.1 = N) (h : ∀ j, j < N → z8Yk1 p w j = true) : zk_P zHT p w := fun j hj => z8Y_any (h j (by
  have := hj r hr
  omega))
def z8Yk2 (p : zk_Sp) (w : zz_W) (k j : Nat) : Bool := p.2.2.any (fun d => d.all (fun e => decide (0 ≤ zl_ev (fun m => (zk_al2 w (zk_sp2 p.1).1 (zk_sp2 p.1).2 p.2.1 k j).getD m 0) e)))
theorem z8Yt2 {p : zk_Sp} {w : zz_W} {r1 r2 N M : Nat} (h1 : r1 ∈ (zk_sp2 p.1).1) (h2 : r2 ∈ (zk_sp2 p.1).2) (hN : (zk_h zHT r1).2.2.1 = N) (hM : (zk_h zHT r2).2.2.1 = M) (h : ∀ j, j < M → ∀ k, k < N → z8Yk2 p w k j = true) : zk_P2 zHT p w := fun k j hk hj => z8Y_any (h j (by
  have := hj r2 h2
  omega) k (by
  have := hk r1 h1
  omega))
/-- elements of a row of ints -/
theorem z8Yel (r n : Nat) (hw : (z8Yg r).2.2.2.1 = 32) (hs : z8Y_st 32 0 (z8Yg r).2.2.2.2 = true) : zk_el zW3 r (n : Int) = (Int32.ofNat (z8Y_lk (z8Yg r).2.2.2.2 n)).toInt := by
  show (Int32.ofNat (zz_at 32 (zz_g zW3 r).2.2.2 ((n : Int)).toNat)).toInt = _
  rw [Int.toNat_natCast, z8Yg_eq]
  show (Int32.ofNat (zz_at 32 (zz_sp (z8Yg r).2.2.2.1 (z8Yg r).2.2.2.2) n)).toInt = _
  rw [hw, ((z8Y_at hs).2 n).1]
theorem zn_c_eq {f g : Nat → Int} : ∀ {n : Nat}, (∀ j, j < n → f j = g j) → zn_c f n = zn_c g n
  | 0, _ => rfl
  | n + 1, h => by
    show zn_c f n + (if f n = 0 then 0 else 1) = zn_c g n + (if g n = 0 then 0 else 1)
    rw [zn_c_eq (fun j hj => h j (by omega)), h n (by omega)]
theorem zn_c_0 : ∀ n : Nat, zn_c (fun _ => (0 : Int)) n = 0
  | 0 => rfl
  | n + 1 => by
    show zn_c (fun _ => (0 : Int)) n + (if (0 : Int) = 0 then 0 else 1) = 0
    rw [zn_c_0 n]
    rfl
theorem zn_c_1 {f g : Nat → Int} {a : Nat} (h : ∀ j, j ≠ a → f j = g j) : ∀ n : Nat, zn_c f n ≤ zn_c g n + 1 ∧ (n ≤ a → zn_c f n ≤ zn_c g n)
  | 0 => ⟨Nat.zero_le _, fun _ => Nat.le_refl _⟩
  | n + 1 => by
    obtain ⟨h1, h2⟩ := zn_c_1 h n
    show zn_c f n + (if f n = 0 then 0 else 1) ≤ zn_c g n + (if g n = 0 then 0 else 1) + 1 ∧ (n + 1 ≤ a → zn_c f n + (if f n = 0 then 0 else 1) ≤ zn_c g n + (if g n = 0 then 0 else 1))
    by_cases hn : n = a
    · subst hn
      have h3 := h2 (Nat.le_refl _)
      refine ⟨?_, fun e => by omega⟩
      have : (if f n = 0 then 0 else 1) ≤ 1 := by split <;> decide
      omega
    · rw [h n hn]
      exact ⟨by omega, fun e => by have := h2 (by omega); omega⟩
theorem zn_c_lk : ∀ (L : List (Nat × Nat)) (n : Nat), zn_c (fun j => (Int32.ofNat (z8Y_lk L j)).toInt) n ≤ L.length
  | [], n => by
    rw [show (fun j => (Int32.ofNat (z8Y_lk [] j)).toInt) = (fun _ => (0 : Int)) from rfl, zn_c_0]
    exact Nat.le_refl _
  | q :: r, n => by
    have h := (zn_c_1 (f := fun j => (Int32.ofNat (z8Y_lk (q :: r) j)).toInt) (g := fun j => (Int32.ofNat (z8Y_lk r j)).toInt) (a := q.1) (fun j hj => by
      show (Int32.ofNat (if q.1 = j then q.2 else z8Y_lk r j)).toInt = _
      rw [if_neg (fun e => hj e.symm)]) n).1
    have := zn_c_lk r n
    show _ ≤ r.length + 1
    omega
theorem zu_ex_get {w : zz_W} : ∀ {s : List (Nat × zl_E)} {l : List Int} {m : Nat}, m < l.length → (zu_ex w s l).getD m 0 = l.getD m 0
  | [], _, _, _ => rfl
  | q :: s, l, m, h => by
    show (zu_ex w s (l ++ [zk_el w q.1 (zl_ev (fun m => l.getD m 0) q.2)])).getD m 0 = _
    rw [zu_ex_get (by rw [List.length_append]; exact Nat.lt_add_right _ h), List.getD_eq_getElem?_getD, List.getD_eq_getElem?_getD, List.getElem?_append_left h]
/-- the first case: a place behind those that are taken -/
theorem z8Yu_c {p : zu_Sp} {w : zz_W} {x : Int} {N M r : Nat} {tl : List (Nat × zl_E)} {cs : List (List zl_E)} (hN : p.2.1 = [N, M]) (h1 : p.1 = (r, zl_sym 0) :: tl) (hc : p.2.2.2 = [((0, 0), [(1, 1, 0), (3, 0, 1)])] :: cs) (h : ∀ a, a < N → ∀ b, b < (zk_el w r (a : Int)).toNat → z8Yu2 p w [x] a b = true) : zu_P p w [x] := by
  intro ix hix
  rw [hN] at hix
  obtain ⟨h2, h3⟩ := hix
  match ix, h2, h3 with
  | [a, b], _, h3 =>
    have h4 : 0 ≤ a ∧ a < (N : Int) := h3 0 N rfl
    have h5 : 0 ≤ b ∧ b < (M : Int) := h3 1 M rfl
    obtain ⟨a, rfl⟩ := Int.eq_ofNat_of_zero_le h4.1
    obtain ⟨b, rfl⟩ := Int.eq_ofNat_of_zero_le h5.1
    by_cases hb : b < (zk_el w r (a : Int)).toNat
    · exact z8Y_any (h a (by omega) b hb)
    · refine ⟨_, by rw [hc]; exact List.mem_cons_self, List.forall_mem_cons.mpr ⟨?_, fun _ h => absurd h List.not_mem_nil⟩⟩
      show 0 ≤ zl_ev (fun m => (zu_ex w p.1 [(a : Int), (b : Int), x]).getD m 0) (zl_sub (zl_sym 1) (zl_sym 3))
      rw [zl_sub_ev, zl_sym_ev, zl_sym_ev, h1]
      show 0 ≤ (zu_ex w tl [(a : Int), (b : Int), x, zk_el w r (zl_ev (fun m => ([(a : Int), (b : Int), x] : List Int).getD m 0) (zl_sym 0))]).getD 1 0 - (zu_ex w tl [(a : Int), (b : Int), x, zk_el w r (zl_ev (fun m => ([(a : Int), (b : Int), x] : List Int).getD m 0) (zl_sym 0))]).getD 3 0
      rw [zu_ex_get (by show 1 < 4; decide), zu_ex_get (by show 3 < 4; decide), zl_sym_ev]
      show (0 : Int) ≤ (b : Int) - zk_el w r (a : Int)
      omega
/-- the second case: nothing there -/
theorem z8Yu_z {p : zu_Sp} {w : zz_W} {x y : Int} {N r : Nat} {tl : List (Nat × zl_E)} {c : List zl_E} {cs : List (List zl_E)} {ks : List Nat} (hN : p.2.1 = [N]) (h1 : p.1 = (r, zl_sym 0) :: tl) (hc : p.2.2.2 = c :: [((0, 0), [(3, 0, 1)])] :: cs) (hk : ∀ n : Nat, n ∈ ks ∨ zk_el w r (n : Int) = 0) (h : ks.all (fun n => z8Yu1 p w [x, y] n) = true) : zu_P p w [x, y] := by
  intro ix hix
  rw [hN] at hix
  obtain ⟨h2, h3⟩ := hix
  match ix, h2, h3 with
  | [a], _, h3 =>
    have h4 : 0 ≤ a ∧ a < (N : Int) := h3 0 N rfl
    obtain ⟨a, rfl⟩ := Int.eq_ofNat_of_zero_le h4.1
    rcases hk a with h5 | h5
    · exact z8Y_any (List.all_eq_true.mp h a h5)
    · refine ⟨_, by rw [hc]; exact List.mem_cons_of_mem _ List.mem_cons_self, List.forall_mem_cons.mpr ⟨?_, fun _ h => absurd h List.not_mem_nil⟩⟩
      show 0 ≤ zl_ev (fun m => (zu_ex w p.1 [(a : Int), x, y]).getD m 0) (zl_neg (zl_sym 3))
      rw [zl_neg_ev, zl_sym_ev, h1]
      show 0 ≤ -(zu_ex w tl [(a : Int), x, y, zk_el w r (zl_ev (fun m => ([(a : Int), x, y] : List Int).getD m 0) (zl_sym 0))]).getD 3 0
      rw [zu_ex_get (by show 3 < 4; decide), zl_sym_ev]
      show (0 : Int) ≤ -zk_el w r (a : Int)
      rw [h5]
      decide

theorem z8Yg_10 : (z8Yg 10).2.2.2.1 = 32 ∧ z8Y_st 32 0 (z8Yg 10).2.2.2.2 = true := ⟨by decide +kernel, by decide +kernel⟩
theorem z8Yk_10 (n : Nat) : n ∈ (z8Yg 10).2.2.2.2.map (fun q => q.1) ∨ zk_el zW3 10 (n : Int) = 0 := by
  rw [z8Yel 10 n z8Yg_10.1 z8Yg_10.2]
  rcases z8Y_mem (z8Yg 10).2.2.2.2 n with h | h
  · rw [h]
    exact Or.inr rfl
  · exact Or.inl (List.mem_map.mpr ⟨_, h, rfl⟩)
set_option maxRecDepth 100000 in
theorem z8Yu_61 : zu_P (zu_T 61) zW3 (zq_dec (zu_T 61).2.2.1 (35184372088993 : Int)) := z8Yu_z (N := 8192) (r := 10) rfl rfl rfl z8Yk_10 (by decide +kernel)
set_option maxRecDepth 100000 in
theorem z8Ye_0 : 0 ≤ zl_ev zS0 ((35184372088832, 0), [(5, 1, 0)]) ∧ zk_xe zW3 2000261 (zl_ev zS0 ((35184372088832, 0), [(5, 1, 0)])) = zl_ev zS0 ((0, 0), [(6, 1, 0)]) := by
  rw [show zl_ev zS0 ((35184372088832, 0), [(5, 1, 0)]) = (35184372088993 : Int) from by decide +kernel, show zl_ev zS0 ((0, 0), [(6, 1, 0)]) = (1 : Int) from by decide +kernel]
  exact ⟨by decide, (zv_H_u (t := 61)).trans (zh_b1 z8Yu_61)⟩
set_option maxRecDepth 100000 in
theorem z8Yu_65 : zu_P (zu_T 65) zW3 (zq_dec (zu_T 65).2.2.1 (0 : Int)) := z8Yu_1 (N := 64) rfl (z8Y_all_ok (f := z8Yu1 (zu_T 65) zW3 (zq_dec (zu_T 65).2.2.1 (0 : Int))) (by decide +kernel))
set_option maxRecDepth 100000 in
theorem z8Ye_1 : 0 ≤ zl_ev zS0 ((0, 0), [(7, 4294967296, 0), (8, 18446744073709551616, 0)]) ∧ zk_xe zW3 2000265 (zl_ev zS0 ((0, 0), [(7, 4294967296, 0), (8, 18446744073709551616, 0)])) = zl_ev zS0 ((0, 0), [(9, 1, 0)]) := by
  rw [show zl_ev zS0 ((0, 0), [(7, 4294967296, 0), (8, 18446744073709551616, 0)]) = (0 : Int) from by decide +kernel, show zl_ev zS0 ((0, 0), [(9, 1, 0)]) = (1 : Int) from by decide +kernel]
  exact ⟨by decide, (zv_H_u (t := 65)).trans (zh_b1 z8Yu_65)⟩
set_option maxRecDepth 100000 in
theorem z8Yu_1065 : zu_P (zu_T 1065) zW3 (zq_dec (zu_T 1065).2.2.1 (0 : Int)) := z8Yu_1 (N := 64) rfl (z8Y_all_ok (f := z8Yu1 (zu_T 1065) zW3 (zq_dec (zu_T 1065).2.2.1 (0 : Int))) (by decide +kernel))
set_option maxRecDepth 100000 in
theorem z8Ye_2 : 0 ≤ zl_ev zS0 ((0, 0), [(10, 4294967296, 0), (11, 18446744073709551616, 0)]) ∧ zk_xe zW3 2001265 (zl_ev zS0 ((0, 0), [(10, 4294967296, 0), (11, 18446744073709551616, 0)])) = zl_ev zS0 ((0, 0), [(12, 1, 0)]) := by
  rw [show zl_ev zS0 ((0, 0), [(10, 4294967296, 0), (11, 18446744073709551616, 0)]) = (0 : Int) from by decide +kernel, show zl_ev zS0 ((0, 0), [(12, 1, 0)]) = (1 : Int) from by decide +kernel]
  exact ⟨by decide, (zv_H_u (t := 1065)).trans (zh_b1 z8Yu_1065)⟩
set_option maxRecDepth 100000 in
theorem z8Yu_2065 : zu_P (zu_T 2065) zW3 (zq_dec (zu_T 2065).2.2.1 (0 : Int)) := z8Yu_1 (N := 64) rfl (z8Y_all_ok (f := z8Yu1 (zu_T 2065) zW3 (zq_dec (zu_T 2065).2.2.1 (0 : Int))) (by decide +kernel))
set_option maxRecDepth 100000 in
theorem z8Ye_3 : 0 ≤ zl_ev zS0 ((0, 0), [(13, 4294967296, 0), (14, 18446744073709551616, 0)]) ∧ zk_xe zW3 2002265 (zl_ev zS0 ((0, 0), [(13, 4294967296, 0), (14, 18446744073709551616, 0)])) = zl_ev zS0 ((0, 0), [(15, 1, 0)]) := by
  rw [show zl_ev zS0 ((0, 0), [(13, 4294967296, 0), (14, 18446744073709551616, 0)]) = (0 : Int) from by decide +kernel, show zl_ev zS0 ((0, 0), [(15, 1, 0)]) = (1 : Int) from by decide +kernel]
  exact ⟨by decide, (zv_H_u (t := 2065)).trans (zh_b1 z8Yu_2065)⟩
set_option maxRecDepth 100000 in
theorem z8Yu_3065 : zu_P (zu_T 3065) zW3 (zq_dec (zu_T 3065).2.2.1 (0 : Int)) := z8Yu_1 (N := 64) rfl (z8Y_all_ok (f := z8Yu1 (zu_T 3065) zW3 (zq_dec (zu_T 3065).2.2.1 (0 : Int))) (by decide +kernel))
set_option maxRecDepth 100000 in
theorem z8Ye_4 : 0 ≤ zl_ev zS0 ((0, 0), [(16, 4294967296, 0), (17, 18446744073709551616, 0)]) ∧ zk_xe zW3 2003265 (zl_ev zS0 ((0, 0), [(16, 4294967296, 0), (17, 18446744073709551616, 0)])) = zl_ev zS0 ((0, 0), [(18, 1, 0)]) := by
  rw [show zl_ev zS0 ((0, 0), [(16, 4294967296, 0), (17, 18446744073709551616, 0)]) = (0 : Int) from by decide +kernel, show zl_ev zS0 ((0, 0), [(18, 1, 0)]) = (1 : Int) from by decide +kernel]
  exact ⟨by decide, (zv_H_u (t := 3065)).trans (zh_b1 z8Yu_3065)⟩
set_option maxRecDepth 100000 in
theorem z8Yu_4065 : zu_P (zu_T 4065) zW3 (zq_dec (zu_T 4065).2.2.1 (0 : Int)) := z8Yu_1 (N := 64) rfl (z8Y_all_ok (f := z8Yu1 (zu_T 4065) zW3 (zq_dec (zu_T 4065).2.2.1 (0 : Int))) (by decide +kernel))
set_option maxRecDepth 100000 in
theorem z8Ye_5 : 0 ≤ zl_ev zS0 ((0, 0), [(19, 4294967296, 0), (20, 18446744073709551616, 0)]) ∧ zk_xe zW3 2004265 (zl_ev zS0 ((0, 0), [(19, 4294967296, 0), (20, 18446744073709551616, 0)])) = zl_ev zS0 ((0, 0), [(21, 1, 0)]) := by
  rw [show zl_ev zS0 ((0, 0), [(19, 4294967296, 0), (20, 18446744073709551616, 0)]) = (0 : Int) from by decide +kernel, show zl_ev zS0 ((0, 0), [(21, 1, 0)]) = (1 : Int) from by decide +kernel]
  exact ⟨by decide, (zv_H_u (t := 4065)).trans (zh_b1 z8Yu_4065)⟩
set_option maxRecDepth 100000 in
theorem z8Yu_5065 : zu_P (zu_T 5065) zW3 (zq_dec (zu_T 5065).2.2.1 (0 : Int)) := z8Yu_1 (N := 64) rfl (z8Y_all_ok (f := z8Yu1 (zu_T 5065) zW3 (zq_dec (zu_T 5065).2.2.1 (0 : Int))) (by decide +kernel))
set_option maxRecDepth 100000 in
theorem z8Ye_6 : 0 ≤ zl_ev zS0 ((0, 0), [(22, 4294967296, 0), (23, 18446744073709551616, 0)]) ∧ zk_xe zW3 2005265 (zl_ev zS0 ((0, 0), [(22, 4294967296, 0), (23, 18446744073709551616, 0)])) = zl_ev zS0 ((0, 0), [(24, 1, 0)]) := by
  rw [show zl_ev zS0 ((0, 0), [(22, 4294967296, 0), (23, 18446744073709551616, 0)]) = (0 : Int) from by decide +kernel, show zl_ev zS0 ((0, 0), [(24, 1, 0)]) = (1 : Int) from by decide +kernel]
  exact ⟨by decide, (zv_H_u (t := 5065)).trans (zh_b1 z8Yu_5065)⟩
set_option maxRecDepth 100000 in
theorem z8Yu_80 : zu_P (zu_T 80) zW3 (zq_dec (zu_T 80).2.2.1 (590295810371590553600 : Int)) := z8Yu_1 (N := 4) rfl (z8Y_all_ok (f := z8Yu1 (zu_T 80) zW3 (zq_dec (zu_T 80).2.2.1 (590295810371590553600 : Int))) (by decide +kernel))
set_option maxRecDepth 100000 in
theorem z8Ye_7 : 0 ≤ zl_ev zS0 ((0, 0), [(25, 4294967296, 0), (26, 18446744073709551616, 0)]) ∧ zk_xe zW3 2000280 (zl_ev zS0 ((0, 0), [(25, 4294967296, 0), (26, 18446744073709551616, 0)])) = zl_ev zS0 ((0, 0), [(27, 1, 0)]) := by
  rw [show zl_ev zS0 ((0, 0), [(25, 4294967296, 0), (26, 18446744073709551616, 0)]) = (590295810371590553600 : Int) from by decide +kernel, show zl_ev zS0 ((0, 0), [(27, 1, 0)]) = (1 : Int) from by decide +kernel]
  exact ⟨by decide, (zv_H_u (t := 80)).trans (zh_b1 z8Yu_80)⟩
set_option maxRecDepth 100000 in
theorem z8Ye_8 : 0 ≤ zl_ev zS0 ((0, 0), [(28, 1, 0), (29, 4294967296, 0), (30, 18446744073709551616, 0)]) ∧ zk_xe zW3 2000037 (zl_ev zS0 ((0, 0), [(28, 1, 0), (29, 4294967296, 0), (30, 18446744073709551616, 0)])) = zl_ev zS0 ((0, 0), [(32, 1, 0)]) := by
  rw [show zl_ev zS0 ((0, 0), [(28, 1, 0), (29, 4294967296, 0), (30, 18446744073709551616, 0)]) = (0 : Int) from by decide +kernel, show zl_ev zS0 ((0, 0), [(32, 1, 0)]) = (1 : Int) from by decide +kernel]
  exact ⟨by decide, zh_b1 (z8Yg_dr)⟩
set_option maxRecDepth 100000 in
theorem z8Ye_9 : 0 ≤ zl_ev zS0 ((0, 0), [(33, 1, 0), (34, 4294967296, 0), (35, 18446744073709551616, 0)]) ∧ zk_xe zW3 2000038 (zl_ev zS0 ((0, 0), [(33, 1, 0), (34, 4294967296, 0), (35, 18446744073709551616, 0)])) = zl_ev zS0 ((0, 0), [(37, 1, 0)]) := by
  rw [show zl_ev zS0 ((0, 0), [(33, 1, 0), (34, 4294967296, 0), (35, 18446744073709551616, 0)]) = (0 : Int) from by decide +kernel, show zl_ev zS0 ((0, 0), [(37, 1, 0)]) = (1 : Int) from by decide +kernel]
  exact ⟨by decide, zh_b1 (z8Yg_dr)⟩
set_option maxRecDepth 100000 in
theorem z8Ye_10 : 0 ≤ zl_ev zS0 ((0, 0), [(38, 1, 0), (39, 4294967296, 0), (40, 18446744073709551616, 0)]) ∧ zk_xe zW3 2000039 (zl_ev zS0 ((0, 0), [(38, 1, 0), (39, 4294967296, 0), (40, 18446744073709551616, 0)])) = zl_ev zS0 ((0, 0), [(42, 1, 0)]) := by
  rw [show zl_ev zS0 ((0, 0), [(38, 1, 0), (39, 4294967296, 0), (40, 18446744073709551616, 0)]) = (0 : Int) from by decide +kernel, show zl_ev zS0 ((0, 0), [(42, 1, 0)]) = (1 : Int) from by decide +kernel]
  exact ⟨by decide, zh_b1 (z8Yg_dr)⟩
set_option maxRecDepth 100000 in
theorem z8Ye_11 : 0 ≤ zl_ev zS0 ((0, 0), [(43, 1, 0), (44, 4294967296, 0), (45, 18446744073709551616, 0)]) ∧ zk_xe zW3 2000040 (zl_ev zS0 ((0, 0), [(43, 1, 0), (44, 4294967296, 0), (45, 18446744073709551616, 0)])) = zl_ev zS0 ((0, 0), [(47, 1, 0)]) := by
  rw [show zl_ev zS0 ((0, 0), [(43, 1, 0), (44, 4294967296, 0), (45, 18446744073709551616, 0)]) = (0 : Int) from by decide +kernel, show zl_ev zS0 ((0, 0), [(47, 1, 0)]) = (1 : Int) from by decide +kernel]
  exact ⟨by decide, zh_b1 (z8Yg_dr)⟩
set_option maxRecDepth 100000 in
theorem z8Ye_12 : 0 ≤ zl_ev zS0 ((0, 0), [(48, 1, 0), (49, 4294967296, 0), (50, 18446744073709551616, 0)]) ∧ zk_xe zW3 2000041 (zl_ev zS0 ((0, 0), [(48, 1, 0), (49, 4294967296, 0), (50, 18446744073709551616, 0)])) = zl_ev zS0 ((0, 0), [(52, 1, 0)]) := by
  rw [show zl_ev zS0 ((0, 0), [(48, 1, 0), (49, 4294967296, 0), (50, 18446744073709551616, 0)]) = (0 : Int) from by decide +kernel, show zl_ev zS0 ((0, 0), [(52, 1, 0)]) = (1 : Int) from by decide +kernel]
  exact ⟨by decide, zh_b1 (z8Yg_dr)⟩
set_option maxRecDepth 100000 in
theorem z8Ye_13 : 0 ≤ zl_ev zS0 ((0, 0), [(53, 1, 0), (54, 4294967296, 0), (55, 18446744073709551616, 0)]) ∧ zk_xe zW3 2000042 (zl_ev zS0 ((0, 0), [(53, 1, 0), (54, 4294967296, 0), (55, 18446744073709551616, 0)])) = zl_ev zS0 ((0, 0), [(57, 1, 0)]) := by
  rw [show zl_ev zS0 ((0, 0), [(53, 1, 0), (54, 4294967296, 0), (55, 18446744073709551616, 0)]) = (0 : Int) from by decide +kernel, show zl_ev zS0 ((0, 0), [(57, 1, 0)]) = (1 : Int) from by decide +kernel]
  exact ⟨by decide, zh_b1 (z8Yg_dr)⟩
set_option maxRecDepth 100000 in
theorem z8Ye_14 : 0 ≤ zl_ev zS0 ((0, 0), []) ∧ zk_xe zW3 2000016 (zl_ev zS0 ((0, 0), [])) = zl_ev zS0 ((0, 0), [(58, 1, 0)]) := by
  rw [show zl_ev zS0 ((0, 0), []) = (0 : Int) from by decide +kernel, show zl_ev zS0 ((0, 0), [(58, 1, 0)]) = (1 : Int) from by decide +kernel]
  exact ⟨by decide, zh_b1 (z8Ymn)⟩
set_option maxRecDepth 100000 in
theorem z8Ye_15 : 0 ≤ zl_ev zS0 ((6, 0), []) ∧ zk_xe zW3 179 (zl_ev zS0 ((6, 0), [])) = zl_ev zS0 ((0, 0), [(63, 1, 0)]) := by exact ⟨by decide +kernel, by decide +kernel⟩
set_option maxRecDepth 100000 in
theorem z8Yu_40 : zu_P (zu_T 40) zW3 (zq_dec (zu_T 40).2.2.1 (7 : Int)) := z8Yu_c (N := 7) (M := 600) (r := 188) rfl rfl rfl (fun a ha => z8Y_all_ok (f := z8Yu2 (zu_T 40) zW3 (zq_dec (zu_T 40).2.2.1 (7 : Int)) a) (z8Y_all_ok (f := fun a => z8Y_all (zk_el zW3 188 (a : Int)).toNat (z8Yu2 (zu_T 40) zW3 (zq_dec (zu_T 40).2.2.1 (7 : Int)) a)) (by decide +kernel : z8Y_all 7 _ = true) a ha))
set_option maxRecDepth 100000 in
theorem z8Ye_16 : 0 ≤ zl_ev zS0 ((7, 0), []) ∧ zk_xe zW3 2000240 (zl_ev zS0 ((7, 0), [])) = zl_ev zS0 ((0, 0), [(64, 1, 0)]) := by
  rw [show zl_ev zS0 ((7, 0), []) = (7 : Int) from by decide +kernel, show zl_ev zS0 ((0, 0), [(64, 1, 0)]) = (1 : Int) from by decide +kernel]
  exact ⟨by decide, (zv_H_u (t := 40)).trans (zh_b1 z8Yu_40)⟩
set_option maxRecDepth 100000 in
theorem z8Yu_41 : zu_P (zu_T 41) zW3 (zq_dec (zu_T 41).2.2.1 (7 : Int)) := z8Yu_c (N := 7) (M := 3000) (r := 195) rfl rfl rfl (fun a ha => z8Y_all_ok (f := z8Yu2 (zu_T 41) zW3 (zq_dec (zu_T 41).2.2.1 (7 : Int)) a) (z8Y_all_ok (f := fun a => z8Y_all (zk_el zW3 195 (a : Int)).toNat (z8Yu2 (zu_T 41) zW3 (zq_dec (zu_T 41).2.2.1 (7 : Int)) a)) (by decide +kernel : z8Y_all 7 _ = true) a ha))
set_option maxRecDepth 100000 in
theorem z8Ye_17 : 0 ≤ zl_ev zS0 ((7, 0), []) ∧ zk_xe zW3 2000241 (zl_ev zS0 ((7, 0), [])) = zl_ev zS0 ((0, 0), [(65, 1, 0)]) := by
  rw [show zl_ev zS0 ((7, 0), []) = (7 : Int) from by decide +kernel, show zl_ev zS0 ((0, 0), [(65, 1, 0)]) = (1 : Int) from by decide +kernel]
  exact ⟨by decide, (zv_H_u (t := 41)).trans (zh_b1 z8Yu_41)⟩
set_option maxRecDepth 100000 in
theorem z8Ye_18 : 0 ≤ zl_ev zS0 ((0, 0), [(60, 1, 0)]) ∧ zk_xe zW3 2000182 (zl_ev zS0 ((0, 0), [(60, 1, 0)])) = zl_ev zS0 ((1, 0), []) := by
  rw [show zl_ev zS0 ((0, 0), [(60, 1, 0)]) = (0 : Int) from by decide +kernel, show zl_ev zS0 ((1, 0), []) = (1 : Int) from by decide +kernel]
  exact ⟨by decide, zh_b1 (fun _ u h0 h1 => absurd h1 (by rw [show zv_dg 0 (0 : Int) = 0 from by decide +kernel]; omega))⟩
set_option maxRecDepth 100000 in
theorem z8Ye_19 : 0 ≤ zl_ev zS0 ((0, 0), [(60, 1, 0)]) ∧ zk_xe zW3 2000169 (zl_ev zS0 ((0, 0), [(60, 1, 0)])) = zl_ev zS0 ((1, 0), []) := by
  rw [show zl_ev zS0 ((0, 0), [(60, 1, 0)]) = (0 : Int) from by decide +kernel, show zl_ev zS0 ((1, 0), []) = (1 : Int) from by decide +kernel]
  exact ⟨by decide, zh_b1 (fun _ u h0 h1 => absurd h1 (by rw [show zv_dg 0 (0 : Int) = 0 from by decide +kernel]; omega))⟩
set_option maxRecDepth 100000 in
theorem z8Ye_20 : 0 ≤ zl_ev zS0 ((0, 0), [(60, 1, 0)]) ∧ zk_xe zW3 2000176 (zl_ev zS0 ((0, 0), [(60, 1, 0)])) = zl_ev zS0 ((1, 0), []) := by
  rw [show zl_ev zS0 ((0, 0), [(60, 1, 0)]) = (0 : Int) from by decide +kernel, show zl_ev zS0 ((1, 0), []) = (1 : Int) from by decide +kernel]
  exact ⟨by decide, zh_b1 (fun _ u h0 h1 => absurd h1 (by rw [show zv_dg 0 (0 : Int) = 0 from by decide +kernel]; omega))⟩
set_option maxRecDepth 100000 in
theorem z8Ye_21 : 0 ≤ zl_ev zS0 ((0, 0), [(60, 1, 0), (61, 18446744073709551616, 0)]) ∧ zk_xe zW3 2000172 (zl_ev zS0 ((0, 0), [(60, 1, 0), (61, 18446744073709551616, 0)])) = zl_ev zS0 ((1, 0), []) := by
  rw [show zl_ev zS0 ((0, 0), [(60, 1, 0), (61, 18446744073709551616, 0)]) = (2434970217729660813312 : Int) from by decide +kernel, show zl_ev zS0 ((1, 0), []) = (1 : Int) from by decide +kernel]
  exact ⟨by decide, zh_b1 (fun _ u h0 h1 => absurd h1 (by rw [show zv_dg 0 (2434970217729660813312 : Int) = 0 from by decide +kernel]; omega))⟩
theorem z8YE : zk_eF zS0 zQE zW3 := by
  unfold zk_eF zQE
  exact List.forall_mem_cons.mpr ⟨z8Ye_0, List.forall_mem_cons.mpr ⟨z8Ye_1, List.forall_mem_cons.mpr ⟨z8Ye_2, List.forall_mem_cons.mpr ⟨z8Ye_3, List.forall_mem_cons.mpr ⟨z8Ye_4, List.forall_mem_cons.mpr ⟨z8Ye_5, List.forall_mem_cons.mpr ⟨z8Ye_6, List.forall_mem_cons.mpr ⟨z8Ye_7, List.forall_mem_cons.mpr ⟨z8Ye_8, List.forall_mem_cons.mpr ⟨z8Ye_9, List.forall_mem_cons.mpr ⟨z8Ye_10, List.forall_mem_cons.mpr ⟨z8Ye_11, List.forall_mem_cons.mpr ⟨z8Ye_12, List.forall_mem_cons.mpr ⟨z8Ye_13, List.forall_mem_cons.mpr ⟨z8Ye_14, List.forall_mem_cons.mpr ⟨z8Ye_15, List.forall_mem_cons.mpr ⟨z8Ye_16, List.forall_mem_cons.mpr ⟨z8Ye_17, List.forall_mem_cons.mpr ⟨z8Ye_18, List.forall_mem_cons.mpr ⟨z8Ye_19, List.forall_mem_cons.mpr ⟨z8Ye_20, List.forall_mem_cons.mpr ⟨z8Ye_21, (fun _ h => absurd h List.not_mem_nil)⟩⟩⟩⟩⟩⟩⟩⟩⟩⟩⟩⟩⟩⟩⟩⟩⟩⟩⟩⟩⟩⟩
set_option maxRecDepth 100000 in
theorem z8Yt_13 : zPT 13 zW3 := (z8Yt1 (p := ([308, 309], [], [[((1, 0), [(1, 0, 1)])], [((0, 3), [(1, 1, 0)])], [((0, 0), [(2, 1, 0)]), ((9, 0), [(2, 0, 1)])]])) (r := 308) (N := 3001) (by decide) rfl (z8Y_all_ok (f := z8Yk1 ([308, 309], [], [[((1, 0), [(1, 0, 1)])], [((0, 3), [(1, 1, 0)])], [((0, 0), [(2, 1, 0)]), ((9, 0), [(2, 0, 1)])]]) zW3) (by decide +kernel)) : zk_P zHT ([308, 309], [], [[((1, 0), [(1, 0, 1)])], [((0, 3), [(1, 1, 0)])], [((0, 0), [(2, 1, 0)]), ((9, 0), [(2, 0, 1)])]]) zW3)
set_option maxRecDepth 100000 in
theorem z8Yt_15 : zPT 15 zW3 := (z8Yt1 (p := ([260], [(171, 187), (171, 188)], [[((1, 0), [(2, 0, 1)])], [((0, 3), [(2, 1, 0)])], [((0, 0), [(3, 1, 0)]), ((9, 0), [(3, 0, 1)])]])) (r := 260) (N := 85) (by decide) rfl (z8Y_all_ok (f := z8Yk1 ([260], [(171, 187), (171, 188)], [[((1, 0), [(2, 0, 1)])], [((0, 3), [(2, 1, 0)])], [((0, 0), [(3, 1, 0)]), ((9, 0), [(3, 0, 1)])]]) zW3) (by decide +kernel)) : zk_P zHT ([260], [(171, 187), (171, 188)], [[((1, 0), [(2, 0, 1)])], [((0, 3), [(2, 1, 0)])], [((0, 0), [(3, 1, 0)]), ((9, 0), [(3, 0, 1)])]]) zW3)
set_option maxRecDepth 100000 in
theorem z8Yt_27 : zPT 27 zW3 := (z8Yt1 (p := ([184, 182], [], [[((383, 0), [(0, 0, 1)]), ((98304, 0), [(1, 0, 1)])], [((0, 384), [(0, 1, 0)]), ((114688, 0), [(1, 0, 1), (2, 0, 1)])]])) (r := 184) (N := 448) (by decide) rfl (z8Y_all_ok (f := z8Yk1 ([184, 182], [], [[((383, 0), [(0, 0, 1)]), ((98304, 0), [(1, 0, 1)])], [((0, 384), [(0, 1, 0)]), ((114688, 0), [(1, 0, 1), (2, 0, 1)])]]) zW3) (by decide +kernel)) : zk_P zHT ([184, 182], [], [[((383, 0), [(0, 0, 1)]), ((98304, 0), [(1, 0, 1)])], [((0, 384), [(0, 1, 0)]), ((114688, 0), [(1, 0, 1), (2, 0, 1)])]]) zW3)
theorem z8Yg_175 : (z8Yg 175).2.2.2.1 = 32 ∧ z8Y_st 32 0 (z8Yg 175).2.2.2.2 = true := ⟨by decide +kernel, by decide +kernel⟩
theorem z8Y_nm : (Int32.ofNat (zk_fd zW3 (171, 3))).toInt = 132 := by decide +kernel
set_option maxRecDepth 100000 in
theorem z8Yt_23 : zPT 23 zW3 := by
  show zk_P zHT ([175], [(171, 3)], [[((0, 0), [(1, 0, 1), (2, 1, 0)])]]) zW3
  intro j _
  refine ⟨_, List.mem_cons_self, List.forall_mem_cons.mpr ⟨?_, fun _ h => absurd h List.not_mem_nil⟩⟩
  have e : (zk_al zW3 [175] [(171, 3)] j) = [(j : Int), zk_el zW3 175 (j : Int), (Int32.ofNat (zk_fd zW3 (171, 3))).toInt] := rfl
  show 0 ≤ zl_ev (fun m => (zk_al zW3 [175] [(171, 3)] j).getD m 0) (zl_sub (zl_sym 2) (zl_sym 1))
  rw [zl_sub_ev, zl_sym_ev, zl_sym_ev, e, z8Yel 175 j z8Yg_175.1 z8Yg_175.2]
  show 0 ≤ (Int32.ofNat (zk_fd zW3 (171, 3))).toInt - (Int32.ofNat (z8Y_lk (z8Yg 175).2.2.2.2 j)).toInt
  rw [z8Y_nm]
  rcases z8Y_mem (z8Yg 175).2.2.2.2 j with h | h
  · rw [h]
    decide
  · have := of_decide_eq_true (List.all_eq_true.mp (by decide +kernel : (z8Yg 175).2.2.2.2.all (fun q => decide ((Int32.ofNat q.2).toInt ≤ 132)) = true) _ h)
    have h2 : (Int32.ofNat (z8Y_lk (z8Yg 175).2.2.2.2 j)).toInt ≤ 132 := this
    omega
set_option maxRecDepth 100000 in
theorem z8Yt_106 : zPT 106 zW3 := (z8Yt2 (p := ([183, 99999, 179], [], [[((0, 1), [(0, 0, 1), (2, 64, 0)])], [((0, 0), [(0, 1, 0), (2, 0, 64), (3, 0, 1)])], [((0, 1), [(1, 1, 0)]), ((1, 0), [(1, 0, 1)])], [((0, 2), [(1, 1, 0)]), ((2, 0), [(1, 0, 1)])], [((0, 4), [(1, 1, 0)]), ((4, 0), [(1, 0, 1)])], [((0, 8), [(1, 1, 0)]), ((8, 0), [(1, 0, 1)])], [((0, 16), [(1, 1, 0)]), ((16, 0), [(1, 0, 1)])]])) (r1 := 183) (r2 := 179) (N := 448) (M := 7) (by decide) (by decide) rfl rfl (fun j hj => z8Y_all_ok (f := fun k => z8Yk2 ([183, 99999, 179], [], [[((0, 1), [(0, 0, 1), (2, 64, 0)])], [((0, 0), [(0, 1, 0), (2, 0, 64), (3, 0, 1)])], [((0, 1), [(1, 1, 0)]), ((1, 0), [(1, 0, 1)])], [((0, 2), [(1, 1, 0)]), ((2, 0), [(1, 0, 1)])], [((0, 4), [(1, 1, 0)]), ((4, 0), [(1, 0, 1)])], [((0, 8), [(1, 1, 0)]), ((8, 0), [(1, 0, 1)])], [((0, 16), [(1, 1, 0)]), ((16, 0), [(1, 0, 1)])]]) zW3 k j) (z8Y_all_ok (f := fun j => z8Y_all 448 (fun k => z8Yk2 ([183, 99999, 179], [], [[((0, 1), [(0, 0, 1), (2, 64, 0)])], [((0, 0), [(0, 1, 0), (2, 0, 64), (3, 0, 1)])], [((0, 1), [(1, 1, 0)]), ((1, 0), [(1, 0, 1)])], [((0, 2), [(1, 1, 0)]), ((2, 0), [(1, 0, 1)])], [((0, 4), [(1, 1, 0)]), ((4, 0), [(1, 0, 1)])], [((0, 8), [(1, 1, 0)]), ((8, 0), [(1, 0, 1)])], [((0, 16), [(1, 1, 0)]), ((16, 0), [(1, 0, 1)])]]) zW3 k j)) (by decide +kernel) j hj)) : zk_P2 zHT ([183, 99999, 179], [], [[((0, 1), [(0, 0, 1), (2, 64, 0)])], [((0, 0), [(0, 1, 0), (2, 0, 64), (3, 0, 1)])], [((0, 1), [(1, 1, 0)]), ((1, 0), [(1, 0, 1)])], [((0, 2), [(1, 1, 0)]), ((2, 0), [(1, 0, 1)])], [((0, 4), [(1, 1, 0)]), ((4, 0), [(1, 0, 1)])], [((0, 8), [(1, 1, 0)]), ((8, 0), [(1, 0, 1)])], [((0, 16), [(1, 1, 0)]), ((16, 0), [(1, 0, 1)])]]) zW3)
def z8Yp104 : zk_Sp := ([199, 201, 99999, 195], [], [[((0, 1), [(0, 0, 1), (3, 3000, 0)])], [((0, 0), [(0, 1, 0), (3, 0, 3000), (4, 0, 1)])], [((0, 0), [(1, 1, 0)])], [((0, 0), [(2, 1, 0)])]])
set_option maxRecDepth 100000 in
theorem z8Yc104 : z8Y_all 7 (fun j => z8Y_all (zk_el zW3 195 (j : Int)).toNat (fun i => z8Yk2 z8Yp104 zW3 (3000 * j + i) j)) = true := by decide +kernel
set_option maxRecDepth 100000 in
theorem z8Yt_104 : zPT 104 zW3 := by
  show zk_P2 zHT z8Yp104 zW3
  intro k j hk hj
  have hj7 : j < 7 := hj 195 List.mem_cons_self
  have hc := z8Y_all_ok z8Yc104 j hj7
  by_cases h1 : k < 3000 * j
  · refine ⟨_, List.mem_cons_self, List.forall_mem_cons.mpr ⟨?_, fun _ h => absurd h List.not_mem_nil⟩⟩
    show 0 ≤ zl_ev (fun m => (zk_al2 zW3 [199, 201] [195] [] k j).getD m 0) (zl_sub (zl_sub (zl_mul 3000 (zl_sym 3)) (zl_sym 0)) (zl_con 1))
    rw [zl_sub_ev, zl_sub_ev, zl_mul_ev, zl_con_ev, zl_sym_ev, zl_sym_ev]
    show (0 : Int) ≤ 3000 * (j : Int) - (k : Int) - 1
    omega
  · by_cases h2 : k < 3000 * j + (zk_el zW3 195 (j : Int)).toNat
    · have h3 := z8Y_all_ok hc (k - 3000 * j) (by omega)
      have h3 : z8Yk2 z8Yp104 zW3 (3000 * j + (k - 3000 * j)) j = true := h3
      rw [show 3000 * j + (k - 3000 * j) = k by omega] at h3
      exact z8Y_any h3
    · refine ⟨_, List.mem_cons_of_mem _ List.mem_cons_self, List.forall_mem_cons.mpr ⟨?_, fun _ h => absurd h List.not_mem_nil⟩⟩
      show 0 ≤ zl_ev (fun m => (zk_al2 zW3 [199, 201] [195] [] k j).getD m 0) (zl_sub (zl_sub (zl_sym 0) (zl_mul 3000 (zl_sym 3))) (zl_sym 4))
      rw [zl_sub_ev, zl_sub_ev, zl_mul_ev, zl_sym_ev, zl_sym_ev, zl_sym_ev]
      show (0 : Int) ≤ (k : Int) - 3000 * (j : Int) - zk_el zW3 195 (j : Int)
      omega
/-- names at the beginning: how far each is from the place of its sum -/
def z8Yd : List Nat := [0, 0, 0, 0, 0, 0, 0, 0, 0, 0, 0, 0, 0, 0, 0, 0, 0, 0, 0, 0, 0, 0, 0, 0, 0, 0, 0, 0, 0, 0, 0, 0, 0, 0, 0, 0, 0, 1, 0, 0, 0, 0, 0, 0, 0, 0, 0, 0, 0, 0, 0, 0, 0, 0, 0, 0, 0, 0, 0, 0, 0, 0, 0, 0, 0, 0, 0, 0, 0, 0, 0, 0, 0, 0, 0, 0, 0, 0, 0, 0, 0, 0, 0, 0, 0, 0, 0, 0, 0, 0, 0, 0, 0, 0, 0, 0, 0, 0, 0, 0, 0, 0, 0, 0, 0, 0, 0, 0, 0, 0, 0, 0, 0, 0, 0, 0, 0, 0, 0, 0, 0, 0, 0, 0, 0, 0, 0, 0, 0, 0, 0, 0]
set_option maxRecDepth 100000 in
theorem z8Yt_200 : zPT 200 zW3 := by
  refine ⟨?_, fun i h0 h1 => ?_, fun i j h0 h1 h2 h3 h4 => ?_, fun i h0 h1 h2 => ?_⟩
  · show (zn_c (zn_el zW3) zn_N : Int) ≤ (Int32.ofNat (zk_fd zW3 (171, 3))).toInt
    rw [z8Y_nm]
    have e : zn_c (zn_el zW3) zn_N = zn_c (fun j => (Int32.ofNat (z8Y_lk (z8Yg 175).2.2.2.2 j)).toInt) zn_N := zn_c_eq (fun j _ => z8Yel 175 j z8Yg_175.1 z8Yg_175.2)
    have h := zn_c_lk (z8Yg 175).2.2.2.2 zn_N
    have h2 : (z8Yg 175).2.2.2.2.length = 132 := by decide +kernel
    omega
  · have h1 : i < 132 := by rw [← z8Y_nm]; exact h1
    obtain ⟨n, rfl⟩ := Int.eq_ofNat_of_zero_le h0
    have h := z8Y_all_ok (f := fun n => decide (zh_e zW3 175 ((zn_h (zn_l zW3 173 (n : Int)) (zn_l zW3 174 (n : Int)) + ((z8Yd.getD n 0 : Nat) : Int)) % 131072) = (n : Int) + 1) && z8Y_all (z8Yd.getD n 0) (fun e => decide (1 ≤ zh_e zW3 175 ((zn_h (zn_l zW3 173 (n : Int)) (zn_l zW3 174 (n : Int)) + (e : Int)) % 131072)))) (by decide +kernel : z8Y_all 132 _ = true) n (by omega)
    obtain ⟨h2, h3⟩ := zz_and h
    refine ⟨((z8Yd.getD n 0 : Nat) : Int), by omega, of_decide_eq_true h2, fun e he1 he2 => ?_⟩
    obtain ⟨m, rfl⟩ := Int.eq_ofNat_of_zero_le he1
    exact of_decide_eq_true (z8Y_all_ok h3 m (by omega))
  · have h2 : j < 132 := by rw [← z8Y_nm]; exact h2
    obtain ⟨n, rfl⟩ := Int.eq_ofNat_of_zero_le h0
    obtain ⟨m, rfl⟩ := Int.eq_ofNat_of_zero_le (by omega : 0 ≤ j)
    have h := z8Y_all_ok (z8Y_all_ok (f := fun m => z8Y_all m (fun n => !(decide (zn_l zW3 173 (n : Int) = zn_l zW3 173 (m : Int)) && decide (zn_l zW3 174 (n : Int) = zn_l zW3 174 (m : Int))))) (by decide +kernel : z8Y_all 132 _ = true) m (by omega)) n (by omega)
    rw [decide_eq_true h3, decide_eq_true h4] at h
    cases h
  · obtain ⟨n, rfl⟩ := Int.eq_ofNat_of_zero_le h0
    have h := z8Y_all_ok (f := fun n => decide (zn_l zW3 173 (n : Int) = zn_KA.getD n 0) && decide (zn_l zW3 174 (n : Int) = zn_KB.getD n 0)) (by decide +kernel : z8Y_all 125 _ = true) n (by omega)
    obtain ⟨h2, h3⟩ := zz_and h
    exact ⟨of_decide_eq_true h2, of_decide_eq_true h3⟩
theorem z8YK : ∀ t ∈ zQK, zPT t zW3 := List.forall_mem_cons.mpr ⟨z8Yt_13, List.forall_mem_cons.mpr ⟨z8Yt_15, List.forall_mem_cons.mpr ⟨z8Yt_23, List.forall_mem_cons.mpr ⟨z8Yt_200, List.forall_mem_cons.mpr ⟨z8Yt_27, List.forall_mem_cons.mpr ⟨z8Yt_106, List.forall_mem_cons.mpr ⟨z8Yt_104, (fun _ h => absurd h List.not_mem_nil)⟩⟩⟩⟩⟩⟩⟩
/-- at the start of the law's loop -/
theorem zIv_0 : zIv zQI 0 0 zW3 := ⟨⟨zS0, by decide +kernel, ⟨(fun _ h => absurd h List.not_mem_nil), trivial, z8YF, z8YB, z8YC', zW3_I⟩, z8YE, z8YK⟩, zW3_Bi, by rw [zW3_1]; decide, by rw [zW3_2]; decide⟩
end
end
section
/-! showName: what was owed, by hand -/
theorem zCo2_103 {l : Launch} {D : va_G} {cy : Nat → ClassId} {z0 : Nat} {sp : Nat → Nat} {G : State → Prop} (hG : zz_GF z0 G) (hP : ∀ U, G U → zz_GD zS zS2 zLg z0 sp U) : zk_Con l zTs D zcl zFK cy z0 sp (zTys cy) G zYN zCN zMQ zRT 64 zHT zPT 103 zQ_103 :=
  zk_chk_ok zTT (CT := (zk_ctl [])) (code := zD_103) (cs := zUc_103) (fuel := 100000) (h0 := zH0_103) (H := zHs_103) zE_103 (fun d K hKS => zP_s hKS hG hP 103 (by decide) (Or.inl (by decide))) (zP_r 103 (by decide)) (zYN_pl 103) rfl (fun y' q' h => ((fun _ h => absurd h List.not_mem_nil) : ∀ p ∈ ([] : List (Nat × zk_Ct)), zk_Con l zTs D zcl zFK cy z0 sp (zTys cy) G zYN zCN zMQ zRT 64 zHT zPT (p.1 % 1000) p.2) (y', q') (zk_ctl_mem h)) (by decide +kernel)
theorem zSg_127 (i : Nat) : (127#64).getLsbD i = decide (i < 7) := by
  by_cases h : i < 7
  · rw [decide_eq_true h]
    revert i
    decide
  · rw [decide_eq_false h, BitVec.getLsbD_ofNat, Nat.testBit_lt_two_pow (Nat.lt_of_lt_of_le (by decide : 127 < 2 ^ 7) (Nat.pow_le_pow_right (by decide) (by omega))), Bool.and_false]
theorem zSg_bv {A s : Nat} (hs : s ≤ 56) : ((BitVec.ofNat 64 A).sshiftRight s &&& 127#64).toNat = (A >>> s) % 128 := by
  apply Nat.eq_of_testBit_eq
  intro i
  rw [show (128 : Nat) = 2 ^ 7 from rfl, Nat.testBit_mod_two_pow, Nat.testBit_shiftRight, BitVec.testBit_toNat, BitVec.getLsbD_and, zSg_127]
  by_cases hi : i < 7
  · rw [decide_eq_true hi, Bool.and_true, Bool.true_and, BitVec.getLsbD_sshiftRight, if_pos (by omega), BitVec.getLsbD_ofNat, decide_eq_true (show s + i < 64 by omega), Bool.true_and, decide_eq_false (show ¬ 64 ≤ i by omega), Bool.not_false, Bool.true_and]
  · rw [decide_eq_false hi, Bool.and_false, Bool.false_and]
theorem zSg_sh {A s : Nat} {y : Int64} (hs : s ≤ 56) (hb : y.toBitVec.smod 64 = BitVec.ofNat 64 s) : ((Int64.ofNat A >>> y) &&& Int64.ofNat 127).toInt32 = Int32.ofNat ((A >>> s) % 128) := by
  have h3 : (A >>> s) % 128 < 128 := Nat.mod_lt _ (by decide)
  apply zI_eq
  rw [zz_nI_ofNat (by omega)]
  unfold zz_nI
  rw [Int64.toBitVec_toInt32, BitVec.signExtend_eq_setWidth_of_le _ (by decide), BitVec.toNat_setWidth, Int64.toBitVec_and, Int64.toBitVec_shiftRight]
  show (((Int64.ofNat A).toBitVec.sshiftRight' (y.toBitVec.smod 64)) &&& 127#64).toNat % 2 ^ 32 = _
  rw [hb]
  show ((BitVec.ofNat 64 A).sshiftRight (BitVec.ofNat 64 s).toNat &&& 127#64).toNat % 2 ^ 32 = _
  rw [BitVec.toNat_ofNat, Nat.mod_eq_of_lt (show s < 2 ^ 64 by omega), zSg_bv hs, Nat.mod_eq_of_lt (by omega)]
theorem zSh_a : ∀ k, k < 16 → Int32.ofNat k - Int32.ofNat k / Int32.ofNat 8 * Int32.ofNat 8 = Int32.ofNat (k % 8) := by decide
theorem zSh_b : ∀ k, k < 16 → Int32.ofNat 8 * Int32.ofNat (k % 8) = Int32.ofNat (8 * (k % 8)) := by decide
theorem zSh_c : ∀ k, k < 8 → ((Int32.ofNat (8 * k)).toInt64 &&& 63).toBitVec.smod 64 = BitVec.ofNat 64 (8 * k) := by decide
theorem zSh_d : ∀ k, k < 16 → ¬ Int32.ofNat k < Int32.ofNat 0 := by decide
theorem zSh_e : ∀ k, k < 16 → ¬ Int32.ofNat 15 < Int32.ofNat k := by decide
theorem zSh_f : ∀ k, k < 8 → ¬ Int32.ofNat 8 ≤ Int32.ofNat k := by decide
theorem zSh_g : ∀ k, k < 16 → 8 ≤ k → Int32.ofNat 8 ≤ Int32.ofNat k := by decide
theorem zSh_h : ∀ x, x < 128 → x ≠ 0 → ¬ Int32.ofNat x ≤ 0 := by decide
theorem zSh_i : ∀ n, n < 125 → ¬ Int32.ofNat n < 0 := by decide
theorem zSh_j : ∀ x, x < 128 → x ≠ 0 → ¬ Int32.ofNat x = 0 := by decide
theorem zM78 {l : Launch} {D : va_G} {cy : Nat → ClassId} {z0 : Nat} {sp : Nat → Nat} {G : State → Prop} (hG : zz_GF z0 G) (hP : ∀ U, G U → zz_GD zS zS2 zLg z0 sp U) {d k : Nat} (hk : k < 16) {w : zz_W} : zz_M l zTs D zcl zFK cy z0 sp (zTys cy) G zYN zCN zMQ zRT (d + 1) 78 [.int (Int32.ofNat k), .int (Int32.ofNat 0), .int (Int32.ofNat 15)] w [.int (Int32.ofNat 1)] w := by
  have T := zt_78 (l := l) (D := D) (cy := cy) (z0 := z0) (sp := sp) (G := G) (d := d) zz_k0_KS hG hP
  have b := zz_B_rf (l := l) (Ts := zTs) (D := D) (cl := zcl) (fk := zFK) (cy := cy) (z0 := z0) (sp := sp) (tys := zTys cy) (G := G) (own := "ToolMillModel") (mn := "in") (nL := 3) (cc := prog_14_method_4_code) (d := d) ((0, [(0, .int (Int32.ofNat k)), (1, .int (Int32.ofNat 0)), (2, .int (Int32.ofNat 15))], [], w) : zz_F)
  replace b := zz_fw b T (rfl : zz_ent zP_78 0 = (0, za_iload 0 1)) (ze_iload rfl)
  replace b := zz_fw b T (rfl : zz_ent zP_78 1 = (0, za_iload 1 2)) (ze_iload rfl)
  replace b := zz_fw b T (rfl : zz_ent zP_78 2 = (0, za_icmp_lt 14 5)) (ze_icmp_lt_f (zSh_d k hk))
  replace b := zz_fw b T (rfl : zz_ent zP_78 5 = (0, za_iload 0 6)) (ze_iload rfl)
  replace b := zz_fw b T (rfl : zz_ent zP_78 6 = (0, za_iload 2 7)) (ze_iload rfl)
  replace b := zz_fw b T (rfl : zz_ent zP_78 7 = (0, za_icmp_gt 14 10)) (ze_icmp_gt_f (zSh_e k hk))
  replace b := zz_fw b T (rfl : zz_ent zP_78 10 = (0, za_const (.int (Int32.ofNat 1)) 11)) (ze_const)
  replace b := zz_fw b T (rfl : zz_ent zP_78 11 = (0, za_goto 15)) (ze_goto)
  exact zz_M_B (yn := zYN) (cn := zCN) (ml := zMQ) (rt := zRT) (y := 78) (as := [.int (Int32.ofNat k), .int (Int32.ofNat 0), .int (Int32.ofNat 15)]) rfl rfl rfl rfl rfl (by decide +kernel) (zz_lb rfl) (zz_lb rfl) (zz_end_z (zr_78.2.2.1 15 rfl).1 (by decide)) b
/-- what the names' rows are -/
theorem zSh_w {w : zz_W} (hI : zk_I 64 zHT w) : (∃ N, zz_has w 171 (3, 0, 243, N) ∧ zz_at 64 N 4 = 174 ∧ zz_at 64 N 5 = 175) ∧ (∃ N, zz_has w 173 (1, 3, 65536, N) ∧ N = (zz_g w 173).2.2.2) ∧ ∃ N, zz_has w 174 (1, 3, 65536, N) ∧ N = (zz_g w 174).2.2.2 := by
  obtain ⟨l0, k1, k2, k3, -, -, k4, -⟩ := hI.2.2.2 171 (by show (3 : Nat) ≠ 9; decide)
  have k1 : (zz_g w 171).1 = 3 := k1
  have k2 : (zz_g w 171).2.1 = 0 := k2
  have k3 : (zz_g w 171).2.2.1 = 243 := k3
  obtain ⟨l1, m1, m2, m3, -⟩ := hI.2.2.2 173 (by show (1 : Nat) ≠ 9; decide)
  have m1 : (zz_g w 173).1 = 1 := m1
  have m2 : (zz_g w 173).2.1 = 3 := m2
  have m3 : (zz_g w 173).2.2.1 = 65536 := m3
  obtain ⟨l2, n1, n2, n3, -⟩ := hI.2.2.2 174 (by show (1 : Nat) ≠ 9; decide)
  have n1 : (zz_g w 174).1 = 1 := n1
  have n2 : (zz_g w 174).2.1 = 3 := n2
  have n3 : (zz_g w 174).2.2.1 = 65536 := n3
  exact ⟨⟨_, ⟨l0, by decide, zvk_3 (a := 3) (b := 0) (n := 243) (M := 0) (by show ((zz_g w 171).1, (zz_g w 171).2.1, (zz_g w 171).2.2.1) = (3, 0, 243); rw [k1, k2, k3])⟩, (k4 rfl 4 _ rfl).2 rfl, (k4 rfl 5 _ rfl).2 rfl⟩, ⟨_, ⟨l1, by decide, zvk_3 (a := 1) (b := 3) (n := 65536) (M := 0) (by show ((zz_g w 173).1, (zz_g w 173).2.1, (zz_g w 173).2.2.1) = (1, 3, 65536); rw [m1, m2, m3])⟩, rfl⟩, ⟨_, ⟨l2, by decide, zvk_3 (a := 1) (b := 3) (n := 65536) (M := 0) (by show ((zz_g w 174).1, (zz_g w 174).2.1, (zz_g w 174).2.2.1) = (1, 3, 65536); rw [n1, n2, n3])⟩, rfl⟩⟩
def zSv2 (w : zz_W) (n k : Nat) : Int32 := if zn_sg w n k = 0 then Int32.ofNat 4294967295 else Int32.ofNat (zn_sg w n k)
theorem zM88 {l : Launch} {D : va_G} {cy : Nat → ClassId} {z0 : Nat} {sp : Nat → Nat} {G : State → Prop} (hG : zz_GF z0 G) (hP : ∀ U, G U → zz_GD zS zS2 zLg z0 sp U) {d n k : Nat} (hn : n < 125) (hk : k < 16) {w : zz_W} (hI : zk_I 64 zHT w) : zz_M l zTs D zcl zFK cy z0 sp (zTys cy) G zYN zCN zMQ zRT (d + 2) 88 [.ref 171, .int (Int32.ofNat n), .int (Int32.ofNat k)] w [.int (zSv2 w n k)] w := by
  obtain ⟨⟨N, h0, h4, h5⟩, ⟨A, hA, eA⟩, ⟨C, hC, eC⟩⟩ := zSh_w hI
  have en : zz_nI (Int32.ofNat n) = n := zz_nI_ofNat (by omega)
  have T := zt_88 (l := l) (D := D) (cy := cy) (z0 := z0) (sp := sp) (G := G) (d := d + 1) zz_k0_KS hG hP
  have TK := fun (K : zz_K) (h : zz_KS l D zcl zFK cy z0 sp (zTys cy) G zYN (fun y => Cond.code (zYN y) (zCN y) (zMQ y) (zRT y) :: zTs) (d + 1) K) => zt_88 h hG hP
  have b := zz_B_rf (l := l) (Ts := zTs) (D := D) (cl := zcl) (fk := zFK) (cy := cy) (z0 := z0) (sp := sp) (tys := zTys cy) (G := G) (own := "ToolMillModel") (mn := "nameSign") (nL := 4) (cc := prog_14_method_8_code) (d := d + 1) ((0, [(0, .ref 171), (1, .int (Int32.ofNat n)), (2, .int (Int32.ofNat k))], [], w) : zz_F)
  replace b := zz_fw b T (rfl : zz_ent zP_88 0 = (0, za_iload 1 1)) (ze_iload rfl)
  replace b := zz_fw b T (rfl : zz_ent zP_88 1 = (0, za_if_lt 14 4)) (ze_if_lt_f (zSh_i n hn))
  replace b := zz_fw b T (rfl : zz_ent zP_88 4 = (0, za_iload 2 5)) (ze_iload rfl)
  replace b := zz_fw b T (rfl : zz_ent zP_88 5 = (0, za_const (.int (Int32.ofNat 0)) 6)) (ze_const)
  replace b := zz_fw b T (rfl : zz_ent zP_88 6 = (0, za_const (.int (Int32.ofNat 15)) 8)) (ze_const)
  replace b := zz_fSi b TK (rfl : zz_ent zP_88 8 = (0, za_callS 78 3 11)) (zM78 (d := d) hG hP hk) rfl rfl (zz_lb rfl)
  replace b := zz_fw b T (rfl : zz_ent zP_88 11 = (0, za_if_ne 16 14)) (ze_if_ne_t (by decide))
  replace b := zz_fw b T (rfl : zz_ent zP_88 16 = (0, za_iload 2 17)) (ze_iload rfl)
  replace b := zz_fw b T (rfl : zz_ent zP_88 17 = (0, za_const (.int (Int32.ofNat 8)) 19)) (ze_const)
  have hs : ∃ A0 : Nat, zn_sg w n k = (A0 >>> (8 * (k % 8))) % 128 ∧ zz_B l zTs D zcl zFK cy z0 sp (zTys cy) G "ToolMillModel" "nameSign" 4 prog_14_method_8_code (d + 1) (0, [(0, .ref 171), (1, .int (Int32.ofNat n)), (2, .int (Int32.ofNat k))], [], w) (37, [(0, .ref 171), (1, .int (Int32.ofNat n)), (2, .int (Int32.ofNat k))], [.long (Int64.ofNat A0)], w) := by
    by_cases h8 : k < 8
    · refine ⟨zz_at 64 A n, by unfold zn_sg; rw [if_pos h8, eA], ?_⟩
      replace b := zz_fw b T (rfl : zz_ent zP_88 19 = (0, za_icmp_ge 31 22)) (ze_icmp_ge_f (zSh_f k h8))
      replace b := zz_fw b T (rfl : zz_ent zP_88 22 = (0, za_aload 0 23)) (ze_aload rfl)
      replace b := zz_fw b T (rfl : zz_ent zP_88 23 = (0, za_getA 0 4 26)) (ze_getA h0 (by decide) h4)
      replace b := zz_fw b T (rfl : zz_ent zP_88 26 = (0, za_iload 1 27)) (ze_iload rfl)
      replace b := zz_fw b T (rfl : zz_ent zP_88 27 = (0, za_aldL 3 28)) (ze_aldL hA (by rw [en]; omega) (by decide) (by rw [en]))
      exact zz_fw b T (rfl : zz_ent zP_88 28 = (0, za_goto 37)) (ze_goto)
    · refine ⟨zz_at 64 C n, by unfold zn_sg; rw [if_neg h8, eC], ?_⟩
      replace b := zz_fw b T (rfl : zz_ent zP_88 19 = (0, za_icmp_ge 31 22)) (ze_icmp_ge_t (zSh_g k hk (by omega)))
      replace b := zz_fw b T (rfl : zz_ent zP_88 31 = (0, za_aload 0 32)) (ze_aload rfl)
      replace b := zz_fw b T (rfl : zz_ent zP_88 32 = (0, za_getA 0 5 35)) (ze_getA h0 (by decide) h5)
      replace b := zz_fw b T (rfl : zz_ent zP_88 35 = (0, za_iload 1 36)) (ze_iload rfl)
      exact zz_fw b T (rfl : zz_ent zP_88 36 = (0, za_aldL 3 37)) (ze_aldL hC (by rw [en]; omega) (by decide) (by rw [en]))
  clear b
  obtain ⟨A0, hs, b⟩ := hs
  have h128 : (A0 >>> (8 * (k % 8))) % 128 < 128 := Nat.mod_lt _ (by decide)
  replace b := zz_fw b T (rfl : zz_ent zP_88 37 = (0, za_const (.int (Int32.ofNat 8)) 39)) (ze_const)
  replace b := zz_fw b T (rfl : zz_ent zP_88 39 = (0, za_iload 2 40)) (ze_iload rfl)
  replace b := zz_fw b T (rfl : zz_ent zP_88 40 = (0, za_const (.int (Int32.ofNat 8)) 42)) (ze_const)
  replace b := zz_fw b T (rfl : zz_ent zP_88 42 = (0, za_irem 43)) (ze_irem (by decide) (zSh_a k hk))
  replace b := zz_fw b T (rfl : zz_ent zP_88 43 = (0, za_imul 44)) (ze_imul (zSh_b k hk))
  replace b := zz_fw b T (rfl : zz_ent zP_88 44 = (0, za_lshr 45)) (ze_lshr rfl)
  replace b := zz_fw b T (rfl : zz_ent zP_88 45 = (0, za_const (.long (Int64.ofNat 127)) 48)) (ze_const)
  replace b := zz_fw b T (rfl : zz_ent zP_88 48 = (0, za_land 49)) (ze_land rfl)
  replace b := zz_fw b T (rfl : zz_ent zP_88 49 = (0, za_l2i 50)) (ze_l2i (zSg_sh (s := 8 * (k % 8)) (by omega) (zSh_c (k % 8) (Nat.mod_lt _ (by decide)))))
  replace b := zz_fw b T (rfl : zz_ent zP_88 50 = (0, za_istore 3 51)) (ze_istore (lv' := [(0, _), (1, _), (2, _)]) rfl)
  replace b := zz_fw b T (rfl : zz_ent zP_88 51 = (0, za_iload 3 52)) (ze_iload rfl)
  unfold zSv2
  rw [hs]
  by_cases hz : (A0 >>> (8 * (k % 8))) % 128 = 0
  · rw [if_pos hz]
    rw [hz] at b
    replace b := zz_fw b T (rfl : zz_ent zP_88 52 = (0, za_if_ne 59 55)) (ze_if_ne_f (by decide))
    replace b := zz_fw b T (rfl : zz_ent zP_88 55 = (0, za_const (.int (Int32.ofNat 4294967295)) 56)) (ze_const)
    replace b := zz_fw b T (rfl : zz_ent zP_88 56 = (0, za_goto 60)) (ze_goto)
    exact zz_M_B (yn := zYN) (cn := zCN) (ml := zMQ) (rt := zRT) (y := 88) (as := [.ref 171, .int (Int32.ofNat n), .int (Int32.ofNat k)]) rfl rfl rfl rfl rfl (by decide +kernel) (zz_lb rfl) (zz_lb rfl) (zz_end_i (zr_88.2.1 60 rfl).1) b
  · rw [if_neg hz]
    replace b := zz_fw b T (rfl : zz_ent zP_88 52 = (0, za_if_ne 59 55)) (ze_if_ne_t (zSh_j _ h128 hz))
    replace b := zz_fw b T (rfl : zz_ent zP_88 59 = (0, za_iload 3 60)) (ze_iload rfl)
    exact zz_M_B (yn := zYN) (cn := zCN) (ml := zMQ) (rt := zRT) (y := 88) (as := [.ref 171, .int (Int32.ofNat n), .int (Int32.ofNat k)]) rfl rfl rfl rfl rfl (by decide +kernel) (zz_lb rfl) (zz_lb rfl) (zz_end_i (zr_88.2.1 60 rfl).1) b
theorem zSh_J {w v : zz_W} (hI : zk_I 64 zHT w) (hJ : zk_J 64 zHT ([(171, 222), (319, 999)], []) (w, []) v) : zz_g v 173 = zz_g w 173 ∧ zz_g v 174 = zz_g w 174 ∧ zz_g v 175 = zz_g w 175 := by
  have e : ∀ i, (zk_h zHT i).1 < 3 → i ≠ 319 → i < 329 → zz_g v i = zz_g w i := fun i h3 hi _ => by
    obtain ⟨k1, k2, -⟩ := hI.2.2.2 i (by omega)
    have h9 : ∀ n, (i, n) ∉ ([(171, 222), (319, 999)] : List (Nat × Nat)) ∨ i = 171 := fun n => by
      by_cases h1 : i = 171
      · exact Or.inr h1
      · refine Or.inl (fun hm => ?_)
        rcases List.mem_cons.mp hm with e | hm
        · exact h1 (congrArg Prod.fst e)
        · exact hi (congrArg Prod.fst (List.mem_singleton.mp hm))
    have h171 : i ≠ 171 := fun q => by rw [q] at h3; exact absurd h3 (by decide +kernel)
    have h9 : ∀ n, (i, n) ∉ ([(171, 222), (319, 999)] : List (Nat × Nat)) := fun n => (h9 n).resolve_right h171
    exact (hJ.2.1.2 i (h9 999) k1 (by
      show (zz_g w i).1 ≠ 3
      omega)).1 (h9 998)
  exact ⟨e 173 (by decide +kernel) (by decide) (by decide), e 174 (by decide +kernel) (by decide) (by decide), e 175 (by decide +kernel) (by decide) (by decide)⟩
theorem zSh_sg {w v : zz_W} (h1 : zz_g v 173 = zz_g w 173) (h2 : zz_g v 174 = zz_g w 174) (n k : Nat) : zn_sg v n k = zn_sg w n k := by
  unfold zn_sg
  by_cases h : k < 8
  · rw [if_pos h, h1]
  · rw [if_neg h, h2]
def zShL (n k : Nat) : List (Nat × Value) := [(2, .int (Int32.ofNat k)), (0, .ref 171), (1, .int (Int32.ofNat n))]
theorem zSh_sub : zk_sub ([(171, 222), (319, 999)], []) ([(171, 222), (319, 999)], []) [] [] := ⟨fun q hq _ => hq, fun i hi => Or.inl (by
  rcases List.mem_cons.mp hi with e | hi
  · cases e
  · cases List.mem_singleton.mp hi)⟩
theorem zSh_k1 : ∀ k, k < 16 → Int32.ofNat k + Int32.ofNat 1 = Int32.ofNat (k + 1) := by decide
theorem zI_ic171T {w : zz_W} (h : zk_I 64 zHT w) : zz_ic w 171 0 = true := by
  obtain ⟨h1, k1, k2, -⟩ := h.2.2.2 171 (by show (3 : Nat) ≠ 9; decide)
  have k1 : (zz_g w 171).1 = 3 := k1
  have k2 : (zz_g w 171).2.1 = 0 := k2
  unfold zz_ic
  rw [k1, k2, Nat.blt_eq.mpr h1]
  rfl
theorem zSh_go {l : Launch} {D : va_G} {cy : Nat → ClassId} {z0 : Nat} {sp : Nat → Nat} {G : State → Prop} (hG : zz_GF z0 G) (hP : ∀ U, G U → zz_GD zS zS2 zLg z0 sp U) {d n K : Nat} {li : Int} (hn : n < 125) (hK : K ≤ 10) (l0 : 0 ≤ li) (l1 : li ≤ 54) {w : zz_W} (hI : zk_I 64 zHT w) (hz : zn_sg w n K = 0) (hnz : ∀ j, j < K → zn_sg w n j ≠ 0) : ∀ (g k : Nat) (v : zz_W), k + g = K → zk_J 64 zHT ([(171, 222), (319, 999)], []) (w, []) v → (Int32.ofNat (zk_fd v (171, 222))).toInt = li + (k : Int) → ∃ v', zz_B l zTs D zcl zFK cy z0 sp (zTys cy) G "ToolMillModel" "showName" 3 prog_14_method_231_code (d + 2) (2, zShL n k, [], v) (27, zShL n K, [], v') ∧ zk_J 64 zHT ([(171, 222), (319, 999)], []) (w, []) v' ∧ (Int32.ofNat (zk_fd v' (171, 222))).toInt = li + (K : Int) := by
  have T := zt_102 (l := l) (D := D) (cy := cy) (z0 := z0) (sp := sp) (G := G) (d := d + 2) zz_k0_KS hG hP
  have TK := fun (K : zz_K) (h : zz_KS l D zcl zFK cy z0 sp (zTys cy) G zYN (fun y => Cond.code (zYN y) (zCN y) (zMQ y) (zRT y) :: zTs) (d + 2) K) => zt_102 h hG hP
  intro g
  induction g with
  | zero =>
    intro k v hk hJ hf
    have e : k = K := by omega
    subst e
    refine ⟨v, ?_, hJ, hf⟩
    obtain ⟨g1, g2, -⟩ := zSh_J hI hJ
    have hM := zM88 (d := d) (l := l) (D := D) (cy := cy) (sp := sp) (n := n) (k := k) hG hP hn (by omega) hJ.1
    rw [show zSv2 v n k = Int32.ofNat 4294967295 from by unfold zSv2; rw [zSh_sg g1 g2, if_pos hz]] at hM
    have b := zz_B_rf (l := l) (Ts := zTs) (D := D) (cl := zcl) (fk := zFK) (cy := cy) (z0 := z0) (sp := sp) (tys := zTys cy) (G := G) (own := "ToolMillModel") (mn := "showName") (nL := 3) (cc := prog_14_method_231_code) (d := d + 2) ((2, zShL n k, [], v) : zz_F)
    replace b := zz_fw b T (rfl : zz_ent zP_102 2 = (0, za_aload 0 3)) (ze_aload rfl)
    replace b := zz_fw b T (rfl : zz_ent zP_102 3 = (0, za_iload 1 4)) (ze_iload rfl)
    replace b := zz_fw b T (rfl : zz_ent zP_102 4 = (0, za_iload 2 5)) (ze_iload rfl)
    replace b := zz_fVi b TK (rfl : zz_ent zP_102 5 = (0, za_callV 0 88 2 8)) hM rfl rfl (zI_ic171T hJ.1) (zz_lb rfl)
    exact zz_fw b T (rfl : zz_ent zP_102 8 = (0, za_if_le 27 11)) (ze_if_le_t (by decide))
  | succ g ih =>
    intro k v hk hJ hf
    obtain ⟨g1, g2, -⟩ := zSh_J hI hJ
    have hk0 := hnz k (by omega)
    have h128 : zn_sg w n k < 128 := Nat.mod_lt _ (by decide)
    have hM := zM88 (d := d) (l := l) (D := D) (cy := cy) (sp := sp) (n := n) (k := k) hG hP hn (by omega) hJ.1
    rw [show zSv2 v n k = Int32.ofNat (zn_sg w n k) from by unfold zSv2; rw [zSh_sg g1 g2, if_neg hk0]] at hM
    have hA : zk_G2 zPT (zk_I 64 zHT) (fun j => if j = 0 then (Int32.ofNat (zn_sg w n k)).toInt else li + (k : Int)) zQ_103.1 (0, [], [.ref 171, .int (Int32.ofNat (zn_sg w n k))], v) := by
      refine ⟨⟨fun _ h => absurd h List.not_mem_nil, ⟨⟨fun e => (by cases e), fun e => (by cases e), fun _ => rfl, fun e => (by cases e)⟩, ⟨fun _ => ⟨_, rfl, ?_⟩, fun e => (by cases e), fun e => (by cases e), fun e => (by cases e)⟩, trivial⟩, List.forall_mem_cons.mpr ⟨⟨fun _ => ?_, fun e => (by cases e), fun e => (by cases e)⟩, fun _ h => absurd h List.not_mem_nil⟩, fun j q hq => ?_, fun _ h => absurd h List.not_mem_nil, hJ.1⟩, fun _ h => absurd h List.not_mem_nil, fun _ h => absurd h List.not_mem_nil⟩
      · exact (zl_sym_ev (fun j => if j = 0 then (Int32.ofNat (zn_sg w n k)).toInt else li + (k : Int)) 0).symm
      · exact hf.trans (zl_sym_ev (fun j => if j = 0 then (Int32.ofNat (zn_sg w n k)).toInt else li + (k : Int)) 1).symm
      · match j, hq with
        | 0, hq =>
          cases hq
          have h1 := Int32.le_toInt (Int32.ofNat (zn_sg w n k))
          have h2 := Int32.toInt_lt (Int32.ofNat (zn_sg w n k))
          exact ⟨h1, by show (Int32.ofNat (zn_sg w n k)).toInt ≤ 2147483647; omega⟩
        | 1, hq =>
          cases hq
          exact ⟨by show (0 : Int) ≤ li + (k : Int); omega, by show li + (k : Int) ≤ 63; omega⟩
        | _ + 2, hq => cases hq
    obtain ⟨rv, v2, s2, Q, q1, q2, q3, q4⟩ := zCo2_103 (l := l) (D := D) (cy := cy) (sp := sp) hG hP (d + 2) _ v _ (by rw [zl_dep_ok (by decide +kernel)]; show (1 : Int) ≤ _; omega) hA
    have e := List.mem_singleton.mp q1
    subst e
    have e2 := zG2_t0 q3 rfl
    subst e2
    have hJ2 : zk_J 64 zHT ([(171, 222), (319, 999)], []) (w, []) v2 := zk_J_tr hJ q3.1.2.2.2.2.2 zSh_sub
    have hf2 : (Int32.ofNat (zk_fd v2 (171, 222))).toInt = li + ((k + 1 : Nat) : Int) := by
      have h1 := (q3.1.2.2.1 _ List.mem_cons_self).1 rfl
      have h2 : zl_ev s2 ((1, 0), [(1, 1, 0)]) = 1 + s2 1 := by
        show zl_ev s2 (zl_add (zl_con 1) (zl_sym 1)) = _
        rw [zl_add_ev, zl_con_ev, zl_sym_ev]
      have h3 : s2 1 = li + (k : Int) := q4 1 (by decide +kernel)
      have h4 : (Int32.ofNat (zk_fd v2 (171, 222))).toInt = zl_ev s2 ((1, 0), [(1, 1, 0)]) := h1
      rw [h4, h2, h3]
      omega
    have b := zz_B_rf (l := l) (Ts := zTs) (D := D) (cl := zcl) (fk := zFK) (cy := cy) (z0 := z0) (sp := sp) (tys := zTys cy) (G := G) (own := "ToolMillModel") (mn := "showName") (nL := 3) (cc := prog_14_method_231_code) (d := d + 2) ((2, zShL n k, [], v) : zz_F)
    replace b := zz_fw b T (rfl : zz_ent zP_102 2 = (0, za_aload 0 3)) (ze_aload rfl)
    replace b := zz_fw b T (rfl : zz_ent zP_102 3 = (0, za_iload 1 4)) (ze_iload rfl)
    replace b := zz_fw b T (rfl : zz_ent zP_102 4 = (0, za_iload 2 5)) (ze_iload rfl)
    replace b := zz_fVi b TK (rfl : zz_ent zP_102 5 = (0, za_callV 0 88 2 8)) hM rfl rfl (zI_ic171T hJ.1) (zz_lb rfl)
    replace b := zz_fw b T (rfl : zz_ent zP_102 8 = (0, za_if_le 27 11)) (ze_if_le_f (zSh_h _ h128 hk0))
    replace b := zz_fw b T (rfl : zz_ent zP_102 11 = (0, za_aload 0 12)) (ze_aload rfl)
    replace b := zz_fw b T (rfl : zz_ent zP_102 12 = (0, za_aload 0 13)) (ze_aload rfl)
    replace b := zz_fw b T (rfl : zz_ent zP_102 13 = (0, za_iload 1 14)) (ze_iload rfl)
    replace b := zz_fw b T (rfl : zz_ent zP_102 14 = (0, za_iload 2 15)) (ze_iload rfl)
    replace b := zz_fVi b TK (rfl : zz_ent zP_102 15 = (0, za_callV 0 88 2 18)) hM rfl rfl (zI_ic171T hJ.1) (zz_lb rfl)
    replace b := zz_fVv b TK (rfl : zz_ent zP_102 18 = (0, za_callV 0 103 1 21)) q2 rfl rfl (zI_ic171T hJ.1) (zz_lb rfl)
    replace b := zz_fw b T (rfl : zz_ent zP_102 21 = (0, za_iinc 2 (Int32.ofNat 1) 24)) (ze_iinc (lv' := [(0, _), (1, _)]) rfl (zSh_k1 k (by omega)) rfl)
    replace b := zz_fw b T (rfl : zz_ent zP_102 24 = (0, za_goto 2)) (ze_goto)
    obtain ⟨v3, b3, j3, f3⟩ := ih (k + 1) v2 (by omega) hJ2 hf2
    exact ⟨v3, zz_B_tr b b3, j3, f3⟩
/-- the least one -/
theorem zSh_min {P : Nat → Prop} : ∀ k, P k → ∃ j, j ≤ k ∧ P j ∧ ∀ i, i < j → ¬ P i := by
  intro k
  induction k using Nat.strongRecOn with
  | ind k ih =>
    intro h
    by_cases h2 : ∃ i, i < k ∧ P i
    · obtain ⟨i, h3, h4⟩ := h2
      obtain ⟨j, a, b, c⟩ := ih i h3 h4
      exact ⟨j, by omega, b, c⟩
    · exact ⟨k, Nat.le_refl k, h, fun i hi hp => h2 ⟨i, hi, hp⟩⟩
theorem zW_ok {l : Launch} {D : va_G} {cy : Nat → ClassId} {z0 : Nat} {sp : Nat → Nat} {G : State → Prop} (hG : zz_GF z0 G) (hP : ∀ U, G U → zz_GD zS zS2 zLg z0 sp U) : zW l D cy z0 sp G := by
  refine List.forall_mem_cons.mpr ⟨?_, fun _ h => absurd h List.not_mem_nil⟩
  intro d as w s hd hg
  rw [zl_dep_ok (by decide +kernel)] at hd
  have hd : (6 : Int) ≤ (d : Int) := hd
  obtain ⟨⟨-, g2, g3, g4, -, g6⟩, -, gk⟩ := hg
  have hI : zk_I 64 zHT w := g6
  have g2 : zk_st s [(2, 171, ((0, 0), [])), (0, 0, ((0, 0), [(0, 1, 0)]))] as := g2
  obtain ⟨x, hx, hxs⟩ : ∃ x : Int32, as = [.ref 171, .int x] ∧ x.toInt = s 0 := by
    match as, g2 with
    | [v0, v1], ⟨a1, a2, _⟩ =>
      obtain ⟨x, e1, e2⟩ := a2.1 rfl
      have e3 : v0 = .ref 171 := a1.2.2.1 rfl
      exact ⟨x, by rw [e1, e3], e2.trans (zl_sym_ev s 0)⟩
    | [], h => exact h.elim
    | [_], ⟨_, h⟩ => exact h.elim
    | _ :: _ :: _ :: _, ⟨_, _, h⟩ => exact h.elim
  subst hx
  have b0 : (8 : Int) ≤ s 0 ∧ s 0 ≤ 124 := g4 0 (8, 124) rfl
  have b1 : (0 : Int) ≤ s 1 ∧ s 1 ≤ 54 := g4 1 (0, 54) rfl
  obtain ⟨n, hn31, rfl⟩ := zl_i32 x (fun q => by
    have := Int32.lt_iff_toInt_lt.mp q
    have e0 : (0 : Int32).toInt = 0 := rfl
    omega)
  rw [Int32.toInt_ofNat_of_lt hn31] at hxs
  have hn : n < 125 := by omega
  have hf : (Int32.ofNat (zk_fd w (171, 222))).toInt = s 1 := ((g3 _ List.mem_cons_self).1 rfl).trans (zl_sym_ev s 1)
  have h202 : ∀ n, n < 125 → ∃ k, k ≤ 10 ∧ zn_sg w n k = 0 := gk 202 List.mem_cons_self
  obtain ⟨k0, hk0, hz0⟩ := h202 n hn
  obtain ⟨K, hK, hz, hnz⟩ := zSh_min (P := fun k => zn_sg w n k = 0) k0 hz0
  obtain ⟨d, rfl⟩ : ∃ e, d = e + 3 := ⟨d - 3, by omega⟩
  have hJ0 : zk_J 64 zHT ([(171, 222), (319, 999)], []) (w, []) w := ⟨hI, ⟨fun _ _ _ _ _ _ => rfl, fun _ _ _ _ => ⟨fun _ => rfl, fun _ _ _ => rfl⟩⟩, Nat.le_refl _, ⟨rfl, rfl⟩, fun _ _ => rfl⟩
  obtain ⟨v, b2, hJ, hfv⟩ := zSh_go (l := l) (D := D) (cy := cy) (sp := sp) (d := d) (n := n) (K := K) hG hP hn (by omega) b1.1 b1.2 hI hz hnz K 0 w (by omega) hJ0 (by rw [hf]; omega)
  have T := zt_102 (l := l) (D := D) (cy := cy) (z0 := z0) (sp := sp) (G := G) (d := d + 2) zz_k0_KS hG hP
  have b := zz_B_rf (l := l) (Ts := zTs) (D := D) (cl := zcl) (fk := zFK) (cy := cy) (z0 := z0) (sp := sp) (tys := zTys cy) (G := G) (own := "ToolMillModel") (mn := "showName") (nL := 3) (cc := prog_14_method_231_code) (d := d + 2) ((0, [(0, .ref 171), (1, .int (Int32.ofNat n))], [], w) : zz_F)
  replace b := zz_fw b T (rfl : zz_ent zP_102 0 = (0, za_const (.int (Int32.ofNat 0)) 1)) (ze_const)
  replace b := zz_fw b T (rfl : zz_ent zP_102 1 = (0, za_istore 2 2)) (ze_istore (lv' := [(0, _), (1, _)]) rfl)
  replace b := zz_B_tr b b2
  have hM := zz_M_B (yn := zYN) (cn := zCN) (ml := zMQ) (rt := zRT) (y := 102) (as := [.ref 171, .int (Int32.ofNat n)]) rfl rfl rfl rfl rfl (by decide +kernel) (zz_lb rfl) (zz_lb rfl) (zz_end_v (zr_102.1 27 rfl).1) b
  obtain ⟨e3, e4, e5⟩ := zSh_J hI hJ
  refine ⟨[], v, fun j => if j = 2 then s 1 + (K : Int) else s j, _, List.mem_cons_self, hM, ⟨⟨fun _ h => absurd h List.not_mem_nil, trivial, List.forall_mem_cons.mpr ⟨⟨fun _ => ?_, fun e => (by cases e), fun e => (by cases e)⟩, fun _ h => absurd h List.not_mem_nil⟩, fun j q hq => ?_, List.forall_mem_cons.mpr ⟨?_, List.forall_mem_cons.mpr ⟨?_, fun _ h => absurd h List.not_mem_nil⟩⟩, hJ⟩, fun _ h => absurd h List.not_mem_nil, List.forall_mem_cons.mpr ⟨?_, fun _ h => absurd h List.not_mem_nil⟩⟩, fun j hj => ?_⟩
  · exact hfv.trans (zl_sym_ev (fun j => if j = 2 then s 1 + (K : Int) else s j) 2).symm
  · match j, hq with
    | 0, hq => cases hq; exact b0
    | 1, hq => cases hq; exact b1
    | 2, hq => cases hq; exact ⟨by show (0 : Int) ≤ s 1 + (K : Int); omega, by show s 1 + (K : Int) ≤ 64; omega⟩
    | _ + 3, hq => cases hq
  · show 0 ≤ zl_ev (fun j => if j = 2 then s 1 + (K : Int) else s j) (zl_sub (zl_sym 2) (zl_sym 1))
    rw [zl_sub_ev, zl_sym_ev, zl_sym_ev]
    show (0 : Int) ≤ s 1 + (K : Int) - s 1
    omega
  · show 0 ≤ zl_ev (fun j => if j = 2 then s 1 + (K : Int) else s j) (zl_sub (zl_add (zl_con 10) (zl_sym 1)) (zl_sym 2))
    rw [zl_sub_ev, zl_add_ev, zl_con_ev, zl_sym_ev, zl_sym_ev]
    show (0 : Int) ≤ 10 + s 1 - (s 1 + (K : Int))
    omega
  · intro n' hn'
    obtain ⟨k', h1, h2⟩ := h202 n' hn'
    exact ⟨k', h1, (zSh_sg e3 e4 n' k').trans h2⟩
  · show (if j = 2 then s 1 + (K : Int) else s j) = s j
    have hj : j < 2 := hj
    rw [if_neg (by omega)]
end
section
/-! THE CLAIM OUT OF ONE WALK OF THE LAW'S BODY. Your part is whole_start (and what it stands on); all else here is the same for every law, but numbers. -/
def R_law : String := "ToolMillLaw"
def lw_P (b : Addr) (xs : List Int32) (args : Array Value) (s : State) : Prop := args = #[.ref b] ∧ s.IntsAt b xs ∧ xs.length ≤ 2048 ∧ (Jvm.Cond.and given_1 narrow_1).before args s = true
def lw_Q (_ : Array Value) (s : State) (o : Outcome) (t : State) : Prop := o = .returned (some (.int 1)) ∧ Framed s o t [] 601024 7293034
def lw_Z (below : List Frame) (a : Array Value) (s : State) : State → Prop := fun t => ∃ o, t.status = .running ∧ Ended t below o ∧ lw_Q a s o t
/-- the law's own end, with 1 on the stack, nothing written that was there before, its room as the claim has it -/
theorem lw_ret {p : Program} {l : Launch} {e : Env} {s : State} {m : MethodId} {below : List Frame} {meth : Method} {c : Code} {b : Nat} (hx : p.tables.exec = Jvm.exec) (hb : c.code = code) (hr : meth.sig.returnType = ret) (hlocks : meth.locks = false) {pc : Nat} {H : Heap} {ls : Array Slot} (hdg : decode code pc = .ok (.ireturn, 1)) : W p l e room_1 s m #[Value.ref b] below meth c H [] 601024 7293034 (lw_Z below #[Value.ref b] s) (F0 m pc ls [.int 1]) := by
  intro T hT X
  obtain ⟨fs, hret, hrun, hended, hW, hframe⟩ := X.leave (v := some (.int 1)) (hlocks := hlocks) (fun h => by rw [hr] at h; cases h)
  have hmeth' : T.vm.method? m = some meth := X.method'
  refine ⟨T.setFrames fs, ?_, .returned (some (.int 1)), hrun, hended, rfl, ⟨_, rfl⟩, hW, hframe⟩
  jvm_step X.here [X.here.top, hx, hb, hdg, hmeth', hr, ret, narrow_b1]
  (try refine ⟨rfl, ?_⟩); (try refine ⟨rfl, ?_⟩)
  first | (intro acts; rw [hret _ acts rfl rfl rfl]) | rw [hret _ _ rfl rfl rfl]
  exact Steps.refl _
/-- what holds at the law's entry: the machine, the code, the tables' words (any of lw_tbl by 'hts w (by decide +kernel)'), the script of L ints xs at the cell b, what the Statement gives of the start (any of its parts by flat_of_before) -/
def lw_At (p : Program) (s : State) (m : MethodId) (meth : Method) (c : Code) (b L : Nat) (xs : Nat → Int32) : Prop :=
  p.tables.exec = Jvm.exec ∧ c.code = code ∧ meth.sig.returnType = ret ∧ c.maxLocals = 7 ∧ s.vm.findClass R_law = some m.cls ∧ (∀ w ∈ lw_tbl, w.before #[Value.ref b] s = true) ∧ va_X b L xs s s.heap ∧ b < s.heap.size ∧ meth.locks = false ∧ (Jvm.Cond.and given_1 narrow_1).before #[Value.ref b] s = true
end
