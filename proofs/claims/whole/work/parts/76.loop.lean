/-! the law's loop: its test, the script's word -/
def zg_len (L : Nat) (i : Nat) : Option Nat := if i = 1999999 then some L else none
def zg_el (L : Nat) (xs : Nat → Int32) (i j : Nat) : Option Nat := if i = 1999999 ∧ j < L then some (zz_nI (xs j)) else none
theorem zz_r_s {z0 : Nat} {sp : Nat → Nat} : zz_r z0 sp 1999999 = sp 999999 := zz_kr (k := 999999)
theorem zlw_26 {l : Launch} {D : va_G} {cy : Nat → ClassId} {z0 : Nat} {sp : Nat → Nat} {G : State → Prop} {mn : String} {d : Nat} {K : zz_K} {L : Nat} {xs : Nat → Int32} (hKS : zz_KS l D zcl zFK cy z0 sp (zTys cy) G zYN (fun y => Cond.code (zYN y) (zCN y) (zMQ y) (zRT y) :: zTs) d K) (hG : zz_GF z0 G) (hP : ∀ U, G U → zz_GD zS zS2 zLg z0 sp U) (hX : ∀ U, G U → va_T .int (sp 999999) L (fun j => .int (xs j)) (fun q : Nat => z0 ≤ q) U U.heap) : zz_O l zTs D zcl zFK cy z0 sp (zTys cy) G "ToolMillLaw" mn 7 code d K 26 (za_kn (zg_len L) 27) :=
  zo_kn zd_900_26 (fun i v h => by
    unfold zg_len at h
    split at h
    · rename_i e
      cases h
      subst e
      exact ⟨.int, _, fun U hU => by rw [zz_r_s]; exact hX U hU⟩
    · cases h)
theorem zlw_35 {l : Launch} {D : va_G} {cy : Nat → ClassId} {z0 : Nat} {sp : Nat → Nat} {G : State → Prop} {mn : String} {d : Nat} {K : zz_K} {L : Nat} {xs : Nat → Int32} (hKS : zz_KS l D zcl zFK cy z0 sp (zTys cy) G zYN (fun y => Cond.code (zYN y) (zCN y) (zMQ y) (zRT y) :: zTs) d K) (hG : zz_GF z0 G) (hP : ∀ U, G U → zz_GD zS zS2 zLg z0 sp U) (hX : ∀ U, G U → va_T .int (sp 999999) L (fun j => .int (xs j)) (fun q : Nat => z0 ≤ q) U U.heap) (hL : L ≤ 2147483648) : zz_O l zTs D zcl zFK cy z0 sp (zTys cy) G "ToolMillLaw" mn 7 code d K 35 (za_kl (zg_el L xs) 36) :=
  zo_kli zd_900_35 (fun i j v h => by
    unfold zg_el at h
    split at h
    · rename_i e
      cases h
      obtain ⟨e, e2⟩ := e
      subst e
      exact ⟨L, _, fun U hU => by rw [zz_r_s]; exact hX U hU, e2, hL, by rw [zz_nI_of]⟩
    · cases h)
def zLv (i : Int32) : List (Nat × Value) := [(4, .int i), (3, .ref 328), (2, .ref 171), (1, .ref 0), (0, .ref 1999999)]
theorem zLaw_out {l : Launch} {D : va_G} {cy : Nat → ClassId} {z0 : Nat} {sp : Nat → Nat} {G : State → Prop} {mn : String} {d : Nat} {K : zz_K} {L : Nat} {xs : Nat → Int32} (hKS : zz_KS l D zcl zFK cy z0 sp (zTys cy) G zYN (fun y => Cond.code (zYN y) (zCN y) (zMQ y) (zRT y) :: zTs) d K) (hG : zz_GF z0 G) (hP : ∀ U, G U → zz_GD zS zS2 zLg z0 sp U) (hX : ∀ U, G U → va_T .int (sp 999999) L (fun j => .int (xs j)) (fun q : Nat => z0 ≤ q) U U.heap) {i : Int32} {w : zz_W} (hlt : Int32.ofNat L - Int32.ofNat 4 < i) : zz_B l zTs D zcl zFK cy z0 sp (zTys cy) G "ToolMillLaw" mn 7 code d (23, zLv i, [], w) (1494, zLv i, [.int (Int32.ofNat 1)], w) := by
  have b0 : zz_B l zTs D zcl zFK cy z0 sp (zTys cy) G "ToolMillLaw" mn 7 code d (23, zLv i, [], w) (25, zLv i, [.int i], w) := zz_O_B (zlw_23 hKS hG hP) rfl rfl
  have b1 : zz_B l zTs D zcl zFK cy z0 sp (zTys cy) G "ToolMillLaw" mn 7 code d (25, zLv i, [.int i], w) (26, zLv i, [.ref 1999999, .int i], w) := zz_O_B (zlw_25 hKS hG hP) rfl rfl
  have b2 : zz_B l zTs D zcl zFK cy z0 sp (zTys cy) G "ToolMillLaw" mn 7 code d (26, zLv i, [.ref 1999999, .int i], w) (27, zLv i, [.int (Int32.ofNat L), .int i], w) := zz_O_B (zlw_26 hKS hG hP hX) rfl (by show zz_fN L (fun v => some (27, zLv i, Value.int (Int32.ofNat v) :: [Value.int i], w)) = _; rw [zz_fN_eq])
  have b3 : zz_B l zTs D zcl zFK cy z0 sp (zTys cy) G "ToolMillLaw" mn 7 code d (27, zLv i, [.int (Int32.ofNat L), .int i], w) (28, zLv i, [.int (Int32.ofNat 4), .int (Int32.ofNat L), .int i], w) := zz_O_B (zlw_27 hKS hG hP) rfl rfl
  have b4 : zz_B l zTs D zcl zFK cy z0 sp (zTys cy) G "ToolMillLaw" mn 7 code d (28, zLv i, [.int (Int32.ofNat 4), .int (Int32.ofNat L), .int i], w) (29, zLv i, [.int (Int32.ofNat L - Int32.ofNat 4), .int i], w) := zz_O_B (zlw_28 hKS hG hP) rfl (by show zz_fI (Int32.ofNat L - Int32.ofNat 4) (fun z => some (29, zLv i, Value.int z :: [Value.int i], w)) = _; rw [zz_fI_eq])
  have b5 : zz_B l zTs D zcl zFK cy z0 sp (zTys cy) G "ToolMillLaw" mn 7 code d (29, zLv i, [.int (Int32.ofNat L - Int32.ofNat 4), .int i], w) (1493, zLv i, [], w) := zz_O_B (zlw_29 hKS hG hP) rfl (by show (if Int32.ofNat L - Int32.ofNat 4 < i then some ((1493, zLv i, [], w) : zz_F) else some (32, zLv i, [], w)) = _; rw [if_pos hlt])
  have b6 : zz_B l zTs D zcl zFK cy z0 sp (zTys cy) G "ToolMillLaw" mn 7 code d (1493, zLv i, [], w) (1494, zLv i, [.int (Int32.ofNat 1)], w) := zz_O_B (zlw_1493 hKS hG hP) rfl rfl
  exact zz_B_tr b0 (zz_B_tr b1 (zz_B_tr b2 (zz_B_tr b3 (zz_B_tr b4 (zz_B_tr b5 (b6))))))
theorem zLaw_in {l : Launch} {D : va_G} {cy : Nat → ClassId} {z0 : Nat} {sp : Nat → Nat} {G : State → Prop} {mn : String} {d : Nat} {K : zz_K} {L : Nat} {xs : Nat → Int32} (hKS : zz_KS l D zcl zFK cy z0 sp (zTys cy) G zYN (fun y => Cond.code (zYN y) (zCN y) (zMQ y) (zRT y) :: zTs) d K) (hG : zz_GF z0 G) (hP : ∀ U, G U → zz_GD zS zS2 zLg z0 sp U) (hX : ∀ U, G U → va_T .int (sp 999999) L (fun j => .int (xs j)) (fun q : Nat => z0 ≤ q) U U.heap) {i : Int32} {w : zz_W} (hL : L ≤ 2147483648) (hge : ¬ Int32.ofNat L - Int32.ofNat 4 < i) (hj : zz_nI i < L) : zz_B l zTs D zcl zFK cy z0 sp (zTys cy) G "ToolMillLaw" mn 7 code d (23, zLv i, [], w) (39, zLv i, [.int (xs (zz_nI i) &&& Int32.ofNat 31)], w) := by
  have b0 : zz_B l zTs D zcl zFK cy z0 sp (zTys cy) G "ToolMillLaw" mn 7 code d (23, zLv i, [], w) (25, zLv i, [.int i], w) := zz_O_B (zlw_23 hKS hG hP) rfl rfl
  have b1 : zz_B l zTs D zcl zFK cy z0 sp (zTys cy) G "ToolMillLaw" mn 7 code d (25, zLv i, [.int i], w) (26, zLv i, [.ref 1999999, .int i], w) := zz_O_B (zlw_25 hKS hG hP) rfl rfl
  have b2 : zz_B l zTs D zcl zFK cy z0 sp (zTys cy) G "ToolMillLaw" mn 7 code d (26, zLv i, [.ref 1999999, .int i], w) (27, zLv i, [.int (Int32.ofNat L), .int i], w) := zz_O_B (zlw_26 hKS hG hP hX) rfl (by show zz_fN L (fun v => some (27, zLv i, Value.int (Int32.ofNat v) :: [Value.int i], w)) = _; rw [zz_fN_eq])
  have b3 : zz_B l zTs D zcl zFK cy z0 sp (zTys cy) G "ToolMillLaw" mn 7 code d (27, zLv i, [.int (Int32.ofNat L), .int i], w) (28, zLv i, [.int (Int32.ofNat 4), .int (Int32.ofNat L), .int i], w) := zz_O_B (zlw_27 hKS hG hP) rfl rfl
  have b4 : zz_B l zTs D zcl zFK cy z0 sp (zTys cy) G "ToolMillLaw" mn 7 code d (28, zLv i, [.int (Int32.ofNat 4), .int (Int32.ofNat L), .int i], w) (29, zLv i, [.int (Int32.ofNat L - Int32.ofNat 4), .int i], w) := zz_O_B (zlw_28 hKS hG hP) rfl (by show zz_fI (Int32.ofNat L - Int32.ofNat 4) (fun z => some (29, zLv i, Value.int z :: [Value.int i], w)) = _; rw [zz_fI_eq])
  have b5 : zz_B l zTs D zcl zFK cy z0 sp (zTys cy) G "ToolMillLaw" mn 7 code d (29, zLv i, [.int (Int32.ofNat L - Int32.ofNat 4), .int i], w) (32, zLv i, [], w) := zz_O_B (zlw_29 hKS hG hP) rfl (by show (if Int32.ofNat L - Int32.ofNat 4 < i then some ((1493, zLv i, [], w) : zz_F) else some (32, zLv i, [], w)) = _; rw [if_neg hge])
  have b6 : zz_B l zTs D zcl zFK cy z0 sp (zTys cy) G "ToolMillLaw" mn 7 code d (32, zLv i, [], w) (33, zLv i, [.ref 1999999], w) := zz_O_B (zlw_32 hKS hG hP) rfl rfl
  have b7 : zz_B l zTs D zcl zFK cy z0 sp (zTys cy) G "ToolMillLaw" mn 7 code d (33, zLv i, [.ref 1999999], w) (35, zLv i, [.int i, .ref 1999999], w) := zz_O_B (zlw_33 hKS hG hP) rfl rfl
  have b8 : zz_B l zTs D zcl zFK cy z0 sp (zTys cy) G "ToolMillLaw" mn 7 code d (35, zLv i, [.int i, .ref 1999999], w) (36, zLv i, [.int (xs (zz_nI i))], w) := zz_O_B (zlw_35 hKS hG hP hX hL) rfl (by unfold za_kl zg_el; show (match (if (1999999 : Nat) = 1999999 ∧ zz_nI i < L then some (zz_nI (xs (zz_nI i))) else none) with | some v => zz_fN v (fun v => some (36, zLv i, Value.int (Int32.ofNat v) :: [], w)) | none => none) = _; rw [if_pos ⟨rfl, hj⟩]; show zz_fN (zz_nI (xs (zz_nI i))) _ = _; rw [zz_fN_eq, zz_nI_of])
  have b9 : zz_B l zTs D zcl zFK cy z0 sp (zTys cy) G "ToolMillLaw" mn 7 code d (36, zLv i, [.int (xs (zz_nI i))], w) (38, zLv i, [.int (Int32.ofNat 31), .int (xs (zz_nI i))], w) := zz_O_B (zlw_36 hKS hG hP) rfl rfl
  have b10 : zz_B l zTs D zcl zFK cy z0 sp (zTys cy) G "ToolMillLaw" mn 7 code d (38, zLv i, [.int (Int32.ofNat 31), .int (xs (zz_nI i))], w) (39, zLv i, [.int (xs (zz_nI i) &&& Int32.ofNat 31)], w) := zz_O_B (zlw_38 hKS hG hP) rfl (by show zz_fI (xs (zz_nI i) &&& Int32.ofNat 31) (fun z => some (39, zLv i, Value.int z :: [], w)) = _; rw [zz_fI_eq])
  exact zz_B_tr b0 (zz_B_tr b1 (zz_B_tr b2 (zz_B_tr b3 (zz_B_tr b4 (zz_B_tr b5 (zz_B_tr b6 (zz_B_tr b7 (zz_B_tr b8 (zz_B_tr b9 (b10))))))))))
