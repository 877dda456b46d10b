/-! the law's loop: its test, the script's word -/
def zg_len (L : Nat) (i : Nat) : Option Nat := if i = 1999999 then some L else none
def zg_el (L : Nat) (xs : Nat → Int32) (i j : Nat) : Option Nat := if i = 1999999 ∧ j < L then some (zz_nI (xs j)) else none
theorem zz_r_s {z0 : Nat} {sp : Nat → Nat} : zz_r z0 sp 1999999 = sp 999999 := zz_kr (k := 999999)
theorem zlw_26 {l : Launch} {D : va_G} {cy : Nat → ClassId} {z0 : Nat} {sp : Nat → Nat} {G : State → Prop} {mn : String} {d : Nat} {K : zz_K} {L : Nat} {xs : Nat → Int32} (hKS : zz_KS l D zcl zFK cy z0 sp (zTys cy) G zYN (fun y => Cond.code (zYN y) (zCN y) (zMQ y) (zRT y) :: zTs) d K) (hG : zz_GF z0 G) (hP : ∀ U, G U → zz_GD zS zS2 zLg z0 sp U) (hX : ∀ U, G U → va_T .int (sp 999999) L (fun j => .int (xs j)) (fun q : Nat => z0 ≤ q) U U.heap) : zz_O l zTs D zcl zFK cy z0 sp (zTys cy) G "ToolMillLaw" mn 7 code d K 26 (za_kn (zg_len L) 27) :=
  zo_kn zd_900_26 (fun i v h => by
    unfold zg_len at h
    split at h
    · rename_i e
      cases h
      subst e
      exact ⟨.int, _, fun U hU => by rw [zz_r_s]; exact hX U hU⟩
    · cases h)
theorem zlw_35 {l : Launch} {D : va_G} {cy : Nat → ClassId} {z0 : Nat} {sp : Nat → Nat} {G : State → Prop} {mn : String} {d : Nat} {K : zz_K} {L : Nat} {xs : Nat → Int32} (hKS : zz_KS l D zcl zFK cy z0 sp (zTys cy) G zYN (fun y => Cond.code (zYN y) (zCN y) (zMQ y) (zRT y) :: zTs) d K) (hG : zz_GF z0 G) (hP : ∀ U, G U → zz_GD zS zS2 zLg z0 sp U) (hX : ∀ U, G U → va_T .int (sp 999999) L (fun j => .int (xs j)) (fun q : Nat => z0 ≤ q) U U.heap) (hL : L ≤ 2147483648) : zz_O l zTs D zcl zFK cy z0 sp (zTys cy) G "ToolMillLaw" mn 7 code d K 35 (za_kl (zg_el L xs) 36) :=
  zo_kli zd_900_35 (fun i j v h => by
    unfold zg_el at h
    split at h
    · rename_i e
      cases h
      obtain ⟨e, e2⟩ := e
      subst e
      exact ⟨L, _, fun U hU => by rw [zz_r_s]; exact hX U hU, e2, hL, by rw [zz_nI_of]⟩
    · cases h)
theorem zlw_150 {l : Launch} {D : va_G} {cy : Nat → ClassId} {z0 : Nat} {sp : Nat → Nat} {G : State → Prop} {mn : String} {d : Nat} {K : zz_K} {L : Nat} {xs : Nat → Int32} (hKS : zz_KS l D zcl zFK cy z0 sp (zTys cy) G zYN (fun y => Cond.code (zYN y) (zCN y) (zMQ y) (zRT y) :: zTs) d K) (hG : zz_GF z0 G) (hP : ∀ U, G U → zz_GD zS zS2 zLg z0 sp U) (hX : ∀ U, G U → va_T .int (sp 999999) L (fun j => .int (xs j)) (fun q : Nat => z0 ≤ q) U U.heap) (hL : L ≤ 2147483648) : zz_O l zTs D zcl zFK cy z0 sp (zTys cy) G "ToolMillLaw" mn 7 code d K 150 (za_kl (zg_el L xs) 151) :=
  zo_kli zd_900_150 (fun i j v h => by
    unfold zg_el at h
    split at h
    · rename_i e
      cases h
      obtain ⟨e, e2⟩ := e
      subst e
      exact ⟨L, _, fun U hU => by rw [zz_r_s]; exact hX U hU, e2, hL, by rw [zz_nI_of]⟩
    · cases h)
theorem zlw_163 {l : Launch} {D : va_G} {cy : Nat → ClassId} {z0 : Nat} {sp : Nat → Nat} {G : State → Prop} {mn : String} {d : Nat} {K : zz_K} {L : Nat} {xs : Nat → Int32} (hKS : zz_KS l D zcl zFK cy z0 sp (zTys cy) G zYN (fun y => Cond.code (zYN y) (zCN y) (zMQ y) (zRT y) :: zTs) d K) (hG : zz_GF z0 G) (hP : ∀ U, G U → zz_GD zS zS2 zLg z0 sp U) (hX : ∀ U, G U → va_T .int (sp 999999) L (fun j => .int (xs j)) (fun q : Nat => z0 ≤ q) U U.heap) (hL : L ≤ 2147483648) : zz_O l zTs D zcl zFK cy z0 sp (zTys cy) G "ToolMillLaw" mn 7 code d K 163 (za_kl (zg_el L xs) 164) :=
  zo_kli zd_900_163 (fun i j v h => by
    unfold zg_el at h
    split at h
    · rename_i e
      cases h
      obtain ⟨e, e2⟩ := e
      subst e
      exact ⟨L, _, fun U hU => by rw [zz_r_s]; exact hX U hU, e2, hL, by rw [zz_nI_of]⟩
    · cases h)
theorem zlw_206 {l : Launch} {D : va_G} {cy : Nat → ClassId} {z0 : Nat} {sp : Nat → Nat} {G : State → Prop} {mn : String} {d : Nat} {K : zz_K} {L : Nat} {xs : Nat → Int32} (hKS : zz_KS l D zcl zFK cy z0 sp (zTys cy) G zYN (fun y => Cond.code (zYN y) (zCN y) (zMQ y) (zRT y) :: zTs) d K) (hG : zz_GF z0 G) (hP : ∀ U, G U → zz_GD zS zS2 zLg z0 sp U) (hX : ∀ U, G U → va_T .int (sp 999999) L (fun j => .int (xs j)) (fun q : Nat => z0 ≤ q) U U.heap) (hL : L ≤ 2147483648) : zz_O l zTs D zcl zFK cy z0 sp (zTys cy) G "ToolMillLaw" mn 7 code d K 206 (za_kl (zg_el L xs) 207) :=
  zo_kli zd_900_206 (fun i j v h => by
    unfold zg_el at h
    split at h
    · rename_i e
      cases h
      obtain ⟨e, e2⟩ := e
      subst e
      exact ⟨L, _, fun U hU => by rw [zz_r_s]; exact hX U hU, e2, hL, by rw [zz_nI_of]⟩
    · cases h)
theorem zlw_218 {l : Launch} {D : va_G} {cy : Nat → ClassId} {z0 : Nat} {sp : Nat → Nat} {G : State → Prop} {mn : String} {d : Nat} {K : zz_K} {L : Nat} {xs : Nat → Int32} (hKS : zz_KS l D zcl zFK cy z0 sp (zTys cy) G zYN (fun y => Cond.code (zYN y) (zCN y) (zMQ y) (zRT y) :: zTs) d K) (hG : zz_GF z0 G) (hP : ∀ U, G U → zz_GD zS zS2 zLg z0 sp U) (hX : ∀ U, G U → va_T .int (sp 999999) L (fun j => .int (xs j)) (fun q : Nat => z0 ≤ q) U U.heap) (hL : L ≤ 2147483648) : zz_O l zTs D zcl zFK cy z0 sp (zTys cy) G "ToolMillLaw" mn 7 code d K 218 (za_kl (zg_el L xs) 219) :=
  zo_kli zd_900_218 (fun i j v h => by
    unfold zg_el at h
    split at h
    · rename_i e
      cases h
      obtain ⟨e, e2⟩ := e
      subst e
      exact ⟨L, _, fun U hU => by rw [zz_r_s]; exact hX U hU, e2, hL, by rw [zz_nI_of]⟩
    · cases h)
theorem zlw_341 {l : Launch} {D : va_G} {cy : Nat → ClassId} {z0 : Nat} {sp : Nat → Nat} {G : State → Prop} {mn : String} {d : Nat} {K : zz_K} {L : Nat} {xs : Nat → Int32} (hKS : zz_KS l D zcl zFK cy z0 sp (zTys cy) G zYN (fun y => Cond.code (zYN y) (zCN y) (zMQ y) (zRT y) :: zTs) d K) (hG : zz_GF z0 G) (hP : ∀ U, G U → zz_GD zS zS2 zLg z0 sp U) (hX : ∀ U, G U → va_T .int (sp 999999) L (fun j => .int (xs j)) (fun q : Nat => z0 ≤ q) U U.heap) (hL : L ≤ 2147483648) : zz_O l zTs D zcl zFK cy z0 sp (zTys cy) G "ToolMillLaw" mn 7 code d K 341 (za_kl (zg_el L xs) 342) :=
  zo_kli zd_900_341 (fun i j v h => by
    unfold zg_el at h
    split at h
    · rename_i e
      cases h
      obtain ⟨e, e2⟩ := e
      subst e
      exact ⟨L, _, fun U hU => by rw [zz_r_s]; exact hX U hU, e2, hL, by rw [zz_nI_of]⟩
    · cases h)
theorem zlw_354 {l : Launch} {D : va_G} {cy : Nat → ClassId} {z0 : Nat} {sp : Nat → Nat} {G : State → Prop} {mn : String} {d : Nat} {K : zz_K} {L : Nat} {xs : Nat → Int32} (hKS : zz_KS l D zcl zFK cy z0 sp (zTys cy) G zYN (fun y => Cond.code (zYN y) (zCN y) (zMQ y) (zRT y) :: zTs) d K) (hG : zz_GF z0 G) (hP : ∀ U, G U → zz_GD zS zS2 zLg z0 sp U) (hX : ∀ U, G U → va_T .int (sp 999999) L (fun j => .int (xs j)) (fun q : Nat => z0 ≤ q) U U.heap) (hL : L ≤ 2147483648) : zz_O l zTs D zcl zFK cy z0 sp (zTys cy) G "ToolMillLaw" mn 7 code d K 354 (za_kl (zg_el L xs) 355) :=
  zo_kli zd_900_354 (fun i j v h => by
    unfold zg_el at h
    split at h
    · rename_i e
      cases h
      obtain ⟨e, e2⟩ := e
      subst e
      exact ⟨L, _, fun U hU => by rw [zz_r_s]; exact hX U hU, e2, hL, by rw [zz_nI_of]⟩
    · cases h)
theorem zlw_397 {l : Launch} {D : va_G} {cy : Nat → ClassId} {z0 : Nat} {sp : Nat → Nat} {G : State → Prop} {mn : String} {d : Nat} {K : zz_K} {L : Nat} {xs : Nat → Int32} (hKS : zz_KS l D zcl zFK cy z0 sp (zTys cy) G zYN (fun y => Cond.code (zYN y) (zCN y) (zMQ y) (zRT y) :: zTs) d K) (hG : zz_GF z0 G) (hP : ∀ U, G U → zz_GD zS zS2 zLg z0 sp U) (hX : ∀ U, G U → va_T .int (sp 999999) L (fun j => .int (xs j)) (fun q : Nat => z0 ≤ q) U U.heap) (hL : L ≤ 2147483648) : zz_O l zTs D zcl zFK cy z0 sp (zTys cy) G "ToolMillLaw" mn 7 code d K 397 (za_kl (zg_el L xs) 398) :=
  zo_kli zd_900_397 (fun i j v h => by
    unfold zg_el at h
    split at h
    · rename_i e
      cases h
      obtain ⟨e, e2⟩ := e
      subst e
      exact ⟨L, _, fun U hU => by rw [zz_r_s]; exact hX U hU, e2, hL, by rw [zz_nI_of]⟩
    · cases h)
theorem zlw_403 {l : Launch} {D : va_G} {cy : Nat → ClassId} {z0 : Nat} {sp : Nat → Nat} {G : State → Prop} {mn : String} {d : Nat} {K : zz_K} {L : Nat} {xs : Nat → Int32} (hKS : zz_KS l D zcl zFK cy z0 sp (zTys cy) G zYN (fun y => Cond.code (zYN y) (zCN y) (zMQ y) (zRT y) :: zTs) d K) (hG : zz_GF z0 G) (hP : ∀ U, G U → zz_GD zS zS2 zLg z0 sp U) (hX : ∀ U, G U → va_T .int (sp 999999) L (fun j => .int (xs j)) (fun q : Nat => z0 ≤ q) U U.heap) (hL : L ≤ 2147483648) : zz_O l zTs D zcl zFK cy z0 sp (zTys cy) G "ToolMillLaw" mn 7 code d K 403 (za_kl (zg_el L xs) 404) :=
  zo_kli zd_900_403 (fun i j v h => by
    unfold zg_el at h
    split at h
    · rename_i e
      cases h
      obtain ⟨e, e2⟩ := e
      subst e
      exact ⟨L, _, fun U hU => by rw [zz_r_s]; exact hX U hU, e2, hL, by rw [zz_nI_of]⟩
    · cases h)
theorem zlw_416 {l : Launch} {D : va_G} {cy : Nat → ClassId} {z0 : Nat} {sp : Nat → Nat} {G : State → Prop} {mn : String} {d : Nat} {K : zz_K} {L : Nat} {xs : Nat → Int32} (hKS : zz_KS l D zcl zFK cy z0 sp (zTys cy) G zYN (fun y => Cond.code (zYN y) (zCN y) (zMQ y) (zRT y) :: zTs) d K) (hG : zz_GF z0 G) (hP : ∀ U, G U → zz_GD zS zS2 zLg z0 sp U) (hX : ∀ U, G U → va_T .int (sp 999999) L (fun j => .int (xs j)) (fun q : Nat => z0 ≤ q) U U.heap) (hL : L ≤ 2147483648) : zz_O l zTs D zcl zFK cy z0 sp (zTys cy) G "ToolMillLaw" mn 7 code d K 416 (za_kl (zg_el L xs) 417) :=
  zo_kli zd_900_416 (fun i j v h => by
    unfold zg_el at h
    split at h
    · rename_i e
      cases h
      obtain ⟨e, e2⟩ := e
      subst e
      exact ⟨L, _, fun U hU => by rw [zz_r_s]; exact hX U hU, e2, hL, by rw [zz_nI_of]⟩
    · cases h)
theorem zlw_422 {l : Launch} {D : va_G} {cy : Nat → ClassId} {z0 : Nat} {sp : Nat → Nat} {G : State → Prop} {mn : String} {d : Nat} {K : zz_K} {L : Nat} {xs : Nat → Int32} (hKS : zz_KS l D zcl zFK cy z0 sp (zTys cy) G zYN (fun y => Cond.code (zYN y) (zCN y) (zMQ y) (zRT y) :: zTs) d K) (hG : zz_GF z0 G) (hP : ∀ U, G U → zz_GD zS zS2 zLg z0 sp U) (hX : ∀ U, G U → va_T .int (sp 999999) L (fun j => .int (xs j)) (fun q : Nat => z0 ≤ q) U U.heap) (hL : L ≤ 2147483648) : zz_O l zTs D zcl zFK cy z0 sp (zTys cy) G "ToolMillLaw" mn 7 code d K 422 (za_kl (zg_el L xs) 423) :=
  zo_kli zd_900_422 (fun i j v h => by
    unfold zg_el at h
    split at h
    · rename_i e
      cases h
      obtain ⟨e, e2⟩ := e
      subst e
      exact ⟨L, _, fun U hU => by rw [zz_r_s]; exact hX U hU, e2, hL, by rw [zz_nI_of]⟩
    · cases h)
theorem zlw_465 {l : Launch} {D : va_G} {cy : Nat → ClassId} {z0 : Nat} {sp : Nat → Nat} {G : State → Prop} {mn : String} {d : Nat} {K : zz_K} {L : Nat} {xs : Nat → Int32} (hKS : zz_KS l D zcl zFK cy z0 sp (zTys cy) G zYN (fun y => Cond.code (zYN y) (zCN y) (zMQ y) (zRT y) :: zTs) d K) (hG : zz_GF z0 G) (hP : ∀ U, G U → zz_GD zS zS2 zLg z0 sp U) (hX : ∀ U, G U → va_T .int (sp 999999) L (fun j => .int (xs j)) (fun q : Nat => z0 ≤ q) U U.heap) (hL : L ≤ 2147483648) : zz_O l zTs D zcl zFK cy z0 sp (zTys cy) G "ToolMillLaw" mn 7 code d K 465 (za_kl (zg_el L xs) 466) :=
  zo_kli zd_900_465 (fun i j v h => by
    unfold zg_el at h
    split at h
    · rename_i e
      cases h
      obtain ⟨e, e2⟩ := e
      subst e
      exact ⟨L, _, fun U hU => by rw [zz_r_s]; exact hX U hU, e2, hL, by rw [zz_nI_of]⟩
    · cases h)
theorem zlw_471 {l : Launch} {D : va_G} {cy : Nat → ClassId} {z0 : Nat} {sp : Nat → Nat} {G : State → Prop} {mn : String} {d : Nat} {K : zz_K} {L : Nat} {xs : Nat → Int32} (hKS : zz_KS l D zcl zFK cy z0 sp (zTys cy) G zYN (fun y => Cond.code (zYN y) (zCN y) (zMQ y) (zRT y) :: zTs) d K) (hG : zz_GF z0 G) (hP : ∀ U, G U → zz_GD zS zS2 zLg z0 sp U) (hX : ∀ U, G U → va_T .int (sp 999999) L (fun j => .int (xs j)) (fun q : Nat => z0 ≤ q) U U.heap) (hL : L ≤ 2147483648) : zz_O l zTs D zcl zFK cy z0 sp (zTys cy) G "ToolMillLaw" mn 7 code d K 471 (za_kl (zg_el L xs) 472) :=
  zo_kli zd_900_471 (fun i j v h => by
    unfold zg_el at h
    split at h
    · rename_i e
      cases h
      obtain ⟨e, e2⟩ := e
      subst e
      exact ⟨L, _, fun U hU => by rw [zz_r_s]; exact hX U hU, e2, hL, by rw [zz_nI_of]⟩
    · cases h)
theorem zlw_484 {l : Launch} {D : va_G} {cy : Nat → ClassId} {z0 : Nat} {sp : Nat → Nat} {G : State → Prop} {mn : String} {d : Nat} {K : zz_K} {L : Nat} {xs : Nat → Int32} (hKS : zz_KS l D zcl zFK cy z0 sp (zTys cy) G zYN (fun y => Cond.code (zYN y) (zCN y) (zMQ y) (zRT y) :: zTs) d K) (hG : zz_GF z0 G) (hP : ∀ U, G U → zz_GD zS zS2 zLg z0 sp U) (hX : ∀ U, G U → va_T .int (sp 999999) L (fun j => .int (xs j)) (fun q : Nat => z0 ≤ q) U U.heap) (hL : L ≤ 2147483648) : zz_O l zTs D zcl zFK cy z0 sp (zTys cy) G "ToolMillLaw" mn 7 code d K 484 (za_kl (zg_el L xs) 485) :=
  zo_kli zd_900_484 (fun i j v h => by
    unfold zg_el at h
    split at h
    · rename_i e
      cases h
      obtain ⟨e, e2⟩ := e
      subst e
      exact ⟨L, _, fun U hU => by rw [zz_r_s]; exact hX U hU, e2, hL, by rw [zz_nI_of]⟩
    · cases h)
theorem zlw_490 {l : Launch} {D : va_G} {cy : Nat → ClassId} {z0 : Nat} {sp : Nat → Nat} {G : State → Prop} {mn : String} {d : Nat} {K : zz_K} {L : Nat} {xs : Nat → Int32} (hKS : zz_KS l D zcl zFK cy z0 sp (zTys cy) G zYN (fun y => Cond.code (zYN y) (zCN y) (zMQ y) (zRT y) :: zTs) d K) (hG : zz_GF z0 G) (hP : ∀ U, G U → zz_GD zS zS2 zLg z0 sp U) (hX : ∀ U, G U → va_T .int (sp 999999) L (fun j => .int (xs j)) (fun q : Nat => z0 ≤ q) U U.heap) (hL : L ≤ 2147483648) : zz_O l zTs D zcl zFK cy z0 sp (zTys cy) G "ToolMillLaw" mn 7 code d K 490 (za_kl (zg_el L xs) 491) :=
  zo_kli zd_900_490 (fun i j v h => by
    unfold zg_el at h
    split at h
    · rename_i e
      cases h
      obtain ⟨e, e2⟩ := e
      subst e
      exact ⟨L, _, fun U hU => by rw [zz_r_s]; exact hX U hU, e2, hL, by rw [zz_nI_of]⟩
    · cases h)
theorem zlw_533 {l : Launch} {D : va_G} {cy : Nat → ClassId} {z0 : Nat} {sp : Nat → Nat} {G : State → Prop} {mn : String} {d : Nat} {K : zz_K} {L : Nat} {xs : Nat → Int32} (hKS : zz_KS l D zcl zFK cy z0 sp (zTys cy) G zYN (fun y => Cond.code (zYN y) (zCN y) (zMQ y) (zRT y) :: zTs) d K) (hG : zz_GF z0 G) (hP : ∀ U, G U → zz_GD zS zS2 zLg z0 sp U) (hX : ∀ U, G U → va_T .int (sp 999999) L (fun j => .int (xs j)) (fun q : Nat => z0 ≤ q) U U.heap) (hL : L ≤ 2147483648) : zz_O l zTs D zcl zFK cy z0 sp (zTys cy) G "ToolMillLaw" mn 7 code d K 533 (za_kl (zg_el L xs) 534) :=
  zo_kli zd_900_533 (fun i j v h => by
    unfold zg_el at h
    split at h
    · rename_i e
      cases h
      obtain ⟨e, e2⟩ := e
      subst e
      exact ⟨L, _, fun U hU => by rw [zz_r_s]; exact hX U hU, e2, hL, by rw [zz_nI_of]⟩
    · cases h)
theorem zlw_539 {l : Launch} {D : va_G} {cy : Nat → ClassId} {z0 : Nat} {sp : Nat → Nat} {G : State → Prop} {mn : String} {d : Nat} {K : zz_K} {L : Nat} {xs : Nat → Int32} (hKS : zz_KS l D zcl zFK cy z0 sp (zTys cy) G zYN (fun y => Cond.code (zYN y) (zCN y) (zMQ y) (zRT y) :: zTs) d K) (hG : zz_GF z0 G) (hP : ∀ U, G U → zz_GD zS zS2 zLg z0 sp U) (hX : ∀ U, G U → va_T .int (sp 999999) L (fun j => .int (xs j)) (fun q : Nat => z0 ≤ q) U U.heap) (hL : L ≤ 2147483648) : zz_O l zTs D zcl zFK cy z0 sp (zTys cy) G "ToolMillLaw" mn 7 code d K 539 (za_kl (zg_el L xs) 540) :=
  zo_kli zd_900_539 (fun i j v h => by
    unfold zg_el at h
    split at h
    · rename_i e
      cases h
      obtain ⟨e, e2⟩ := e
      subst e
      exact ⟨L, _, fun U hU => by rw [zz_r_s]; exact hX U hU, e2, hL, by rw [zz_nI_of]⟩
    · cases h)
theorem zlw_545 {l : Launch} {D : va_G} {cy : Nat → ClassId} {z0 : Nat} {sp : Nat → Nat} {G : State → Prop} {mn : String} {d : Nat} {K : zz_K} {L : Nat} {xs : Nat → Int32} (hKS : zz_KS l D zcl zFK cy z0 sp (zTys cy) G zYN (fun y => Cond.code (zYN y) (zCN y) (zMQ y) (zRT y) :: zTs) d K) (hG : zz_GF z0 G) (hP : ∀ U, G U → zz_GD zS zS2 zLg z0 sp U) (hX : ∀ U, G U → va_T .int (sp 999999) L (fun j => .int (xs j)) (fun q : Nat => z0 ≤ q) U U.heap) (hL : L ≤ 2147483648) : zz_O l zTs D zcl zFK cy z0 sp (zTys cy) G "ToolMillLaw" mn 7 code d K 545 (za_kl (zg_el L xs) 546) :=
  zo_kli zd_900_545 (fun i j v h => by
    unfold zg_el at h
    split at h
    · rename_i e
      cases h
      obtain ⟨e, e2⟩ := e
      subst e
      exact ⟨L, _, fun U hU => by rw [zz_r_s]; exact hX U hU, e2, hL, by rw [zz_nI_of]⟩
    · cases h)
theorem zlw_558 {l : Launch} {D : va_G} {cy : Nat → ClassId} {z0 : Nat} {sp : Nat → Nat} {G : State → Prop} {mn : String} {d : Nat} {K : zz_K} {L : Nat} {xs : Nat → Int32} (hKS : zz_KS l D zcl zFK cy z0 sp (zTys cy) G zYN (fun y => Cond.code (zYN y) (zCN y) (zMQ y) (zRT y) :: zTs) d K) (hG : zz_GF z0 G) (hP : ∀ U, G U → zz_GD zS zS2 zLg z0 sp U) (hX : ∀ U, G U → va_T .int (sp 999999) L (fun j => .int (xs j)) (fun q : Nat => z0 ≤ q) U U.heap) (hL : L ≤ 2147483648) : zz_O l zTs D zcl zFK cy z0 sp (zTys cy) G "ToolMillLaw" mn 7 code d K 558 (za_kl (zg_el L xs) 559) :=
  zo_kli zd_900_558 (fun i j v h => by
    unfold zg_el at h
    split at h
    · rename_i e
      cases h
      obtain ⟨e, e2⟩ := e
      subst e
      exact ⟨L, _, fun U hU => by rw [zz_r_s]; exact hX U hU, e2, hL, by rw [zz_nI_of]⟩
    · cases h)
theorem zlw_564 {l : Launch} {D : va_G} {cy : Nat → ClassId} {z0 : Nat} {sp : Nat → Nat} {G : State → Prop} {mn : String} {d : Nat} {K : zz_K} {L : Nat} {xs : Nat → Int32} (hKS : zz_KS l D zcl zFK cy z0 sp (zTys cy) G zYN (fun y => Cond.code (zYN y) (zCN y) (zMQ y) (zRT y) :: zTs) d K) (hG : zz_GF z0 G) (hP : ∀ U, G U → zz_GD zS zS2 zLg z0 sp U) (hX : ∀ U, G U → va_T .int (sp 999999) L (fun j => .int (xs j)) (fun q : Nat => z0 ≤ q) U U.heap) (hL : L ≤ 2147483648) : zz_O l zTs D zcl zFK cy z0 sp (zTys cy) G "ToolMillLaw" mn 7 code d K 564 (za_kl (zg_el L xs) 565) :=
  zo_kli zd_900_564 (fun i j v h => by
    unfold zg_el at h
    split at h
    · rename_i e
      cases h
      obtain ⟨e, e2⟩ := e
      subst e
      exact ⟨L, _, fun U hU => by rw [zz_r_s]; exact hX U hU, e2, hL, by rw [zz_nI_of]⟩
    · cases h)
theorem zlw_570 {l : Launch} {D : va_G} {cy : Nat → ClassId} {z0 : Nat} {sp : Nat → Nat} {G : State → Prop} {mn : String} {d : Nat} {K : zz_K} {L : Nat} {xs : Nat → Int32} (hKS : zz_KS l D zcl zFK cy z0 sp (zTys cy) G zYN (fun y => Cond.code (zYN y) (zCN y) (zMQ y) (zRT y) :: zTs) d K) (hG : zz_GF z0 G) (hP : ∀ U, G U → zz_GD zS zS2 zLg z0 sp U) (hX : ∀ U, G U → va_T .int (sp 999999) L (fun j => .int (xs j)) (fun q : Nat => z0 ≤ q) U U.heap) (hL : L ≤ 2147483648) : zz_O l zTs D zcl zFK cy z0 sp (zTys cy) G "ToolMillLaw" mn 7 code d K 570 (za_kl (zg_el L xs) 571) :=
  zo_kli zd_900_570 (fun i j v h => by
    unfold zg_el at h
    split at h
    · rename_i e
      cases h
      obtain ⟨e, e2⟩ := e
      subst e
      exact ⟨L, _, fun U hU => by rw [zz_r_s]; exact hX U hU, e2, hL, by rw [zz_nI_of]⟩
    · cases h)
theorem zlw_613 {l : Launch} {D : va_G} {cy : Nat → ClassId} {z0 : Nat} {sp : Nat → Nat} {G : State → Prop} {mn : String} {d : Nat} {K : zz_K} {L : Nat} {xs : Nat → Int32} (hKS : zz_KS l D zcl zFK cy z0 sp (zTys cy) G zYN (fun y => Cond.code (zYN y) (zCN y) (zMQ y) (zRT y) :: zTs) d K) (hG : zz_GF z0 G) (hP : ∀ U, G U → zz_GD zS zS2 zLg z0 sp U) (hX : ∀ U, G U → va_T .int (sp 999999) L (fun j => .int (xs j)) (fun q : Nat => z0 ≤ q) U U.heap) (hL : L ≤ 2147483648) : zz_O l zTs D zcl zFK cy z0 sp (zTys cy) G "ToolMillLaw" mn 7 code d K 613 (za_kl (zg_el L xs) 614) :=
  zo_kli zd_900_613 (fun i j v h => by
    unfold zg_el at h
    split at h
    · rename_i e
      cases h
      obtain ⟨e, e2⟩ := e
      subst e
      exact ⟨L, _, fun U hU => by rw [zz_r_s]; exact hX U hU, e2, hL, by rw [zz_nI_of]⟩
    · cases h)
theorem zlw_619 {l : Launch} {D : va_G} {cy : Nat → ClassId} {z0 : Nat} {sp : Nat → Nat} {G : State → Prop} {mn : String} {d : Nat} {K : zz_K} {L : Nat} {xs : Nat → Int32} (hKS : zz_KS l D zcl zFK cy z0 sp (zTys cy) G zYN (fun y => Cond.code (zYN y) (zCN y) (zMQ y) (zRT y) :: zTs) d K) (hG : zz_GF z0 G) (hP : ∀ U, G U → zz_GD zS zS2 zLg z0 sp U) (hX : ∀ U, G U → va_T .int (sp 999999) L (fun j => .int (xs j)) (fun q : Nat => z0 ≤ q) U U.heap) (hL : L ≤ 2147483648) : zz_O l zTs D zcl zFK cy z0 sp (zTys cy) G "ToolMillLaw" mn 7 code d K 619 (za_kl (zg_el L xs) 620) :=
  zo_kli zd_900_619 (fun i j v h => by
    unfold zg_el at h
    split at h
    · rename_i e
      cases h
      obtain ⟨e, e2⟩ := e
      subst e
      exact ⟨L, _, fun U hU => by rw [zz_r_s]; exact hX U hU, e2, hL, by rw [zz_nI_of]⟩
    · cases h)
theorem zlw_625 {l : Launch} {D : va_G} {cy : Nat → ClassId} {z0 : Nat} {sp : Nat → Nat} {G : State → Prop} {mn : String} {d : Nat} {K : zz_K} {L : Nat} {xs : Nat → Int32} (hKS : zz_KS l D zcl zFK cy z0 sp (zTys cy) G zYN (fun y => Cond.code (zYN y) (zCN y) (zMQ y) (zRT y) :: zTs) d K) (hG : zz_GF z0 G) (hP : ∀ U, G U → zz_GD zS zS2 zLg z0 sp U) (hX : ∀ U, G U → va_T .int (sp 999999) L (fun j => .int (xs j)) (fun q : Nat => z0 ≤ q) U U.heap) (hL : L ≤ 2147483648) : zz_O l zTs D zcl zFK cy z0 sp (zTys cy) G "ToolMillLaw" mn 7 code d K 625 (za_kl (zg_el L xs) 626) :=
  zo_kli zd_900_625 (fun i j v h => by
    unfold zg_el at h
    split at h
    · rename_i e
      cases h
      obtain ⟨e, e2⟩ := e
      subst e
      exact ⟨L, _, fun U hU => by rw [zz_r_s]; exact hX U hU, e2, hL, by rw [zz_nI_of]⟩
    · cases h)
theorem zlw_638 {l : Launch} {D : va_G} {cy : Nat → ClassId} {z0 : Nat} {sp : Nat → Nat} {G : State → Prop} {mn : String} {d : Nat} {K : zz_K} {L : Nat} {xs : Nat → Int32} (hKS : zz_KS l D zcl zFK cy z0 sp (zTys cy) G zYN (fun y => Cond.code (zYN y) (zCN y) (zMQ y) (zRT y) :: zTs) d K) (hG : zz_GF z0 G) (hP : ∀ U, G U → zz_GD zS zS2 zLg z0 sp U) (hX : ∀ U, G U → va_T .int (sp 999999) L (fun j => .int (xs j)) (fun q : Nat => z0 ≤ q) U U.heap) (hL : L ≤ 2147483648) : zz_O l zTs D zcl zFK cy z0 sp (zTys cy) G "ToolMillLaw" mn 7 code d K 638 (za_kl (zg_el L xs) 639) :=
  zo_kli zd_900_638 (fun i j v h => by
    unfold zg_el at h
    split at h
    · rename_i e
      cases h
      obtain ⟨e, e2⟩ := e
      subst e
      exact ⟨L, _, fun U hU => by rw [zz_r_s]; exact hX U hU, e2, hL, by rw [zz_nI_of]⟩
    · cases h)
theorem zlw_644 {l : Launch} {D : va_G} {cy : Nat → ClassId} {z0 : Nat} {sp : Nat → Nat} {G : State → Prop} {mn : String} {d : Nat} {K : zz_K} {L : Nat} {xs : Nat → Int32} (hKS : zz_KS l D zcl zFK cy z0 sp (zTys cy) G zYN (fun y => Cond.code (zYN y) (zCN y) (zMQ y) (zRT y) :: zTs) d K) (hG : zz_GF z0 G) (hP : ∀ U, G U → zz_GD zS zS2 zLg z0 sp U) (hX : ∀ U, G U → va_T .int (sp 999999) L (fun j => .int (xs j)) (fun q : Nat => z0 ≤ q) U U.heap) (hL : L ≤ 2147483648) : zz_O l zTs D zcl zFK cy z0 sp (zTys cy) G "ToolMillLaw" mn 7 code d K 644 (za_kl (zg_el L xs) 645) :=
  zo_kli zd_900_644 (fun i j v h => by
    unfold zg_el at h
    split at h
    · rename_i e
      cases h
      obtain ⟨e, e2⟩ := e
      subst e
      exact ⟨L, _, fun U hU => by rw [zz_r_s]; exact hX U hU, e2, hL, by rw [zz_nI_of]⟩
    · cases h)
theorem zlw_650 {l : Launch} {D : va_G} {cy : Nat → ClassId} {z0 : Nat} {sp : Nat → Nat} {G : State → Prop} {mn : String} {d : Nat} {K : zz_K} {L : Nat} {xs : Nat → Int32} (hKS : zz_KS l D zcl zFK cy z0 sp (zTys cy) G zYN (fun y => Cond.code (zYN y) (zCN y) (zMQ y) (zRT y) :: zTs) d K) (hG : zz_GF z0 G) (hP : ∀ U, G U → zz_GD zS zS2 zLg z0 sp U) (hX : ∀ U, G U → va_T .int (sp 999999) L (fun j => .int (xs j)) (fun q : Nat => z0 ≤ q) U U.heap) (hL : L ≤ 2147483648) : zz_O l zTs D zcl zFK cy z0 sp (zTys cy) G "ToolMillLaw" mn 7 code d K 650 (za_kl (zg_el L xs) 651) :=
  zo_kli zd_900_650 (fun i j v h => by
    unfold zg_el at h
    split at h
    · rename_i e
      cases h
      obtain ⟨e, e2⟩ := e
      subst e
      exact ⟨L, _, fun U hU => by rw [zz_r_s]; exact hX U hU, e2, hL, by rw [zz_nI_of]⟩
    · cases h)
theorem zlw_693 {l : Launch} {D : va_G} {cy : Nat → ClassId} {z0 : Nat} {sp : Nat → Nat} {G : State → Prop} {mn : String} {d : Nat} {K : zz_K} {L : Nat} {xs : Nat → Int32} (hKS : zz_KS l D zcl zFK cy z0 sp (zTys cy) G zYN (fun y => Cond.code (zYN y) (zCN y) (zMQ y) (zRT y) :: zTs) d K) (hG : zz_GF z0 G) (hP : ∀ U, G U → zz_GD zS zS2 zLg z0 sp U) (hX : ∀ U, G U → va_T .int (sp 999999) L (fun j => .int (xs j)) (fun q : Nat => z0 ≤ q) U U.heap) (hL : L ≤ 2147483648) : zz_O l zTs D zcl zFK cy z0 sp (zTys cy) G "ToolMillLaw" mn 7 code d K 693 (za_kl (zg_el L xs) 694) :=
  zo_kli zd_900_693 (fun i j v h => by
    unfold zg_el at h
    split at h
    · rename_i e
      cases h
      obtain ⟨e, e2⟩ := e
      subst e
      exact ⟨L, _, fun U hU => by rw [zz_r_s]; exact hX U hU, e2, hL, by rw [zz_nI_of]⟩
    · cases h)
theorem zlw_699 {l : Launch} {D : va_G} {cy : Nat → ClassId} {z0 : Nat} {sp : Nat → Nat} {G : State → Prop} {mn : String} {d : Nat} {K : zz_K} {L : Nat} {xs : Nat → Int32} (hKS : zz_KS l D zcl zFK cy z0 sp (zTys cy) G zYN (fun y => Cond.code (zYN y) (zCN y) (zMQ y) (zRT y) :: zTs) d K) (hG : zz_GF z0 G) (hP : ∀ U, G U → zz_GD zS zS2 zLg z0 sp U) (hX : ∀ U, G U → va_T .int (sp 999999) L (fun j => .int (xs j)) (fun q : Nat => z0 ≤ q) U U.heap) (hL : L ≤ 2147483648) : zz_O l zTs D zcl zFK cy z0 sp (zTys cy) G "ToolMillLaw" mn 7 code d K 699 (za_kl (zg_el L xs) 700) :=
  zo_kli zd_900_699 (fun i j v h => by
    unfold zg_el at h
    split at h
    · rename_i e
      cases h
      obtain ⟨e, e2⟩ := e
      subst e
      exact ⟨L, _, fun U hU => by rw [zz_r_s]; exact hX U hU, e2, hL, by rw [zz_nI_of]⟩
    · cases h)
theorem zlw_705 {l : Launch} {D : va_G} {cy : Nat → ClassId} {z0 : Nat} {sp : Nat → Nat} {G : State → Prop} {mn : String} {d : Nat} {K : zz_K} {L : Nat} {xs : Nat → Int32} (hKS : zz_KS l D zcl zFK cy z0 sp (zTys cy) G zYN (fun y => Cond.code (zYN y) (zCN y) (zMQ y) (zRT y) :: zTs) d K) (hG : zz_GF z0 G) (hP : ∀ U, G U → zz_GD zS zS2 zLg z0 sp U) (hX : ∀ U, G U → va_T .int (sp 999999) L (fun j => .int (xs j)) (fun q : Nat => z0 ≤ q) U U.heap) (hL : L ≤ 2147483648) : zz_O l zTs D zcl zFK cy z0 sp (zTys cy) G "ToolMillLaw" mn 7 code d K 705 (za_kl (zg_el L xs) 706) :=
  zo_kli zd_900_705 (fun i j v h => by
    unfold zg_el at h
    split at h
    · rename_i e
      cases h
      obtain ⟨e, e2⟩ := e
      subst e
      exact ⟨L, _, fun U hU => by rw [zz_r_s]; exact hX U hU, e2, hL, by rw [zz_nI_of]⟩
    · cases h)
theorem zlw_718 {l : Launch} {D : va_G} {cy : Nat → ClassId} {z0 : Nat} {sp : Nat → Nat} {G : State → Prop} {mn : String} {d : Nat} {K : zz_K} {L : Nat} {xs : Nat → Int32} (hKS : zz_KS l D zcl zFK cy z0 sp (zTys cy) G zYN (fun y => Cond.code (zYN y) (zCN y) (zMQ y) (zRT y) :: zTs) d K) (hG : zz_GF z0 G) (hP : ∀ U, G U → zz_GD zS zS2 zLg z0 sp U) (hX : ∀ U, G U → va_T .int (sp 999999) L (fun j => .int (xs j)) (fun q : Nat => z0 ≤ q) U U.heap) (hL : L ≤ 2147483648) : zz_O l zTs D zcl zFK cy z0 sp (zTys cy) G "ToolMillLaw" mn 7 code d K 718 (za_kl (zg_el L xs) 719) :=
  zo_kli zd_900_718 (fun i j v h => by
    unfold zg_el at h
    split at h
    · rename_i e
      cases h
      obtain ⟨e, e2⟩ := e
      subst e
      exact ⟨L, _, fun U hU => by rw [zz_r_s]; exact hX U hU, e2, hL, by rw [zz_nI_of]⟩
    · cases h)
theorem zlw_724 {l : Launch} {D : va_G} {cy : Nat → ClassId} {z0 : Nat} {sp : Nat → Nat} {G : State → Prop} {mn : String} {d : Nat} {K : zz_K} {L : Nat} {xs : Nat → Int32} (hKS : zz_KS l D zcl zFK cy z0 sp (zTys cy) G zYN (fun y => Cond.code (zYN y) (zCN y) (zMQ y) (zRT y) :: zTs) d K) (hG : zz_GF z0 G) (hP : ∀ U, G U → zz_GD zS zS2 zLg z0 sp U) (hX : ∀ U, G U → va_T .int (sp 999999) L (fun j => .int (xs j)) (fun q : Nat => z0 ≤ q) U U.heap) (hL : L ≤ 2147483648) : zz_O l zTs D zcl zFK cy z0 sp (zTys cy) G "ToolMillLaw" mn 7 code d K 724 (za_kl (zg_el L xs) 725) :=
  zo_kli zd_900_724 (fun i j v h => by
    unfold zg_el at h
    split at h
    · rename_i e
      cases h
      obtain ⟨e, e2⟩ := e
      subst e
      exact ⟨L, _, fun U hU => by rw [zz_r_s]; exact hX U hU, e2, hL, by rw [zz_nI_of]⟩
    · cases h)
theorem zlw_730 {l : Launch} {D : va_G} {cy : Nat → ClassId} {z0 : Nat} {sp : Nat → Nat} {G : State → Prop} {mn : String} {d : Nat} {K : zz_K} {L : Nat} {xs : Nat → Int32} (hKS : zz_KS l D zcl zFK cy z0 sp (zTys cy) G zYN (fun y => Cond.code (zYN y) (zCN y) (zMQ y) (zRT y) :: zTs) d K) (hG : zz_GF z0 G) (hP : ∀ U, G U → zz_GD zS zS2 zLg z0 sp U) (hX : ∀ U, G U → va_T .int (sp 999999) L (fun j => .int (xs j)) (fun q : Nat => z0 ≤ q) U U.heap) (hL : L ≤ 2147483648) : zz_O l zTs D zcl zFK cy z0 sp (zTys cy) G "ToolMillLaw" mn 7 code d K 730 (za_kl (zg_el L xs) 731) :=
  zo_kli zd_900_730 (fun i j v h => by
    unfold zg_el at h
    split at h
    · rename_i e
      cases h
      obtain ⟨e, e2⟩ := e
      subst e
      exact ⟨L, _, fun U hU => by rw [zz_r_s]; exact hX U hU, e2, hL, by rw [zz_nI_of]⟩
    · cases h)
theorem zlw_773 {l : Launch} {D : va_G} {cy : Nat → ClassId} {z0 : Nat} {sp : Nat → Nat} {G : State → Prop} {mn : String} {d : Nat} {K : zz_K} {L : Nat} {xs : Nat → Int32} (hKS : zz_KS l D zcl zFK cy z0 sp (zTys cy) G zYN (fun y => Cond.code (zYN y) (zCN y) (zMQ y) (zRT y) :: zTs) d K) (hG : zz_GF z0 G) (hP : ∀ U, G U → zz_GD zS zS2 zLg z0 sp U) (hX : ∀ U, G U → va_T .int (sp 999999) L (fun j => .int (xs j)) (fun q : Nat => z0 ≤ q) U U.heap) (hL : L ≤ 2147483648) : zz_O l zTs D zcl zFK cy z0 sp (zTys cy) G "ToolMillLaw" mn 7 code d K 773 (za_kl (zg_el L xs) 774) :=
  zo_kli zd_900_773 (fun i j v h => by
    unfold zg_el at h
    split at h
    · rename_i e
      cases h
      obtain ⟨e, e2⟩ := e
      subst e
      exact ⟨L, _, fun U hU => by rw [zz_r_s]; exact hX U hU, e2, hL, by rw [zz_nI_of]⟩
    · cases h)
theorem zlw_779 {l : Launch} {D : va_G} {cy : Nat → ClassId} {z0 : Nat} {sp : Nat → Nat} {G : State → Prop} {mn : String} {d : Nat} {K : zz_K} {L : Nat} {xs : Nat → Int32} (hKS : zz_KS l D zcl zFK cy z0 sp (zTys cy) G zYN (fun y => Cond.code (zYN y) (zCN y) (zMQ y) (zRT y) :: zTs) d K) (hG : zz_GF z0 G) (hP : ∀ U, G U → zz_GD zS zS2 zLg z0 sp U) (hX : ∀ U, G U → va_T .int (sp 999999) L (fun j => .int (xs j)) (fun q : Nat => z0 ≤ q) U U.heap) (hL : L ≤ 2147483648) : zz_O l zTs D zcl zFK cy z0 sp (zTys cy) G "ToolMillLaw" mn 7 code d K 779 (za_kl (zg_el L xs) 780) :=
  zo_kli zd_900_779 (fun i j v h => by
    unfold zg_el at h
    split at h
    · rename_i e
      cases h
      obtain ⟨e, e2⟩ := e
      subst e
      exact ⟨L, _, fun U hU => by rw [zz_r_s]; exact hX U hU, e2, hL, by rw [zz_nI_of]⟩
    · cases h)
theorem zlw_785 {l : Launch} {D : va_G} {cy : Nat → ClassId} {z0 : Nat} {sp : Nat → Nat} {G : State → Prop} {mn : String} {d : Nat} {K : zz_K} {L : Nat} {xs : Nat → Int32} (hKS : zz_KS l D zcl zFK cy z0 sp (zTys cy) G zYN (fun y => Cond.code (zYN y) (zCN y) (zMQ y) (zRT y) :: zTs) d K) (hG : zz_GF z0 G) (hP : ∀ U, G U → zz_GD zS zS2 zLg z0 sp U) (hX : ∀ U, G U → va_T .int (sp 999999) L (fun j => .int (xs j)) (fun q : Nat => z0 ≤ q) U U.heap) (hL : L ≤ 2147483648) : zz_O l zTs D zcl zFK cy z0 sp (zTys cy) G "ToolMillLaw" mn 7 code d K 785 (za_kl (zg_el L xs) 786) :=
  zo_kli zd_900_785 (fun i j v h => by
    unfold zg_el at h
    split at h
    · rename_i e
      cases h
      obtain ⟨e, e2⟩ := e
      subst e
      exact ⟨L, _, fun U hU => by rw [zz_r_s]; exact hX U hU, e2, hL, by rw [zz_nI_of]⟩
    · cases h)
theorem zlw_798 {l : Launch} {D : va_G} {cy : Nat → ClassId} {z0 : Nat} {sp : Nat → Nat} {G : State → Prop} {mn : String} {d : Nat} {K : zz_K} {L : Nat} {xs : Nat → Int32} (hKS : zz_KS l D zcl zFK cy z0 sp (zTys cy) G zYN (fun y => Cond.code (zYN y) (zCN y) (zMQ y) (zRT y) :: zTs) d K) (hG : zz_GF z0 G) (hP : ∀ U, G U → zz_GD zS zS2 zLg z0 sp U) (hX : ∀ U, G U → va_T .int (sp 999999) L (fun j => .int (xs j)) (fun q : Nat => z0 ≤ q) U U.heap) (hL : L ≤ 2147483648) : zz_O l zTs D zcl zFK cy z0 sp (zTys cy) G "ToolMillLaw" mn 7 code d K 798 (za_kl (zg_el L xs) 799) :=
  zo_kli zd_900_798 (fun i j v h => by
    unfold zg_el at h
    split at h
    · rename_i e
      cases h
      obtain ⟨e, e2⟩ := e
      subst e
      exact ⟨L, _, fun U hU => by rw [zz_r_s]; exact hX U hU, e2, hL, by rw [zz_nI_of]⟩
    · cases h)
theorem zlw_804 {l : Launch} {D : va_G} {cy : Nat → ClassId} {z0 : Nat} {sp : Nat → Nat} {G : State → Prop} {mn : String} {d : Nat} {K : zz_K} {L : Nat} {xs : Nat → Int32} (hKS : zz_KS l D zcl zFK cy z0 sp (zTys cy) G zYN (fun y => Cond.code (zYN y) (zCN y) (zMQ y) (zRT y) :: zTs) d K) (hG : zz_GF z0 G) (hP : ∀ U, G U → zz_GD zS zS2 zLg z0 sp U) (hX : ∀ U, G U → va_T .int (sp 999999) L (fun j => .int (xs j)) (fun q : Nat => z0 ≤ q) U U.heap) (hL : L ≤ 2147483648) : zz_O l zTs D zcl zFK cy z0 sp (zTys cy) G "ToolMillLaw" mn 7 code d K 804 (za_kl (zg_el L xs) 805) :=
  zo_kli zd_900_804 (fun i j v h => by
    unfold zg_el at h
    split at h
    · rename_i e
      cases h
      obtain ⟨e, e2⟩ := e
      subst e
      exact ⟨L, _, fun U hU => by rw [zz_r_s]; exact hX U hU, e2, hL, by rw [zz_nI_of]⟩
    · cases h)
theorem zlw_810 {l : Launch} {D : va_G} {cy : Nat → ClassId} {z0 : Nat} {sp : Nat → Nat} {G : State → Prop} {mn : String} {d : Nat} {K : zz_K} {L : Nat} {xs : Nat → Int32} (hKS : zz_KS l D zcl zFK cy z0 sp (zTys cy) G zYN (fun y => Cond.code (zYN y) (zCN y) (zMQ y) (zRT y) :: zTs) d K) (hG : zz_GF z0 G) (hP : ∀ U, G U → zz_GD zS zS2 zLg z0 sp U) (hX : ∀ U, G U → va_T .int (sp 999999) L (fun j => .int (xs j)) (fun q : Nat => z0 ≤ q) U U.heap) (hL : L ≤ 2147483648) : zz_O l zTs D zcl zFK cy z0 sp (zTys cy) G "ToolMillLaw" mn 7 code d K 810 (za_kl (zg_el L xs) 811) :=
  zo_kli zd_900_810 (fun i j v h => by
    unfold zg_el at h
    split at h
    · rename_i e
      cases h
      obtain ⟨e, e2⟩ := e
      subst e
      exact ⟨L, _, fun U hU => by rw [zz_r_s]; exact hX U hU, e2, hL, by rw [zz_nI_of]⟩
    · cases h)
theorem zlw_853 {l : Launch} {D : va_G} {cy : Nat → ClassId} {z0 : Nat} {sp : Nat → Nat} {G : State → Prop} {mn : String} {d : Nat} {K : zz_K} {L : Nat} {xs : Nat → Int32} (hKS : zz_KS l D zcl zFK cy z0 sp (zTys cy) G zYN (fun y => Cond.code (zYN y) (zCN y) (zMQ y) (zRT y) :: zTs) d K) (hG : zz_GF z0 G) (hP : ∀ U, G U → zz_GD zS zS2 zLg z0 sp U) (hX : ∀ U, G U → va_T .int (sp 999999) L (fun j => .int (xs j)) (fun q : Nat => z0 ≤ q) U U.heap) (hL : L ≤ 2147483648) : zz_O l zTs D zcl zFK cy z0 sp (zTys cy) G "ToolMillLaw" mn 7 code d K 853 (za_kl (zg_el L xs) 854) :=
  zo_kli zd_900_853 (fun i j v h => by
    unfold zg_el at h
    split at h
    · rename_i e
      cases h
      obtain ⟨e, e2⟩ := e
      subst e
      exact ⟨L, _, fun U hU => by rw [zz_r_s]; exact hX U hU, e2, hL, by rw [zz_nI_of]⟩
    · cases h)
theorem zlw_866 {l : Launch} {D : va_G} {cy : Nat → ClassId} {z0 : Nat} {sp : Nat → Nat} {G : State → Prop} {mn : String} {d : Nat} {K : zz_K} {L : Nat} {xs : Nat → Int32} (hKS : zz_KS l D zcl zFK cy z0 sp (zTys cy) G zYN (fun y => Cond.code (zYN y) (zCN y) (zMQ y) (zRT y) :: zTs) d K) (hG : zz_GF z0 G) (hP : ∀ U, G U → zz_GD zS zS2 zLg z0 sp U) (hX : ∀ U, G U → va_T .int (sp 999999) L (fun j => .int (xs j)) (fun q : Nat => z0 ≤ q) U U.heap) (hL : L ≤ 2147483648) : zz_O l zTs D zcl zFK cy z0 sp (zTys cy) G "ToolMillLaw" mn 7 code d K 866 (za_kl (zg_el L xs) 867) :=
  zo_kli zd_900_866 (fun i j v h => by
    unfold zg_el at h
    split at h
    · rename_i e
      cases h
      obtain ⟨e, e2⟩ := e
      subst e
      exact ⟨L, _, fun U hU => by rw [zz_r_s]; exact hX U hU, e2, hL, by rw [zz_nI_of]⟩
    · cases h)
theorem zlw_909 {l : Launch} {D : va_G} {cy : Nat → ClassId} {z0 : Nat} {sp : Nat → Nat} {G : State → Prop} {mn : String} {d : Nat} {K : zz_K} {L : Nat} {xs : Nat → Int32} (hKS : zz_KS l D zcl zFK cy z0 sp (zTys cy) G zYN (fun y => Cond.code (zYN y) (zCN y) (zMQ y) (zRT y) :: zTs) d K) (hG : zz_GF z0 G) (hP : ∀ U, G U → zz_GD zS zS2 zLg z0 sp U) (hX : ∀ U, G U → va_T .int (sp 999999) L (fun j => .int (xs j)) (fun q : Nat => z0 ≤ q) U U.heap) (hL : L ≤ 2147483648) : zz_O l zTs D zcl zFK cy z0 sp (zTys cy) G "ToolMillLaw" mn 7 code d K 909 (za_kl (zg_el L xs) 910) :=
  zo_kli zd_900_909 (fun i j v h => by
    unfold zg_el at h
    split at h
    · rename_i e
      cases h
      obtain ⟨e, e2⟩ := e
      subst e
      exact ⟨L, _, fun U hU => by rw [zz_r_s]; exact hX U hU, e2, hL, by rw [zz_nI_of]⟩
    · cases h)
theorem zlw_915 {l : Launch} {D : va_G} {cy : Nat → ClassId} {z0 : Nat} {sp : Nat → Nat} {G : State → Prop} {mn : String} {d : Nat} {K : zz_K} {L : Nat} {xs : Nat → Int32} (hKS : zz_KS l D zcl zFK cy z0 sp (zTys cy) G zYN (fun y => Cond.code (zYN y) (zCN y) (zMQ y) (zRT y) :: zTs) d K) (hG : zz_GF z0 G) (hP : ∀ U, G U → zz_GD zS zS2 zLg z0 sp U) (hX : ∀ U, G U → va_T .int (sp 999999) L (fun j => .int (xs j)) (fun q : Nat => z0 ≤ q) U U.heap) (hL : L ≤ 2147483648) : zz_O l zTs D zcl zFK cy z0 sp (zTys cy) G "ToolMillLaw" mn 7 code d K 915 (za_kl (zg_el L xs) 916) :=
  zo_kli zd_900_915 (fun i j v h => by
    unfold zg_el at h
    split at h
    · rename_i e
      cases h
      obtain ⟨e, e2⟩ := e
      subst e
      exact ⟨L, _, fun U hU => by rw [zz_r_s]; exact hX U hU, e2, hL, by rw [zz_nI_of]⟩
    · cases h)
theorem zlw_928 {l : Launch} {D : va_G} {cy : Nat → ClassId} {z0 : Nat} {sp : Nat → Nat} {G : State → Prop} {mn : String} {d : Nat} {K : zz_K} {L : Nat} {xs : Nat → Int32} (hKS : zz_KS l D zcl zFK cy z0 sp (zTys cy) G zYN (fun y => Cond.code (zYN y) (zCN y) (zMQ y) (zRT y) :: zTs) d K) (hG : zz_GF z0 G) (hP : ∀ U, G U → zz_GD zS zS2 zLg z0 sp U) (hX : ∀ U, G U → va_T .int (sp 999999) L (fun j => .int (xs j)) (fun q : Nat => z0 ≤ q) U U.heap) (hL : L ≤ 2147483648) : zz_O l zTs D zcl zFK cy z0 sp (zTys cy) G "ToolMillLaw" mn 7 code d K 928 (za_kl (zg_el L xs) 929) :=
  zo_kli zd_900_928 (fun i j v h => by
    unfold zg_el at h
    split at h
    · rename_i e
      cases h
      obtain ⟨e, e2⟩ := e
      subst e
      exact ⟨L, _, fun U hU => by rw [zz_r_s]; exact hX U hU, e2, hL, by rw [zz_nI_of]⟩
    · cases h)
theorem zlw_934 {l : Launch} {D : va_G} {cy : Nat → ClassId} {z0 : Nat} {sp : Nat → Nat} {G : State → Prop} {mn : String} {d : Nat} {K : zz_K} {L : Nat} {xs : Nat → Int32} (hKS : zz_KS l D zcl zFK cy z0 sp (zTys cy) G zYN (fun y => Cond.code (zYN y) (zCN y) (zMQ y) (zRT y) :: zTs) d K) (hG : zz_GF z0 G) (hP : ∀ U, G U → zz_GD zS zS2 zLg z0 sp U) (hX : ∀ U, G U → va_T .int (sp 999999) L (fun j => .int (xs j)) (fun q : Nat => z0 ≤ q) U U.heap) (hL : L ≤ 2147483648) : zz_O l zTs D zcl zFK cy z0 sp (zTys cy) G "ToolMillLaw" mn 7 code d K 934 (za_kl (zg_el L xs) 935) :=
  zo_kli zd_900_934 (fun i j v h => by
    unfold zg_el at h
    split at h
    · rename_i e
      cases h
      obtain ⟨e, e2⟩ := e
      subst e
      exact ⟨L, _, fun U hU => by rw [zz_r_s]; exact hX U hU, e2, hL, by rw [zz_nI_of]⟩
    · cases h)
theorem zlw_977 {l : Launch} {D : va_G} {cy : Nat → ClassId} {z0 : Nat} {sp : Nat → Nat} {G : State → Prop} {mn : String} {d : Nat} {K : zz_K} {L : Nat} {xs : Nat → Int32} (hKS : zz_KS l D zcl zFK cy z0 sp (zTys cy) G zYN (fun y => Cond.code (zYN y) (zCN y) (zMQ y) (zRT y) :: zTs) d K) (hG : zz_GF z0 G) (hP : ∀ U, G U → zz_GD zS zS2 zLg z0 sp U) (hX : ∀ U, G U → va_T .int (sp 999999) L (fun j => .int (xs j)) (fun q : Nat => z0 ≤ q) U U.heap) (hL : L ≤ 2147483648) : zz_O l zTs D zcl zFK cy z0 sp (zTys cy) G "ToolMillLaw" mn 7 code d K 977 (za_kl (zg_el L xs) 978) :=
  zo_kli zd_900_977 (fun i j v h => by
    unfold zg_el at h
    split at h
    · rename_i e
      cases h
      obtain ⟨e, e2⟩ := e
      subst e
      exact ⟨L, _, fun U hU => by rw [zz_r_s]; exact hX U hU, e2, hL, by rw [zz_nI_of]⟩
    · cases h)
theorem zlw_990 {l : Launch} {D : va_G} {cy : Nat → ClassId} {z0 : Nat} {sp : Nat → Nat} {G : State → Prop} {mn : String} {d : Nat} {K : zz_K} {L : Nat} {xs : Nat → Int32} (hKS : zz_KS l D zcl zFK cy z0 sp (zTys cy) G zYN (fun y => Cond.code (zYN y) (zCN y) (zMQ y) (zRT y) :: zTs) d K) (hG : zz_GF z0 G) (hP : ∀ U, G U → zz_GD zS zS2 zLg z0 sp U) (hX : ∀ U, G U → va_T .int (sp 999999) L (fun j => .int (xs j)) (fun q : Nat => z0 ≤ q) U U.heap) (hL : L ≤ 2147483648) : zz_O l zTs D zcl zFK cy z0 sp (zTys cy) G "ToolMillLaw" mn 7 code d K 990 (za_kl (zg_el L xs) 991) :=
  zo_kli zd_900_990 (fun i j v h => by
    unfold zg_el at h
    split at h
    · rename_i e
      cases h
      obtain ⟨e, e2⟩ := e
      subst e
      exact ⟨L, _, fun U hU => by rw [zz_r_s]; exact hX U hU, e2, hL, by rw [zz_nI_of]⟩
    · cases h)
theorem zlw_1033 {l : Launch} {D : va_G} {cy : Nat → ClassId} {z0 : Nat} {sp : Nat → Nat} {G : State → Prop} {mn : String} {d : Nat} {K : zz_K} {L : Nat} {xs : Nat → Int32} (hKS : zz_KS l D zcl zFK cy z0 sp (zTys cy) G zYN (fun y => Cond.code (zYN y) (zCN y) (zMQ y) (zRT y) :: zTs) d K) (hG : zz_GF z0 G) (hP : ∀ U, G U → zz_GD zS zS2 zLg z0 sp U) (hX : ∀ U, G U → va_T .int (sp 999999) L (fun j => .int (xs j)) (fun q : Nat => z0 ≤ q) U U.heap) (hL : L ≤ 2147483648) : zz_O l zTs D zcl zFK cy z0 sp (zTys cy) G "ToolMillLaw" mn 7 code d K 1033 (za_kl (zg_el L xs) 1034) :=
  zo_kli zd_900_1033 (fun i j v h => by
    unfold zg_el at h
    split at h
    · rename_i e
      cases h
      obtain ⟨e, e2⟩ := e
      subst e
      exact ⟨L, _, fun U hU => by rw [zz_r_s]; exact hX U hU, e2, hL, by rw [zz_nI_of]⟩
    · cases h)
theorem zlw_1046 {l : Launch} {D : va_G} {cy : Nat → ClassId} {z0 : Nat} {sp : Nat → Nat} {G : State → Prop} {mn : String} {d : Nat} {K : zz_K} {L : Nat} {xs : Nat → Int32} (hKS : zz_KS l D zcl zFK cy z0 sp (zTys cy) G zYN (fun y => Cond.code (zYN y) (zCN y) (zMQ y) (zRT y) :: zTs) d K) (hG : zz_GF z0 G) (hP : ∀ U, G U → zz_GD zS zS2 zLg z0 sp U) (hX : ∀ U, G U → va_T .int (sp 999999) L (fun j => .int (xs j)) (fun q : Nat => z0 ≤ q) U U.heap) (hL : L ≤ 2147483648) : zz_O l zTs D zcl zFK cy z0 sp (zTys cy) G "ToolMillLaw" mn 7 code d K 1046 (za_kl (zg_el L xs) 1047) :=
  zo_kli zd_900_1046 (fun i j v h => by
    unfold zg_el at h
    split at h
    · rename_i e
      cases h
      obtain ⟨e, e2⟩ := e
      subst e
      exact ⟨L, _, fun U hU => by rw [zz_r_s]; exact hX U hU, e2, hL, by rw [zz_nI_of]⟩
    · cases h)
theorem zlw_1089 {l : Launch} {D : va_G} {cy : Nat → ClassId} {z0 : Nat} {sp : Nat → Nat} {G : State → Prop} {mn : String} {d : Nat} {K : zz_K} {L : Nat} {xs : Nat → Int32} (hKS : zz_KS l D zcl zFK cy z0 sp (zTys cy) G zYN (fun y => Cond.code (zYN y) (zCN y) (zMQ y) (zRT y) :: zTs) d K) (hG : zz_GF z0 G) (hP : ∀ U, G U → zz_GD zS zS2 zLg z0 sp U) (hX : ∀ U, G U → va_T .int (sp 999999) L (fun j => .int (xs j)) (fun q : Nat => z0 ≤ q) U U.heap) (hL : L ≤ 2147483648) : zz_O l zTs D zcl zFK cy z0 sp (zTys cy) G "ToolMillLaw" mn 7 code d K 1089 (za_kl (zg_el L xs) 1090) :=
  zo_kli zd_900_1089 (fun i j v h => by
    unfold zg_el at h
    split at h
    · rename_i e
      cases h
      obtain ⟨e, e2⟩ := e
      subst e
      exact ⟨L, _, fun U hU => by rw [zz_r_s]; exact hX U hU, e2, hL, by rw [zz_nI_of]⟩
    · cases h)
theorem zlw_1102 {l : Launch} {D : va_G} {cy : Nat → ClassId} {z0 : Nat} {sp : Nat → Nat} {G : State → Prop} {mn : String} {d : Nat} {K : zz_K} {L : Nat} {xs : Nat → Int32} (hKS : zz_KS l D zcl zFK cy z0 sp (zTys cy) G zYN (fun y => Cond.code (zYN y) (zCN y) (zMQ y) (zRT y) :: zTs) d K) (hG : zz_GF z0 G) (hP : ∀ U, G U → zz_GD zS zS2 zLg z0 sp U) (hX : ∀ U, G U → va_T .int (sp 999999) L (fun j => .int (xs j)) (fun q : Nat => z0 ≤ q) U U.heap) (hL : L ≤ 2147483648) : zz_O l zTs D zcl zFK cy z0 sp (zTys cy) G "ToolMillLaw" mn 7 code d K 1102 (za_kl (zg_el L xs) 1103) :=
  zo_kli zd_900_1102 (fun i j v h => by
    unfold zg_el at h
    split at h
    · rename_i e
      cases h
      obtain ⟨e, e2⟩ := e
      subst e
      exact ⟨L, _, fun U hU => by rw [zz_r_s]; exact hX U hU, e2, hL, by rw [zz_nI_of]⟩
    · cases h)
theorem zlw_1145 {l : Launch} {D : va_G} {cy : Nat → ClassId} {z0 : Nat} {sp : Nat → Nat} {G : State → Prop} {mn : String} {d : Nat} {K : zz_K} {L : Nat} {xs : Nat → Int32} (hKS : zz_KS l D zcl zFK cy z0 sp (zTys cy) G zYN (fun y => Cond.code (zYN y) (zCN y) (zMQ y) (zRT y) :: zTs) d K) (hG : zz_GF z0 G) (hP : ∀ U, G U → zz_GD zS zS2 zLg z0 sp U) (hX : ∀ U, G U → va_T .int (sp 999999) L (fun j => .int (xs j)) (fun q : Nat => z0 ≤ q) U U.heap) (hL : L ≤ 2147483648) : zz_O l zTs D zcl zFK cy z0 sp (zTys cy) G "ToolMillLaw" mn 7 code d K 1145 (za_kl (zg_el L xs) 1146) :=
  zo_kli zd_900_1145 (fun i j v h => by
    unfold zg_el at h
    split at h
    · rename_i e
      cases h
      obtain ⟨e, e2⟩ := e
      subst e
      exact ⟨L, _, fun U hU => by rw [zz_r_s]; exact hX U hU, e2, hL, by rw [zz_nI_of]⟩
    · cases h)
theorem zlw_1158 {l : Launch} {D : va_G} {cy : Nat → ClassId} {z0 : Nat} {sp : Nat → Nat} {G : State → Prop} {mn : String} {d : Nat} {K : zz_K} {L : Nat} {xs : Nat → Int32} (hKS : zz_KS l D zcl zFK cy z0 sp (zTys cy) G zYN (fun y => Cond.code (zYN y) (zCN y) (zMQ y) (zRT y) :: zTs) d K) (hG : zz_GF z0 G) (hP : ∀ U, G U → zz_GD zS zS2 zLg z0 sp U) (hX : ∀ U, G U → va_T .int (sp 999999) L (fun j => .int (xs j)) (fun q : Nat => z0 ≤ q) U U.heap) (hL : L ≤ 2147483648) : zz_O l zTs D zcl zFK cy z0 sp (zTys cy) G "ToolMillLaw" mn 7 code d K 1158 (za_kl (zg_el L xs) 1159) :=
  zo_kli zd_900_1158 (fun i j v h => by
    unfold zg_el at h
    split at h
    · rename_i e
      cases h
      obtain ⟨e, e2⟩ := e
      subst e
      exact ⟨L, _, fun U hU => by rw [zz_r_s]; exact hX U hU, e2, hL, by rw [zz_nI_of]⟩
    · cases h)
theorem zlw_1201 {l : Launch} {D : va_G} {cy : Nat → ClassId} {z0 : Nat} {sp : Nat → Nat} {G : State → Prop} {mn : String} {d : Nat} {K : zz_K} {L : Nat} {xs : Nat → Int32} (hKS : zz_KS l D zcl zFK cy z0 sp (zTys cy) G zYN (fun y => Cond.code (zYN y) (zCN y) (zMQ y) (zRT y) :: zTs) d K) (hG : zz_GF z0 G) (hP : ∀ U, G U → zz_GD zS zS2 zLg z0 sp U) (hX : ∀ U, G U → va_T .int (sp 999999) L (fun j => .int (xs j)) (fun q : Nat => z0 ≤ q) U U.heap) (hL : L ≤ 2147483648) : zz_O l zTs D zcl zFK cy z0 sp (zTys cy) G "ToolMillLaw" mn 7 code d K 1201 (za_kl (zg_el L xs) 1202) :=
  zo_kli zd_900_1201 (fun i j v h => by
    unfold zg_el at h
    split at h
    · rename_i e
      cases h
      obtain ⟨e, e2⟩ := e
      subst e
      exact ⟨L, _, fun U hU => by rw [zz_r_s]; exact hX U hU, e2, hL, by rw [zz_nI_of]⟩
    · cases h)
theorem zlw_1214 {l : Launch} {D : va_G} {cy : Nat → ClassId} {z0 : Nat} {sp : Nat → Nat} {G : State → Prop} {mn : String} {d : Nat} {K : zz_K} {L : Nat} {xs : Nat → Int32} (hKS : zz_KS l D zcl zFK cy z0 sp (zTys cy) G zYN (fun y => Cond.code (zYN y) (zCN y) (zMQ y) (zRT y) :: zTs) d K) (hG : zz_GF z0 G) (hP : ∀ U, G U → zz_GD zS zS2 zLg z0 sp U) (hX : ∀ U, G U → va_T .int (sp 999999) L (fun j => .int (xs j)) (fun q : Nat => z0 ≤ q) U U.heap) (hL : L ≤ 2147483648) : zz_O l zTs D zcl zFK cy z0 sp (zTys cy) G "ToolMillLaw" mn 7 code d K 1214 (za_kl (zg_el L xs) 1215) :=
  zo_kli zd_900_1214 (fun i j v h => by
    unfold zg_el at h
    split at h
    · rename_i e
      cases h
      obtain ⟨e, e2⟩ := e
      subst e
      exact ⟨L, _, fun U hU => by rw [zz_r_s]; exact hX U hU, e2, hL, by rw [zz_nI_of]⟩
    · cases h)
theorem zlw_1257 {l : Launch} {D : va_G} {cy : Nat → ClassId} {z0 : Nat} {sp : Nat → Nat} {G : State → Prop} {mn : String} {d : Nat} {K : zz_K} {L : Nat} {xs : Nat → Int32} (hKS : zz_KS l D zcl zFK cy z0 sp (zTys cy) G zYN (fun y => Cond.code (zYN y) (zCN y) (zMQ y) (zRT y) :: zTs) d K) (hG : zz_GF z0 G) (hP : ∀ U, G U → zz_GD zS zS2 zLg z0 sp U) (hX : ∀ U, G U → va_T .int (sp 999999) L (fun j => .int (xs j)) (fun q : Nat => z0 ≤ q) U U.heap) (hL : L ≤ 2147483648) : zz_O l zTs D zcl zFK cy z0 sp (zTys cy) G "ToolMillLaw" mn 7 code d K 1257 (za_kl (zg_el L xs) 1258) :=
  zo_kli zd_900_1257 (fun i j v h => by
    unfold zg_el at h
    split at h
    · rename_i e
      cases h
      obtain ⟨e, e2⟩ := e
      subst e
      exact ⟨L, _, fun U hU => by rw [zz_r_s]; exact hX U hU, e2, hL, by rw [zz_nI_of]⟩
    · cases h)
theorem zlw_1263 {l : Launch} {D : va_G} {cy : Nat → ClassId} {z0 : Nat} {sp : Nat → Nat} {G : State → Prop} {mn : String} {d : Nat} {K : zz_K} {L : Nat} {xs : Nat → Int32} (hKS : zz_KS l D zcl zFK cy z0 sp (zTys cy) G zYN (fun y => Cond.code (zYN y) (zCN y) (zMQ y) (zRT y) :: zTs) d K) (hG : zz_GF z0 G) (hP : ∀ U, G U → zz_GD zS zS2 zLg z0 sp U) (hX : ∀ U, G U → va_T .int (sp 999999) L (fun j => .int (xs j)) (fun q : Nat => z0 ≤ q) U U.heap) (hL : L ≤ 2147483648) : zz_O l zTs D zcl zFK cy z0 sp (zTys cy) G "ToolMillLaw" mn 7 code d K 1263 (za_kl (zg_el L xs) 1264) :=
  zo_kli zd_900_1263 (fun i j v h => by
    unfold zg_el at h
    split at h
    · rename_i e
      cases h
      obtain ⟨e, e2⟩ := e
      subst e
      exact ⟨L, _, fun U hU => by rw [zz_r_s]; exact hX U hU, e2, hL, by rw [zz_nI_of]⟩
    · cases h)
theorem zlw_1276 {l : Launch} {D : va_G} {cy : Nat → ClassId} {z0 : Nat} {sp : Nat → Nat} {G : State → Prop} {mn : String} {d : Nat} {K : zz_K} {L : Nat} {xs : Nat → Int32} (hKS : zz_KS l D zcl zFK cy z0 sp (zTys cy) G zYN (fun y => Cond.code (zYN y) (zCN y) (zMQ y) (zRT y) :: zTs) d K) (hG : zz_GF z0 G) (hP : ∀ U, G U → zz_GD zS zS2 zLg z0 sp U) (hX : ∀ U, G U → va_T .int (sp 999999) L (fun j => .int (xs j)) (fun q : Nat => z0 ≤ q) U U.heap) (hL : L ≤ 2147483648) : zz_O l zTs D zcl zFK cy z0 sp (zTys cy) G "ToolMillLaw" mn 7 code d K 1276 (za_kl (zg_el L xs) 1277) :=
  zo_kli zd_900_1276 (fun i j v h => by
    unfold zg_el at h
    split at h
    · rename_i e
      cases h
      obtain ⟨e, e2⟩ := e
      subst e
      exact ⟨L, _, fun U hU => by rw [zz_r_s]; exact hX U hU, e2, hL, by rw [zz_nI_of]⟩
    · cases h)
theorem zlw_1282 {l : Launch} {D : va_G} {cy : Nat → ClassId} {z0 : Nat} {sp : Nat → Nat} {G : State → Prop} {mn : String} {d : Nat} {K : zz_K} {L : Nat} {xs : Nat → Int32} (hKS : zz_KS l D zcl zFK cy z0 sp (zTys cy) G zYN (fun y => Cond.code (zYN y) (zCN y) (zMQ y) (zRT y) :: zTs) d K) (hG : zz_GF z0 G) (hP : ∀ U, G U → zz_GD zS zS2 zLg z0 sp U) (hX : ∀ U, G U → va_T .int (sp 999999) L (fun j => .int (xs j)) (fun q : Nat => z0 ≤ q) U U.heap) (hL : L ≤ 2147483648) : zz_O l zTs D zcl zFK cy z0 sp (zTys cy) G "ToolMillLaw" mn 7 code d K 1282 (za_kl (zg_el L xs) 1283) :=
  zo_kli zd_900_1282 (fun i j v h => by
    unfold zg_el at h
    split at h
    · rename_i e
      cases h
      obtain ⟨e, e2⟩ := e
      subst e
      exact ⟨L, _, fun U hU => by rw [zz_r_s]; exact hX U hU, e2, hL, by rw [zz_nI_of]⟩
    · cases h)
theorem zlw_1325 {l : Launch} {D : va_G} {cy : Nat → ClassId} {z0 : Nat} {sp : Nat → Nat} {G : State → Prop} {mn : String} {d : Nat} {K : zz_K} {L : Nat} {xs : Nat → Int32} (hKS : zz_KS l D zcl zFK cy z0 sp (zTys cy) G zYN (fun y => Cond.code (zYN y) (zCN y) (zMQ y) (zRT y) :: zTs) d K) (hG : zz_GF z0 G) (hP : ∀ U, G U → zz_GD zS zS2 zLg z0 sp U) (hX : ∀ U, G U → va_T .int (sp 999999) L (fun j => .int (xs j)) (fun q : Nat => z0 ≤ q) U U.heap) (hL : L ≤ 2147483648) : zz_O l zTs D zcl zFK cy z0 sp (zTys cy) G "ToolMillLaw" mn 7 code d K 1325 (za_kl (zg_el L xs) 1326) :=
  zo_kli zd_900_1325 (fun i j v h => by
    unfold zg_el at h
    split at h
    · rename_i e
      cases h
      obtain ⟨e, e2⟩ := e
      subst e
      exact ⟨L, _, fun U hU => by rw [zz_r_s]; exact hX U hU, e2, hL, by rw [zz_nI_of]⟩
    · cases h)
theorem zlw_1338 {l : Launch} {D : va_G} {cy : Nat → ClassId} {z0 : Nat} {sp : Nat → Nat} {G : State → Prop} {mn : String} {d : Nat} {K : zz_K} {L : Nat} {xs : Nat → Int32} (hKS : zz_KS l D zcl zFK cy z0 sp (zTys cy) G zYN (fun y => Cond.code (zYN y) (zCN y) (zMQ y) (zRT y) :: zTs) d K) (hG : zz_GF z0 G) (hP : ∀ U, G U → zz_GD zS zS2 zLg z0 sp U) (hX : ∀ U, G U → va_T .int (sp 999999) L (fun j => .int (xs j)) (fun q : Nat => z0 ≤ q) U U.heap) (hL : L ≤ 2147483648) : zz_O l zTs D zcl zFK cy z0 sp (zTys cy) G "ToolMillLaw" mn 7 code d K 1338 (za_kl (zg_el L xs) 1339) :=
  zo_kli zd_900_1338 (fun i j v h => by
    unfold zg_el at h
    split at h
    · rename_i e
      cases h
      obtain ⟨e, e2⟩ := e
      subst e
      exact ⟨L, _, fun U hU => by rw [zz_r_s]; exact hX U hU, e2, hL, by rw [zz_nI_of]⟩
    · cases h)
theorem zlw_1381 {l : Launch} {D : va_G} {cy : Nat → ClassId} {z0 : Nat} {sp : Nat → Nat} {G : State → Prop} {mn : String} {d : Nat} {K : zz_K} {L : Nat} {xs : Nat → Int32} (hKS : zz_KS l D zcl zFK cy z0 sp (zTys cy) G zYN (fun y => Cond.code (zYN y) (zCN y) (zMQ y) (zRT y) :: zTs) d K) (hG : zz_GF z0 G) (hP : ∀ U, G U → zz_GD zS zS2 zLg z0 sp U) (hX : ∀ U, G U → va_T .int (sp 999999) L (fun j => .int (xs j)) (fun q : Nat => z0 ≤ q) U U.heap) (hL : L ≤ 2147483648) : zz_O l zTs D zcl zFK cy z0 sp (zTys cy) G "ToolMillLaw" mn 7 code d K 1381 (za_kl (zg_el L xs) 1382) :=
  zo_kli zd_900_1381 (fun i j v h => by
    unfold zg_el at h
    split at h
    · rename_i e
      cases h
      obtain ⟨e, e2⟩ := e
      subst e
      exact ⟨L, _, fun U hU => by rw [zz_r_s]; exact hX U hU, e2, hL, by rw [zz_nI_of]⟩
    · cases h)
theorem zlw_1394 {l : Launch} {D : va_G} {cy : Nat → ClassId} {z0 : Nat} {sp : Nat → Nat} {G : State → Prop} {mn : String} {d : Nat} {K : zz_K} {L : Nat} {xs : Nat → Int32} (hKS : zz_KS l D zcl zFK cy z0 sp (zTys cy) G zYN (fun y => Cond.code (zYN y) (zCN y) (zMQ y) (zRT y) :: zTs) d K) (hG : zz_GF z0 G) (hP : ∀ U, G U → zz_GD zS zS2 zLg z0 sp U) (hX : ∀ U, G U → va_T .int (sp 999999) L (fun j => .int (xs j)) (fun q : Nat => z0 ≤ q) U U.heap) (hL : L ≤ 2147483648) : zz_O l zTs D zcl zFK cy z0 sp (zTys cy) G "ToolMillLaw" mn 7 code d K 1394 (za_kl (zg_el L xs) 1395) :=
  zo_kli zd_900_1394 (fun i j v h => by
    unfold zg_el at h
    split at h
    · rename_i e
      cases h
      obtain ⟨e, e2⟩ := e
      subst e
      exact ⟨L, _, fun U hU => by rw [zz_r_s]; exact hX U hU, e2, hL, by rw [zz_nI_of]⟩
    · cases h)
theorem zlw_1437 {l : Launch} {D : va_G} {cy : Nat → ClassId} {z0 : Nat} {sp : Nat → Nat} {G : State → Prop} {mn : String} {d : Nat} {K : zz_K} {L : Nat} {xs : Nat → Int32} (hKS : zz_KS l D zcl zFK cy z0 sp (zTys cy) G zYN (fun y => Cond.code (zYN y) (zCN y) (zMQ y) (zRT y) :: zTs) d K) (hG : zz_GF z0 G) (hP : ∀ U, G U → zz_GD zS zS2 zLg z0 sp U) (hX : ∀ U, G U → va_T .int (sp 999999) L (fun j => .int (xs j)) (fun q : Nat => z0 ≤ q) U U.heap) (hL : L ≤ 2147483648) : zz_O l zTs D zcl zFK cy z0 sp (zTys cy) G "ToolMillLaw" mn 7 code d K 1437 (za_kl (zg_el L xs) 1438) :=
  zo_kli zd_900_1437 (fun i j v h => by
    unfold zg_el at h
    split at h
    · rename_i e
      cases h
      obtain ⟨e, e2⟩ := e
      subst e
      exact ⟨L, _, fun U hU => by rw [zz_r_s]; exact hX U hU, e2, hL, by rw [zz_nI_of]⟩
    · cases h)
theorem zlw_1450 {l : Launch} {D : va_G} {cy : Nat → ClassId} {z0 : Nat} {sp : Nat → Nat} {G : State → Prop} {mn : String} {d : Nat} {K : zz_K} {L : Nat} {xs : Nat → Int32} (hKS : zz_KS l D zcl zFK cy z0 sp (zTys cy) G zYN (fun y => Cond.code (zYN y) (zCN y) (zMQ y) (zRT y) :: zTs) d K) (hG : zz_GF z0 G) (hP : ∀ U, G U → zz_GD zS zS2 zLg z0 sp U) (hX : ∀ U, G U → va_T .int (sp 999999) L (fun j => .int (xs j)) (fun q : Nat => z0 ≤ q) U U.heap) (hL : L ≤ 2147483648) : zz_O l zTs D zcl zFK cy z0 sp (zTys cy) G "ToolMillLaw" mn 7 code d K 1450 (za_kl (zg_el L xs) 1451) :=
  zo_kli zd_900_1450 (fun i j v h => by
    unfold zg_el at h
    split at h
    · rename_i e
      cases h
      obtain ⟨e, e2⟩ := e
      subst e
      exact ⟨L, _, fun U hU => by rw [zz_r_s]; exact hX U hU, e2, hL, by rw [zz_nI_of]⟩
    · cases h)
def zLv (i : Int32) : List (Nat × Value) := [(4, .int i), (3, .ref 328), (2, .ref 171), (1, .ref 0), (0, .ref 1999999)]
theorem zLaw_out {l : Launch} {D : va_G} {cy : Nat → ClassId} {z0 : Nat} {sp : Nat → Nat} {G : State → Prop} {mn : String} {d : Nat} {K : zz_K} {L : Nat} {xs : Nat → Int32} (hKS : zz_KS l D zcl zFK cy z0 sp (zTys cy) G zYN (fun y => Cond.code (zYN y) (zCN y) (zMQ y) (zRT y) :: zTs) d K) (hG : zz_GF z0 G) (hP : ∀ U, G U → zz_GD zS zS2 zLg z0 sp U) (hX : ∀ U, G U → va_T .int (sp 999999) L (fun j => .int (xs j)) (fun q : Nat => z0 ≤ q) U U.heap) {i : Int32} {w : zz_W} (hlt : Int32.ofNat L - Int32.ofNat 4 < i) : zz_B l zTs D zcl zFK cy z0 sp (zTys cy) G "ToolMillLaw" mn 7 code d (23, zLv i, [], w) (1494, zLv i, [.int (Int32.ofNat 1)], w) := by
  have b0 : zz_B l zTs D zcl zFK cy z0 sp (zTys cy) G "ToolMillLaw" mn 7 code d (23, zLv i, [], w) (25, zLv i, [.int i], w) := zz_O_B (zlw_23 hKS hG hP) rfl rfl
  have b1 : zz_B l zTs D zcl zFK cy z0 sp (zTys cy) G "ToolMillLaw" mn 7 code d (25, zLv i, [.int i], w) (26, zLv i, [.ref 1999999, .int i], w) := zz_O_B (zlw_25 hKS hG hP) rfl rfl
  have b2 : zz_B l zTs D zcl zFK cy z0 sp (zTys cy) G "ToolMillLaw" mn 7 code d (26, zLv i, [.ref 1999999, .int i], w) (27, zLv i, [.int (Int32.ofNat L), .int i], w) := zz_O_B (zlw_26 hKS hG hP hX) rfl (by show zz_fN L (fun v => some (27, zLv i, Value.int (Int32.ofNat v) :: [Value.int i], w)) = _; rw [zz_fN_eq])
  have b3 : zz_B l zTs D zcl zFK cy z0 sp (zTys cy) G "ToolMillLaw" mn 7 code d (27, zLv i, [.int (Int32.ofNat L), .int i], w) (28, zLv i, [.int (Int32.ofNat 4), .int (Int32.ofNat L), .int i], w) := zz_O_B (zlw_27 hKS hG hP) rfl rfl
  have b4 : zz_B l zTs D zcl zFK cy z0 sp (zTys cy) G "ToolMillLaw" mn 7 code d (28, zLv i, [.int (Int32.ofNat 4), .int (Int32.ofNat L), .int i], w) (29, zLv i, [.int (Int32.ofNat L - Int32.ofNat 4), .int i], w) := zz_O_B (zlw_28 hKS hG hP) rfl (by show zz_fI (Int32.ofNat L - Int32.ofNat 4) (fun z => some (29, zLv i, Value.int z :: [Value.int i], w)) = _; rw [zz_fI_eq])
  have b5 : zz_B l zTs D zcl zFK cy z0 sp (zTys cy) G "ToolMillLaw" mn 7 code d (29, zLv i, [.int (Int32.ofNat L - Int32.ofNat 4), .int i], w) (1493, zLv i, [], w) := zz_O_B (zlw_29 hKS hG hP) rfl (by show (if Int32.ofNat L - Int32.ofNat 4 < i then some ((1493, zLv i, [], w) : zz_F) else some (32, zLv i, [], w)) = _; rw [if_pos hlt])
  have b6 : zz_B l zTs D zcl zFK cy z0 sp (zTys cy) G "ToolMillLaw" mn 7 code d (1493, zLv i, [], w) (1494, zLv i, [.int (Int32.ofNat 1)], w) := zz_O_B (zlw_1493 hKS hG hP) rfl rfl
  exact zz_B_tr b0 (zz_B_tr b1 (zz_B_tr b2 (zz_B_tr b3 (zz_B_tr b4 (zz_B_tr b5 (b6))))))
theorem zLaw_in {l : Launch} {D : va_G} {cy : Nat → ClassId} {z0 : Nat} {sp : Nat → Nat} {G : State → Prop} {mn : String} {d : Nat} {K : zz_K} {L : Nat} {xs : Nat → Int32} (hKS : zz_KS l D zcl zFK cy z0 sp (zTys cy) G zYN (fun y => Cond.code (zYN y) (zCN y) (zMQ y) (zRT y) :: zTs) d K) (hG : zz_GF z0 G) (hP : ∀ U, G U → zz_GD zS zS2 zLg z0 sp U) (hX : ∀ U, G U → va_T .int (sp 999999) L (fun j => .int (xs j)) (fun q : Nat => z0 ≤ q) U U.heap) {i : Int32} {w : zz_W} (hL : L ≤ 2147483648) (hge : ¬ Int32.ofNat L - Int32.ofNat 4 < i) (hj : zz_nI i < L) : zz_B l zTs D zcl zFK cy z0 sp (zTys cy) G "ToolMillLaw" mn 7 code d (23, zLv i, [], w) (39, zLv i, [.int (xs (zz_nI i) &&& Int32.ofNat 31)], w) := by
  have b0 : zz_B l zTs D zcl zFK cy z0 sp (zTys cy) G "ToolMillLaw" mn 7 code d (23, zLv i, [], w) (25, zLv i, [.int i], w) := zz_O_B (zlw_23 hKS hG hP) rfl rfl
  have b1 : zz_B l zTs D zcl zFK cy z0 sp (zTys cy) G "ToolMillLaw" mn 7 code d (25, zLv i, [.int i], w) (26, zLv i, [.ref 1999999, .int i], w) := zz_O_B (zlw_25 hKS hG hP) rfl rfl
  have b2 : zz_B l zTs D zcl zFK cy z0 sp (zTys cy) G "ToolMillLaw" mn 7 code d (26, zLv i, [.ref 1999999, .int i], w) (27, zLv i, [.int (Int32.ofNat L), .int i], w) := zz_O_B (zlw_26 hKS hG hP hX) rfl (by show zz_fN L (fun v => some (27, zLv i, Value.int (Int32.ofNat v) :: [Value.int i], w)) = _; rw [zz_fN_eq])
  have b3 : zz_B l zTs D zcl zFK cy z0 sp (zTys cy) G "ToolMillLaw" mn 7 code d (27, zLv i, [.int (Int32.ofNat L), .int i], w) (28, zLv i, [.int (Int32.ofNat 4), .int (Int32.ofNat L), .int i], w) := zz_O_B (zlw_27 hKS hG hP) rfl rfl
  have b4 : zz_B l zTs D zcl zFK cy z0 sp (zTys cy) G "ToolMillLaw" mn 7 code d (28, zLv i, [.int (Int32.ofNat 4), .int (Int32.ofNat L), .int i], w) (29, zLv i, [.int (Int32.ofNat L - Int32.ofNat 4), .int i], w) := zz_O_B (zlw_28 hKS hG hP) rfl (by show zz_fI (Int32.ofNat L - Int32.ofNat 4) (fun z => some (29, zLv i, Value.int z :: [Value.int i], w)) = _; rw [zz_fI_eq])
  have b5 : zz_B l zTs D zcl zFK cy z0 sp (zTys cy) G "ToolMillLaw" mn 7 code d (29, zLv i, [.int (Int32.ofNat L - Int32.ofNat 4), .int i], w) (32, zLv i, [], w) := zz_O_B (zlw_29 hKS hG hP) rfl (by show (if Int32.ofNat L - Int32.ofNat 4 < i then some ((1493, zLv i, [], w) : zz_F) else some (32, zLv i, [], w)) = _; rw [if_neg hge])
  have b6 : zz_B l zTs D zcl zFK cy z0 sp (zTys cy) G "ToolMillLaw" mn 7 code d (32, zLv i, [], w) (33, zLv i, [.ref 1999999], w) := zz_O_B (zlw_32 hKS hG hP) rfl rfl
  have b7 : zz_B l zTs D zcl zFK cy z0 sp (zTys cy) G "ToolMillLaw" mn 7 code d (33, zLv i, [.ref 1999999], w) (35, zLv i, [.int i, .ref 1999999], w) := zz_O_B (zlw_33 hKS hG hP) rfl rfl
  have b8 : zz_B l zTs D zcl zFK cy z0 sp (zTys cy) G "ToolMillLaw" mn 7 code d (35, zLv i, [.int i, .ref 1999999], w) (36, zLv i, [.int (xs (zz_nI i))], w) := zz_O_B (zlw_35 hKS hG hP hX hL) rfl (by unfold za_kl zg_el; show (match (if (1999999 : Nat) = 1999999 ∧ zz_nI i < L then some (zz_nI (xs (zz_nI i))) else none) with | some v => zz_fN v (fun v => some (36, zLv i, Value.int (Int32.ofNat v) :: [], w)) | none => none) = _; rw [if_pos ⟨rfl, hj⟩]; show zz_fN (zz_nI (xs (zz_nI i))) _ = _; rw [zz_fN_eq, zz_nI_of])
  have b9 : zz_B l zTs D zcl zFK cy z0 sp (zTys cy) G "ToolMillLaw" mn 7 code d (36, zLv i, [.int (xs (zz_nI i))], w) (38, zLv i, [.int (Int32.ofNat 31), .int (xs (zz_nI i))], w) := zz_O_B (zlw_36 hKS hG hP) rfl rfl
  have b10 : zz_B l zTs D zcl zFK cy z0 sp (zTys cy) G "ToolMillLaw" mn 7 code d (38, zLv i, [.int (Int32.ofNat 31), .int (xs (zz_nI i))], w) (39, zLv i, [.int (xs (zz_nI i) &&& Int32.ofNat 31)], w) := zz_O_B (zlw_38 hKS hG hP) rfl (by show zz_fI (xs (zz_nI i) &&& Int32.ofNat 31) (fun z => some (39, zLv i, Value.int z :: [], w)) = _; rw [zz_fI_eq])
  exact zz_B_tr b0 (zz_B_tr b1 (zz_B_tr b2 (zz_B_tr b3 (zz_B_tr b4 (zz_B_tr b5 (zz_B_tr b6 (zz_B_tr b7 (zz_B_tr b8 (zz_B_tr b9 (b10))))))))))
