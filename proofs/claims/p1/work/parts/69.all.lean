/-! all tables -/
theorem zP_out {y : Nat} (h : ¬ y < 69) : zP y = [] := by
  unfold zP
  have : Nat.blt y 69 = false := by
    cases hb : Nat.blt y 69 with
    | false => rfl
    | true => exact absurd (zz_blt hb) h
  rw [this]
  rfl
theorem zz_TO_nil {l : Launch} {Ts : List Cond} {D : va_G} {cl : List vw_C} {fk : Nat → Nat → Nat} {cy : Nat → ClassId} {z0 : Nat} {sp : Nat → Nat} {tys : List (ClassId × FieldType)} {G : State → Prop} {own mn : String} {nL : Nat} {cc : ByteArray} {d : Nat} {K : zz_K} : zz_TO l Ts D cl fk cy z0 sp tys G own mn nL cc d K [] := zz_TO_of trivial
theorem zP_s {l : Launch} {D : va_G} {cy : Nat → ClassId} {z0 : Nat} {sp : Nat → Nat} {G : State → Prop} {d : Nat} {K : zz_K} (hKS : zz_KS l D zcl zFK cy z0 sp (zTys cy) G zYN (fun y => Cond.code (zYN y) (zCN y) (zMQ y) (zRT y) :: zTs) d K) (hG : zz_GF z0 G) : ∀ y, y < 69 → zz_TO l zTs D zcl zFK cy z0 sp (zTys cy) G (zYN y).cls (zYN y).name (zMQ y) (zCN y) d K (zP y) :=
  lt_s (lt_s (lt_s (lt_s (lt_s (lt_s (lt_s (lt_s (lt_s (lt_s (lt_s (lt_s (lt_s (lt_s (lt_s (lt_s (lt_s (lt_s (lt_s (lt_s (lt_s (lt_s (lt_s (lt_s (lt_s (lt_s (lt_s (lt_s (lt_s (lt_s (lt_s (lt_s (lt_s (lt_s (lt_s (lt_s (lt_s (lt_s (lt_s (lt_s (lt_s (lt_s (lt_s (lt_s (lt_s (lt_s (lt_s (lt_s (lt_s (lt_s (lt_s (lt_s (lt_s (lt_s (lt_s (lt_s (lt_s (lt_s (lt_s (lt_s (lt_s (lt_s (lt_s (lt_s (lt_s (lt_s (lt_s (lt_s (lt_s (lt_0) (zt_0 hKS hG)) (zt_1 hKS hG)) (zt_2 hKS hG)) (zt_3 hKS hG)) (zt_4 hKS hG)) (zt_5 hKS hG)) (zt_6 hKS hG)) (zt_7 hKS hG)) (zt_8 hKS hG)) (zt_9 hKS hG)) (zt_10 hKS hG)) (zt_11 hKS hG)) (zt_12 hKS hG)) (zt_13 hKS hG)) (zt_14 hKS hG)) (zt_15 hKS hG)) (zt_16 hKS hG)) (zt_17 hKS hG)) (zt_18 hKS hG)) (zt_19 hKS hG)) (zt_20 hKS hG)) (zt_21 hKS hG)) (zt_22 hKS hG)) (zt_23 hKS hG)) (zt_24 hKS hG)) (zt_25 hKS hG)) (zt_26 hKS hG)) (zt_27 hKS hG)) (zt_28 hKS hG)) (zt_29 hKS hG)) (zt_30 hKS hG)) (zt_31 hKS hG)) (zt_32 hKS hG)) (zt_33 hKS hG)) (zt_34 hKS hG)) (zt_35 hKS hG)) (zt_36 hKS hG)) (zt_37 hKS hG)) (zt_38 hKS hG)) (zt_39 hKS hG)) (zt_40 hKS hG)) (zt_41 hKS hG)) (zt_42 hKS hG)) (zt_43 hKS hG)) (zt_44 hKS hG)) (zt_45 hKS hG)) (zt_46 hKS hG)) (zt_47 hKS hG)) (zt_48 hKS hG)) (zt_49 hKS hG)) (zt_50 hKS hG)) (zt_51 hKS hG)) (zt_52 hKS hG)) (zt_53 hKS hG)) (zt_54 hKS hG)) (zt_55 hKS hG)) (zt_56 hKS hG)) (zt_57 hKS hG)) (zt_58 hKS hG)) (zt_59 hKS hG)) (zt_60 hKS hG)) (zt_61 hKS hG)) (zt_62 hKS hG)) (zt_63 hKS hG)) (zt_64 hKS hG)) (zt_65 hKS hG)) (zt_66 hKS hG)) (zt_67 hKS hG)) (zt_68 hKS hG)
theorem zP_r : ∀ y, y < 69 → zz_RO (zCN y) (zRT y) (zP y) :=
  lt_s (lt_s (lt_s (lt_s (lt_s (lt_s (lt_s (lt_s (lt_s (lt_s (lt_s (lt_s (lt_s (lt_s (lt_s (lt_s (lt_s (lt_s (lt_s (lt_s (lt_s (lt_s (lt_s (lt_s (lt_s (lt_s (lt_s (lt_s (lt_s (lt_s (lt_s (lt_s (lt_s (lt_s (lt_s (lt_s (lt_s (lt_s (lt_s (lt_s (lt_s (lt_s (lt_s (lt_s (lt_s (lt_s (lt_s (lt_s (lt_s (lt_s (lt_s (lt_s (lt_s (lt_s (lt_s (lt_s (lt_s (lt_s (lt_s (lt_s (lt_s (lt_s (lt_s (lt_s (lt_s (lt_s (lt_s (lt_s (lt_s (lt_0) (zr_0)) (zr_1)) (zr_2)) (zr_3)) (zr_4)) (zr_5)) (zr_6)) (zr_7)) (zr_8)) (zr_9)) (zr_10)) (zr_11)) (zr_12)) (zr_13)) (zr_14)) (zr_15)) (zr_16)) (zr_17)) (zr_18)) (zr_19)) (zr_20)) (zr_21)) (zr_22)) (zr_23)) (zr_24)) (zr_25)) (zr_26)) (zr_27)) (zr_28)) (zr_29)) (zr_30)) (zr_31)) (zr_32)) (zr_33)) (zr_34)) (zr_35)) (zr_36)) (zr_37)) (zr_38)) (zr_39)) (zr_40)) (zr_41)) (zr_42)) (zr_43)) (zr_44)) (zr_45)) (zr_46)) (zr_47)) (zr_48)) (zr_49)) (zr_50)) (zr_51)) (zr_52)) (zr_53)) (zr_54)) (zr_55)) (zr_56)) (zr_57)) (zr_58)) (zr_59)) (zr_60)) (zr_61)) (zr_62)) (zr_63)) (zr_64)) (zr_65)) (zr_66)) (zr_67)) (zr_68)
theorem zz_2l {α : Type} {Pq : α → Bool} {L : List (List α)} {d0 : α} (h0 : Pq d0 = true) (h : L.all (fun c => c.all Pq) = true) (i j : Nat) : Pq ((L.getD i []).getD j d0) = true := by
  cases hc : L[i]? with
  | none =>
    have e1 : L.getD i [] = [] := by rw [List.getD_eq_getElem?_getD, hc]; rfl
    rw [e1]
    exact h0
  | some ch =>
    have e1 : L.getD i [] = ch := by rw [List.getD_eq_getElem?_getD, hc]; rfl
    rw [e1]
    have h1 := List.all_eq_true.mp h ch (List.mem_of_getElem? hc)
    cases he : ch[j]? with
    | none =>
      have e2 : ch.getD j d0 = d0 := by rw [List.getD_eq_getElem?_getD, he]; rfl
      rw [e2]
      exact h0
    | some e =>
      have e2 : ch.getD j d0 = e := by rw [List.getD_eq_getElem?_getD, he]; rfl
      rw [e2]
      exact List.all_eq_true.mp h1 e (List.mem_of_getElem? he)
theorem zYN_pl : ∀ y, plainName (zYN y).cls = true := fun y => zz_2l (Pq := fun e => plainName e.1.cls) (L := zMs) (d0 := zM0) (by decide +kernel) (by decide +kernel) (y / 16) (y % 16)
theorem zKS {l : Launch} {D : va_G} {cy : Nat → ClassId} {z0 : Nat} {sp : Nat → Nat} {G : State → Prop} (hG : zz_GF z0 G) : ∀ d : Nat, zz_KS l D zcl zFK cy z0 sp (zTys cy) G zYN (fun y => Cond.code (zYN y) (zCN y) (zMQ y) (zRT y) :: zTs) d (zz_cl zP zMQ d) := by
  refine zz_KS_all (fun d K hKS y => ?_) (fun y => ?_) zYN_pl
  · by_cases h : y < 69
    · exact zP_s hKS hG y h
    · rw [zP_out h]
      exact zz_TO_nil
  · by_cases h : y < 69
    · exact zP_r y h
    · rw [zP_out h]
      exact zz_RO_of rfl
