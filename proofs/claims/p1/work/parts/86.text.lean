/-! the class's text, by program -/
def zBr (v N M c : Nat) (w : zz_W) : Prop := zz_sh w ∧ (c = 16 ∧ v = 17 ∧ w.1 = 329 ∧ w.2.1 = 2300586 ∨ c = 34 ∧ v = 329 ∧ w.1 = 330 ∧ w.2.1 = 2300620) ∧ zz_has w 16 (3, 13, 4, M) ∧ zz_has w v (0, 1, c, N) ∧ zz_at 64 M 1 = 0 ∧ zz_at 64 M 0 = v + 1 ∧ (∀ j, zz_at 32 N j < 128) ∧ ∀ i, i ≠ 16 → i ≠ 17 → i < 329 → zz_g w i = zz_g zW3 i
section ZBR
variable {v N M c : Nat} {w : zz_W}
theorem zBr_sh (r : zBr v N M c w) : zz_sh w := r.1
theorem zBr_c (r : zBr v N M c w) : c = 16 ∨ c = 34 := by rcases r.2.1 with h | h <;> omega
theorem zBr_v (r : zBr v N M c w) : v = 17 ∨ v = 329 := by rcases r.2.1 with h | h <;> omega
theorem zBr_16 (r : zBr v N M c w) : zz_has w 16 (3, 13, 4, M) := r.2.2.1
theorem zBr_V (r : zBr v N M c w) : zz_has w v (0, 1, c, N) := r.2.2.2.1
theorem zBr_co (r : zBr v N M c w) : zz_at 64 M 1 = 0 := r.2.2.2.2.1
theorem zBr_va (r : zBr v N M c w) : zz_at 64 M 0 = v + 1 := r.2.2.2.2.2.1
theorem zBr_b (r : zBr v N M c w) : ∀ j, zz_at 32 N j < 128 := r.2.2.2.2.2.2.1
theorem zBr_o (r : zBr v N M c w) {i : Nat} {cc : zz_C} (h : zz_has zW3 i cc) (h1 : i ≠ 16) (h2 : i ≠ 17) (h3 : i < 329) : zz_has w i cc := ⟨by rcases r.2.1 with h | h <;> omega, h.2.1, (r.2.2.2.2.2.2.2 i h1 h2 h3).trans h.2.2⟩
theorem zz_b7 : ∀ m, m < 128 → zz_nI (Int32.ofNat m).toInt8.toInt32 = m := by decide +kernel
theorem zz_i8 : ∀ m, m < 128 → (Int32.ofNat m).toInt8.toInt32 = Int32.ofNat m := by decide +kernel
theorem zBr_wr (r : zBr v N M c w) {P m : Nat} (hP : P < c) (hm : m < 128) : zBr v (zz_to 32 N P m) M c (zz_up w v (0, 1, c, zz_to 32 N (zz_nI (Int32.ofNat P)) (zz_nI (Int32.ofNat m).toInt8.toInt32))) := by
  have hc := zBr_c r
  have hv := zBr_v r
  rw [zz_nI_ofNat (by omega), zz_b7 m hm]
  obtain ⟨a1, a2, a3, a4, a5, a6, a7, a8⟩ := r
  refine ⟨zz_up_sh a1, a2, zz_has_ne a1 (by omega) a3 (by omega), zz_has_up a1 a4, a5, a6, fun j => ?_, fun i h1 h2 h3 => (zz_up_ne a1 (by omega) (by omega)).trans (a8 i h1 h2 h3)⟩
  rw [zz_at_to (by omega)]
  split
  · exact hm
  · exact a7 j
theorem zBr_cnt (r : zBr v N M c w) {m : Nat} (hm : m < 2 ^ 32) : zBr v N (zz_to 64 M 3 (zz_nI (Int32.ofNat m))) c (zz_up w 16 (3, 13, 4, zz_to 64 M 3 (zz_nI (Int32.ofNat m)))) := by
  have hv := zBr_v r
  obtain ⟨a1, a2, a3, a4, a5, a6, a7, a8⟩ := r
  exact ⟨zz_up_sh a1, a2, zz_has_up a1 a3, zz_has_ne a1 (by decide) a4 (by omega), (zz_gn (by decide)).trans a5, (zz_gn (by decide)).trans a6, a7, fun i h1 h2 h3 => (zz_up_ne a1 (by decide) h1).trans (a8 i h1 h2 h3)⟩
end ZBR
theorem zBr_grow {N M : Nat} {w : zz_W} (r : zBr 17 N M 16 w) : zBr 329 (zz_cp 32 N 0 0 0 16) (zz_to 64 M 0 (329 + 1)) 34 (zz_up (zz_up (zz_pu w (0, 1, 34, 0) 34) 329 (0, 1, 34, zz_cp 32 N 0 0 0 16)) 16 (3, 13, 4, zz_to 64 M 0 (329 + 1))) := by
  obtain ⟨a1, a2, a3, a4, a5, a6, a7, a8⟩ := r
  have e1 : w.1 = 329 := by omega
  have e2 : w.2.1 = 2300586 := by omega
  have s1 : zz_sh (zz_pu w (0, 1, 34, 0) 34) := zz_pu_sh a1
  have hi : w.1 < 384 := by omega
  have h329 : zz_has (zz_pu w (0, 1, 34, 0) 34) 329 (0, 1, 34, 0) := by
    have := zz_has_pu (c := (0, 1, 34, 0)) (N := 34) a1 hi
    rw [e1] at this
    exact this
  refine ⟨zz_up_sh (zz_up_sh s1), Or.inr ⟨rfl, rfl, by show w.1 + 1 = 330; omega, by show w.2.1 + 34 = _; omega⟩, zz_has_up (zz_up_sh s1) (zz_has_ne s1 (by decide) (zz_has_old a1 hi a3) (by decide)), zz_has_ne (zz_up_sh s1) (by decide) (zz_has_up s1 h329) (by decide), ?_, ?_, fun j => ?_, fun i h1 h2 h3 => ?_⟩
  · rw [zz_at_to (by decide)]
    exact a5
  · rw [zz_at_to (by decide)]
    rfl
  · rw [zz_at_cp]
    split
    · exact a7 _
    · rw [zz_at_0]; decide
  · rw [zz_up_ne (zz_up_sh s1) (by decide) h1, zz_up_ne s1 (by decide) (by omega), zz_pu_g a1 hi, if_neg (by omega)]
    exact a8 i h1 h2 h3
theorem zl_newa {kd t q n p i : Nat} {K : zz_K} {lv : List (Nat × Value)} {st : List Value} {w : zz_W} {x : Int32} (hs : zz_sh w) (hw : w.1 = i) (hi : i < 384) (hx : zz_nI x = q) (hq : q ≤ 1000000) : za_newa kd t n K (p, lv, .int x :: st, w) = some (n, lv, .ref i :: st, zz_pu w (kd, t, q, 0) q) := by
  subst hw
  exact ze_newa hs hi hx hq
theorem zl_copyB {t a b la lb Na Nb n p : Nat} {K : zz_K} {lv : List (Nat × Value)} {st : List Value} {w : zz_W} {i j k : Int32} (hs : zz_sh w) (ha : zz_has w a (0, t, la, Na)) (hb : zz_has w b (0, t, lb, Nb)) (h1 : zz_nI i + zz_nI k ≤ la) (h2 : zz_nI j + zz_nI k ≤ lb) (h3 : la < 2147483648) (h4 : lb < 2147483648) (hr : zz_cs st ≤ 8) (h7 : zz_a7 Na (zz_nI i) (zz_nI k) = true) : za_copyB t n K (p, lv, .int k :: .int j :: .ref b :: .int i :: .ref a :: st, w) = some (n, lv, st, zz_up w b (0, t, lb, zz_cp 32 Na Nb (zz_nI i) (zz_nI j) (zz_nI k))) := by
  unfold za_copyB
  obtain ⟨b1, b2⟩ := zz_has_b ha
  obtain ⟨c1, c2⟩ := zz_has_b hb
  have e1 : zz_ik w a t (zz_nI i) (zz_nI k) = true := by
    unfold zz_ik
    rw [b1, b2, ha.2.2]
    show (true && (true && (Nat.beq 0 0 && (Nat.beq t t && (Nat.ble (zz_nI i + zz_nI k) la && Nat.blt la 2147483648))))) = true
    rw [Nat.beq_refl t, show Nat.ble (zz_nI i + zz_nI k) la = true from Nat.ble_eq.mpr h1, show Nat.blt la 2147483648 = true from Nat.ble_eq.mpr h3]
    rfl
  have e2 : zz_ik w b t (zz_nI j) (zz_nI k) = true := by
    unfold zz_ik
    rw [c1, c2, hb.2.2]
    show (true && (true && (Nat.beq 0 0 && (Nat.beq t t && (Nat.ble (zz_nI j + zz_nI k) lb && Nat.blt lb 2147483648))))) = true
    rw [Nat.beq_refl t, show Nat.ble (zz_nI j + zz_nI k) lb = true from Nat.ble_eq.mpr h2, show Nat.blt lb 2147483648 = true from Nat.ble_eq.mpr h4]
    rfl
  show cond (zz_ik w a t (zz_nI i) (zz_nI k) && (zz_ik w b t (zz_nI j) (zz_nI k) && (Nat.ble (zz_cs st) 8 && zz_a7 (zz_g w a).2.2.2 (zz_nI i) (zz_nI k)))) (zz_fN (zz_cp 32 (zz_g w a).2.2.2 (zz_g w b).2.2.2 (zz_nI i) (zz_nI j) (zz_nI k)) (fun N => zz_st w b (0, t, (zz_g w b).2.2.1, N) none (fun w' => some ((n, lv, st, w') : zz_F)))) none = _
  rw [e1, e2, show Nat.ble (zz_cs st) 8 = true from Nat.ble_eq.mpr hr, ha.2.2, hb.2.2, h7, zz_fN_eq, zz_up_st hs hb.2.1]
  rfl
theorem zL_max {l : Launch} {D : va_G} {cy : Nat → ClassId} {z0 : Nat} {sp : Nat → Nat} {G : State → Prop} {d : Nat} (hG : zz_GF z0 G) (hP : ∀ U, G U → zz_GD zS zS2 zLg z0 sp U) {w : zz_W} {p0 p1 : Int32} (h : p0 < p1) : zz_M l zTs D zcl zFK cy z0 sp (zTys cy) G zYN zCN zMQ zRT (d + 1) 266 [.int p0, .int p1] w [.int p1] w := by
  have T := zt_266 (l := l) (D := D) (cy := cy) (z0 := z0) (sp := sp) (G := G) (d := d) zz_k0_KS hG hP
  have TK := fun (K : zz_K) (h : zz_KS l D zcl zFK cy z0 sp (zTys cy) G zYN (fun y => Cond.code (zYN y) (zCN y) (zMQ y) (zRT y) :: zTs) d K) => zt_266 h hG hP
  have b := zz_B_rf (l := l) (Ts := zTs) (D := D) (cl := zcl) (fk := zFK) (cy := cy) (z0 := z0) (sp := sp) (tys := zTys cy) (G := G) (own := "java/lang/Math") (mn := "max") (nL := 2) (cc := prog_24_method_65_code) (d := d) ((0, [(0, .int p0), (1, .int p1)], [], w) : zz_F)
  replace b := zz_fw b T (rfl : zz_ent zP_266 0 = (0, za_iload 0 1)) (ze_iload rfl)
  replace b := zz_fw b T (rfl : zz_ent zP_266 1 = (0, za_iload 1 2)) (ze_iload rfl)
  replace b := zz_fw b T (rfl : zz_ent zP_266 2 = (0, za_icmp_lt 9 5)) (ze_icmp_lt_t h)
  replace b := zz_fw b T (rfl : zz_ent zP_266 9 = (0, za_iload 1 10)) (ze_iload rfl)
  have m := zz_M_B (yn := zYN) (cn := zCN) (ml := zMQ) (rt := zRT) (y := 266) (as := [.int p0, .int p1]) rfl rfl rfl rfl rfl (by decide +kernel) (zz_lb rfl) (zz_lb rfl) (zz_end_i (zr_266.2.1 10 rfl).1) b
  exact m
theorem zL_min {l : Launch} {D : va_G} {cy : Nat → ClassId} {z0 : Nat} {sp : Nat → Nat} {G : State → Prop} {d : Nat} (hG : zz_GF z0 G) (hP : ∀ U, G U → zz_GD zS zS2 zLg z0 sp U) {w : zz_W} {p0 p1 : Int32} (h : ¬ p1 < p0) : zz_M l zTs D zcl zFK cy z0 sp (zTys cy) G zYN zCN zMQ zRT (d + 1) 177 [.int p0, .int p1] w [.int p0] w := by
  have T := zt_177 (l := l) (D := D) (cy := cy) (z0 := z0) (sp := sp) (G := G) (d := d) zz_k0_KS hG hP
  have TK := fun (K : zz_K) (h : zz_KS l D zcl zFK cy z0 sp (zTys cy) G zYN (fun y => Cond.code (zYN y) (zCN y) (zMQ y) (zRT y) :: zTs) d K) => zt_177 h hG hP
  have b := zz_B_rf (l := l) (Ts := zTs) (D := D) (cl := zcl) (fk := zFK) (cy := cy) (z0 := z0) (sp := sp) (tys := zTys cy) (G := G) (own := "java/lang/Math") (mn := "min") (nL := 2) (cc := prog_24_method_69_code) (d := d) ((0, [(0, .int p0), (1, .int p1)], [], w) : zz_F)
  replace b := zz_fw b T (rfl : zz_ent zP_177 0 = (0, za_iload 0 1)) (ze_iload rfl)
  replace b := zz_fw b T (rfl : zz_ent zP_177 1 = (0, za_iload 1 2)) (ze_iload rfl)
  replace b := zz_fw b T (rfl : zz_ent zP_177 2 = (0, za_icmp_gt 9 5)) (ze_icmp_gt_f h)
  replace b := zz_fw b T (rfl : zz_ent zP_177 5 = (0, za_iload 0 6)) (ze_iload rfl)
  replace b := zz_fw b T (rfl : zz_ent zP_177 6 = (0, za_goto 10)) (ze_goto)
  have m := zz_M_B (yn := zYN) (cn := zCN) (ml := zMQ) (rt := zRT) (y := 177) (as := [.int p0, .int p1]) rfl rfl rfl rfl rfl (by decide +kernel) (zz_lb rfl) (zz_lb rfl) (zz_end_i (zr_177.2.1 10 rfl).1) b
  exact m
theorem zL_nlen {l : Launch} {D : va_G} {cy : Nat → ClassId} {z0 : Nat} {sp : Nat → Nat} {G : State → Prop} {d : Nat} (hG : zz_GF z0 G) (hP : ∀ U, G U → zz_GD zS zS2 zLg z0 sp U) {w : zz_W} {p0 : Int32} (h : p0 < Int32.ofNat 18) : zz_M l zTs D zcl zFK cy z0 sp (zTys cy) G zYN zCN zMQ zRT (d + 2) 254 [.int (Int32.ofNat 16), .int p0, .int (Int32.ofNat 18)] w [.int (Int32.ofNat 34)] w := by
  have T := zt_254 (l := l) (D := D) (cy := cy) (z0 := z0) (sp := sp) (G := G) (d := (d + 1)) zz_k0_KS hG hP
  have TK := fun (K : zz_K) (h : zz_KS l D zcl zFK cy z0 sp (zTys cy) G zYN (fun y => Cond.code (zYN y) (zCN y) (zMQ y) (zRT y) :: zTs) (d + 1) K) => zt_254 h hG hP
  have b := zz_B_rf (l := l) (Ts := zTs) (D := D) (cl := zcl) (fk := zFK) (cy := cy) (z0 := z0) (sp := sp) (tys := zTys cy) (G := G) (own := "jdk/internal/util/ArraysSupport") (mn := "newLength") (nL := 4) (cc := prog_36_method_27_code) (d := (d + 1)) ((0, [(0, .int (Int32.ofNat 16)), (1, .int p0), (2, .int (Int32.ofNat 18))], [], w) : zz_F)
  replace b := zz_fw b T (rfl : zz_ent zP_254 0 = (0, za_iload 0 1)) (ze_iload rfl)
  replace b := zz_fw b T (rfl : zz_ent zP_254 1 = (0, za_iload 1 2)) (ze_iload rfl)
  replace b := zz_fw b T (rfl : zz_ent zP_254 2 = (0, za_iload 2 3)) (ze_iload rfl)
  replace b := zz_fSi b TK (rfl : zz_ent zP_254 3 = (0, za_callS 266 2 6)) (zL_max hG hP h) rfl rfl (zz_lb rfl)
  replace b := zz_fw b T (rfl : zz_ent zP_254 6 = (0, za_iadd 7)) (ze_iadd (by decide : _ = Int32.ofNat 34))
  replace b := zz_fw b T (rfl : zz_ent zP_254 7 = (0, za_istore 3 8)) (ze_istore (lv' := [(0, _), (1, _), (2, _)]) rfl)
  replace b := zz_fw b T (rfl : zz_ent zP_254 8 = (0, za_const (.int (Int32.ofNat 0)) 9)) (ze_const)
  replace b := zz_fw b T (rfl : zz_ent zP_254 9 = (0, za_iload 3 10)) (ze_iload rfl)
  replace b := zz_fw b T (rfl : zz_ent zP_254 10 = (0, za_icmp_ge 21 13)) (ze_icmp_ge_f (by decide))
  replace b := zz_fw b T (rfl : zz_ent zP_254 13 = (0, za_iload 3 14)) (ze_iload rfl)
  replace b := zz_fw b T (rfl : zz_ent zP_254 14 = (0, za_const (.int (Int32.ofNat 2147483639)) 16)) (ze_const)
  replace b := zz_fw b T (rfl : zz_ent zP_254 16 = (0, za_icmp_gt 21 19)) (ze_icmp_gt_f (by decide))
  replace b := zz_fw b T (rfl : zz_ent zP_254 19 = (0, za_iload 3 20)) (ze_iload rfl)
  have m := zz_M_B (yn := zYN) (cn := zCN) (ml := zMQ) (rt := zRT) (y := 254) (as := [.int (Int32.ofNat 16), .int p0, .int (Int32.ofNat 18)]) rfl rfl rfl rfl rfl (by decide +kernel) (zz_lb rfl) (zz_lb rfl) (zz_end_i (zr_254.2.1 20 rfl).1) b
  exact m
theorem zL_isL {l : Launch} {D : va_G} {cy : Nat → ClassId} {z0 : Nat} {sp : Nat → Nat} {G : State → Prop} {d : Nat} (hG : zz_GF z0 G) (hP : ∀ U, G U → zz_GD zS zS2 zLg z0 sp U) {v N M c : Nat} {w : zz_W} (r : zBr v N M c w) : zz_M l zTs D zcl zFK cy z0 sp (zTys cy) G zYN zCN zMQ zRT (d + 1) 200 [.ref 16] w [.int (Int32.ofNat 1)] w := by
  have T := zt_200 (l := l) (D := D) (cy := cy) (z0 := z0) (sp := sp) (G := G) (d := d) zz_k0_KS hG hP
  have TK := fun (K : zz_K) (h : zz_KS l D zcl zFK cy z0 sp (zTys cy) G zYN (fun y => Cond.code (zYN y) (zCN y) (zMQ y) (zRT y) :: zTs) d K) => zt_200 h hG hP
  have b := zz_B_rf (l := l) (Ts := zTs) (D := D) (cl := zcl) (fk := zFK) (cy := cy) (z0 := z0) (sp := sp) (tys := zTys cy) (G := G) (own := "java/lang/AbstractStringBuilder") (mn := "isLatin1") (nL := 1) (cc := prog_15_method_68_code) (d := d) ((0, [(0, .ref 16)], [], w) : zz_F)
  replace b := zz_fw b T (rfl : zz_ent zP_200 0 = (0, za_const (.int (Int32.ofNat 1)) 3)) (ze_const)
  replace b := zz_fw b T (rfl : zz_ent zP_200 3 = (0, za_if_eq 17 6)) (ze_if_eq_f (by decide))
  replace b := zz_fw b T (rfl : zz_ent zP_200 6 = (0, za_aload 0 7)) (ze_aload rfl)
  replace b := zz_fw b T (rfl : zz_ent zP_200 7 = (0, za_getI 13 1 10)) (ze_getI (zBr_16 r) (by decide) (congrArg Int32.ofNat (zBr_co r)))
  replace b := zz_fw b T (rfl : zz_ent zP_200 10 = (0, za_if_ne 17 13)) (ze_if_ne_f (by decide))
  replace b := zz_fw b T (rfl : zz_ent zP_200 13 = (0, za_const (.int (Int32.ofNat 1)) 14)) (ze_const)
  replace b := zz_fw b T (rfl : zz_ent zP_200 14 = (0, za_goto 18)) (ze_goto)
  have m := zz_M_B (yn := zYN) (cn := zCN) (ml := zMQ) (rt := zRT) (y := 200) (as := [.ref 16]) rfl rfl rfl rfl rfl (by decide +kernel) (zz_lb rfl) (zz_lb rfl) (zz_end_z (zr_200.2.2.1 18 rfl).1 (by decide)) b
  exact m
theorem zl_255 : ∀ m, m < 128 → ¬ Int32.ofNat 255 < Int32.ofNat m := by decide +kernel
theorem zL_can {l : Launch} {D : va_G} {cy : Nat → ClassId} {z0 : Nat} {sp : Nat → Nat} {G : State → Prop} {d : Nat} (hG : zz_GF z0 G) (hP : ∀ U, G U → zz_GD zS zS2 zLg z0 sp U) {w : zz_W} {m : Nat} (hm : m < 128) : zz_M l zTs D zcl zFK cy z0 sp (zTys cy) G zYN zCN zMQ zRT (d + 1) 201 [.int (Int32.ofNat m)] w [.int (Int32.ofNat 1)] w := by
  have T := zt_201 (l := l) (D := D) (cy := cy) (z0 := z0) (sp := sp) (G := G) (d := d) zz_k0_KS hG hP
  have TK := fun (K : zz_K) (h : zz_KS l D zcl zFK cy z0 sp (zTys cy) G zYN (fun y => Cond.code (zYN y) (zCN y) (zMQ y) (zRT y) :: zTs) d K) => zt_201 h hG hP
  have b := zz_B_rf (l := l) (Ts := zTs) (D := D) (cl := zcl) (fk := zFK) (cy := cy) (z0 := z0) (sp := sp) (tys := zTys cy) (G := G) (own := "java/lang/StringLatin1") (mn := "canEncode") (nL := 1) (cc := prog_29_method_3_code) (d := d) ((0, [(0, .int (Int32.ofNat m))], [], w) : zz_F)
  replace b := zz_fw b T (rfl : zz_ent zP_201 0 = (0, za_iload 0 1)) (ze_iload rfl)
  replace b := zz_fw b T (rfl : zz_ent zP_201 1 = (0, za_const (.int (Int32.ofNat 255)) 4)) (ze_const)
  replace b := zz_fw b T (rfl : zz_ent zP_201 4 = (0, za_icmp_gt 11 7)) (ze_icmp_gt_f (zl_255 m hm))
  replace b := zz_fw b T (rfl : zz_ent zP_201 7 = (0, za_const (.int (Int32.ofNat 1)) 8)) (ze_const)
  replace b := zz_fw b T (rfl : zz_ent zP_201 8 = (0, za_goto 12)) (ze_goto)
  have m := zz_M_B (yn := zYN) (cn := zCN) (ml := zMQ) (rt := zRT) (y := 201) (as := [.int (Int32.ofNat m)]) rfl rfl rfl rfl rfl (by decide +kernel) (zz_lb rfl) (zz_lb rfl) (zz_end_z (zr_201.2.2.1 12 rfl).1 (by decide)) b
  exact m
theorem zl_c1 : ∀ m, m < 34 → 16 < m → (Int32.ofNat m - Int32.ofNat 16) < Int32.ofNat 18 := by decide +kernel
theorem zl_sh0 (x : Int32) : x <<< (Int32.ofNat 0 &&& 31) = x := by
  show x <<< (0 : Int32) = x
  exact Int32.toBitVec.inj (by simp)
theorem zl_sr0 (x : Int32) : x >>> (Int32.ofNat 0 &&& 31) = x := by
  show x >>> (0 : Int32) = x
  exact Int32.toBitVec.inj (by simp)
theorem zL_ncap {l : Launch} {D : va_G} {cy : Nat → ClassId} {z0 : Nat} {sp : Nat → Nat} {G : State → Prop} {d : Nat} (hG : zz_GF z0 G) (hP : ∀ U, G U → zz_GD zS zS2 zLg z0 sp U) {N M : Nat} {w : zz_W} (r : zBr 17 N M 16 w) {m : Nat} (h1 : m < 34) (h2 : 16 < m) : zz_M l zTs D zcl zFK cy z0 sp (zTys cy) G zYN zCN zMQ zRT (d + 3) 232 [.ref 16, .int (Int32.ofNat m)] w [.int (Int32.ofNat 34)] w := by
  have T := zt_232 (l := l) (D := D) (cy := cy) (z0 := z0) (sp := sp) (G := G) (d := (d + 2)) zz_k0_KS hG hP
  have TK := fun (K : zz_K) (h : zz_KS l D zcl zFK cy z0 sp (zTys cy) G zYN (fun y => Cond.code (zYN y) (zCN y) (zMQ y) (zRT y) :: zTs) (d + 2) K) => zt_232 h hG hP
  have b := zz_B_rf (l := l) (Ts := zTs) (D := D) (cl := zcl) (fk := zFK) (cy := cy) (z0 := z0) (sp := sp) (tys := zTys cy) (G := G) (own := "java/lang/AbstractStringBuilder") (mn := "newCapacity") (nL := 6) (cc := prog_15_method_10_code) (d := (d + 2)) ((0, [(0, .ref 16), (1, .int (Int32.ofNat m))], [], w) : zz_F)
  replace b := zz_fw b T (rfl : zz_ent zP_232 0 = (0, za_aload 0 1)) (ze_aload rfl)
  replace b := zz_fw b T (rfl : zz_ent zP_232 1 = (0, za_getA 13 0 4)) (ze_getA (zBr_16 r) (by decide) (zBr_va r))
  replace b := zz_fw b T (rfl : zz_ent zP_232 4 = (0, za_alen 1 5)) (ze_alen (zBr_V r) (by decide) rfl)
  replace b := zz_fw b T (rfl : zz_ent zP_232 5 = (0, za_istore 2 6)) (ze_istore (lv' := [(0, _), (1, _)]) rfl)
  replace b := zz_fw b T (rfl : zz_ent zP_232 6 = (0, za_iload 1 7)) (ze_iload rfl)
  replace b := zz_fw b T (rfl : zz_ent zP_232 7 = (0, za_aload 0 8)) (ze_aload rfl)
  replace b := zz_fw b T (rfl : zz_ent zP_232 8 = (0, za_getI 13 1 11)) (ze_getI (zBr_16 r) (by decide) (congrArg Int32.ofNat (zBr_co r)))
  replace b := zz_fw b T (rfl : zz_ent zP_232 11 = (0, za_ishl 12)) (ze_ishl (zl_sh0 _))
  replace b := zz_fw b T (rfl : zz_ent zP_232 12 = (0, za_istore 3 13)) (ze_istore (lv' := [(2, _), (0, _), (1, _)]) rfl)
  replace b := zz_fw b T (rfl : zz_ent zP_232 13 = (0, za_iload 3 14)) (ze_iload rfl)
  replace b := zz_fw b T (rfl : zz_ent zP_232 14 = (0, za_iload 2 15)) (ze_iload rfl)
  replace b := zz_fw b T (rfl : zz_ent zP_232 15 = (0, za_isub 16)) (ze_isub rfl)
  replace b := zz_fw b T (rfl : zz_ent zP_232 16 = (0, za_istore 4 18)) (ze_istore (lv' := [(3, _), (2, _), (0, _), (1, _)]) rfl)
  replace b := zz_fw b T (rfl : zz_ent zP_232 18 = (0, za_iload 2 19)) (ze_iload rfl)
  replace b := zz_fw b T (rfl : zz_ent zP_232 19 = (0, za_iload 4 21)) (ze_iload rfl)
  replace b := zz_fw b T (rfl : zz_ent zP_232 21 = (0, za_iload 2 22)) (ze_iload rfl)
  replace b := zz_fw b T (rfl : zz_ent zP_232 22 = (0, za_const (.int (Int32.ofNat 2)) 23)) (ze_const)
  replace b := zz_fw b T (rfl : zz_ent zP_232 23 = (0, za_aload 0 24)) (ze_aload rfl)
  replace b := zz_fw b T (rfl : zz_ent zP_232 24 = (0, za_getI 13 1 27)) (ze_getI (zBr_16 r) (by decide) (congrArg Int32.ofNat (zBr_co r)))
  replace b := zz_fw b T (rfl : zz_ent zP_232 27 = (0, za_ishl 28)) (ze_ishl rfl)
  replace b := zz_fw b T (rfl : zz_ent zP_232 28 = (0, za_iadd 29)) (ze_iadd (by decide : _ = Int32.ofNat 18))
  replace b := zz_fSi b TK (rfl : zz_ent zP_232 29 = (0, za_callS 254 3 32)) (zL_nlen hG hP (zl_c1 m h1 h2)) rfl rfl (zz_lb rfl)
  replace b := zz_fw b T (rfl : zz_ent zP_232 32 = (0, za_istore 5 34)) (ze_istore (lv' := [(4, _), (3, _), (2, _), (0, _), (1, _)]) rfl)
  replace b := zz_fw b T (rfl : zz_ent zP_232 34 = (0, za_iload 5 36)) (ze_iload rfl)
  replace b := zz_fw b T (rfl : zz_ent zP_232 36 = (0, za_const (.int (Int32.ofNat 2147483647)) 38)) (ze_const)
  replace b := zz_fw b T (rfl : zz_ent zP_232 38 = (0, za_icmp_ne 51 41)) (ze_icmp_ne_t (by decide))
  replace b := zz_fw b T (rfl : zz_ent zP_232 51 = (0, za_iload 5 53)) (ze_iload rfl)
  replace b := zz_fw b T (rfl : zz_ent zP_232 53 = (0, za_aload 0 54)) (ze_aload rfl)
  replace b := zz_fw b T (rfl : zz_ent zP_232 54 = (0, za_getI 13 1 57)) (ze_getI (zBr_16 r) (by decide) (congrArg Int32.ofNat (zBr_co r)))
  replace b := zz_fw b T (rfl : zz_ent zP_232 57 = (0, za_ishr 58)) (ze_ishr (by decide : _ = Int32.ofNat 34))
  have m := zz_M_B (yn := zYN) (cn := zCN) (ml := zMQ) (rt := zRT) (y := 232) (as := [.ref 16, .int (Int32.ofNat m)]) rfl rfl rfl rfl rfl (by decide +kernel) (zz_lb rfl) (zz_lb rfl) (zz_end_i (zr_232.2.1 58 rfl).1) b
  exact m
theorem zL_copy {l : Launch} {D : va_G} {cy : Nat → ClassId} {z0 : Nat} {sp : Nat → Nat} {G : State → Prop} {d : Nat} (hG : zz_GF z0 G) (hP : ∀ U, G U → zz_GD zS zS2 zLg z0 sp U) {N M : Nat} {w : zz_W} (r : zBr 17 N M 16 w) : zz_M l zTs D zcl zFK cy z0 sp (zTys cy) G zYN zCN zMQ zRT (d + 2) 233 [.ref 17, .int (Int32.ofNat 34)] w [.ref 329] (zz_up (zz_pu w (0, 1, 34, 0) 34) 329 (0, 1, 34, zz_cp 32 N 0 0 0 16)) := by
  have e1 : w.1 = 329 := by have := r.2.1; omega
  have hi : w.1 < 384 := by omega
  have h329 : zz_has (zz_pu w (0, 1, 34, 0) 34) 329 (0, 1, 34, 0) := by
    have := zz_has_pu (c := (0, 1, 34, 0)) (N := 34) (zBr_sh r) hi
    rw [e1] at this
    exact this
  have T := zt_233 (l := l) (D := D) (cy := cy) (z0 := z0) (sp := sp) (G := G) (d := (d + 1)) zz_k0_KS hG hP
  have TK := fun (K : zz_K) (h : zz_KS l D zcl zFK cy z0 sp (zTys cy) G zYN (fun y => Cond.code (zYN y) (zCN y) (zMQ y) (zRT y) :: zTs) (d + 1) K) => zt_233 h hG hP
  have b := zz_B_rf (l := l) (Ts := zTs) (D := D) (cl := zcl) (fk := zFK) (cy := cy) (z0 := z0) (sp := sp) (tys := zTys cy) (G := G) (own := "java/util/Arrays") (mn := "copyOf") (nL := 3) (cc := prog_34_method_121_code) (d := (d + 1)) ((0, [(0, .ref 17), (1, .int (Int32.ofNat 34))], [], w) : zz_F)
  replace b := zz_fw b T (rfl : zz_ent zP_233 0 = (0, za_iload 1 1)) (ze_iload rfl)
  replace b := zz_fw b T (rfl : zz_ent zP_233 1 = (0, za_aload 0 2)) (ze_aload rfl)
  replace b := zz_fw b T (rfl : zz_ent zP_233 2 = (0, za_alen 1 3)) (ze_alen (zBr_V r) (by decide) rfl)
  replace b := zz_fw b T (rfl : zz_ent zP_233 3 = (0, za_icmp_ne 14 6)) (ze_icmp_ne_t (by decide))
  replace b := zz_fw b T (rfl : zz_ent zP_233 14 = (0, za_iload 1 15)) (ze_iload rfl)
  replace b := zz_fw b T (rfl : zz_ent zP_233 15 = (0, za_newa 0 1 17)) (zl_newa (zBr_sh r) e1 (by decide) (rfl : zz_nI (Int32.ofNat 34) = 34) (by decide))
  replace b := zz_fw b T (rfl : zz_ent zP_233 17 = (0, za_astore 2 18)) (ze_astore (lv' := [(0, _), (1, _)]) rfl)
  replace b := zz_fw b T (rfl : zz_ent zP_233 18 = (0, za_aload 0 19)) (ze_aload rfl)
  replace b := zz_fw b T (rfl : zz_ent zP_233 19 = (0, za_const (.int (Int32.ofNat 0)) 20)) (ze_const)
  replace b := zz_fw b T (rfl : zz_ent zP_233 20 = (0, za_aload 2 21)) (ze_aload rfl)
  replace b := zz_fw b T (rfl : zz_ent zP_233 21 = (0, za_const (.int (Int32.ofNat 0)) 22)) (ze_const)
  replace b := zz_fw b T (rfl : zz_ent zP_233 22 = (0, za_aload 0 23)) (ze_aload rfl)
  replace b := zz_fw b T (rfl : zz_ent zP_233 23 = (0, za_alen 1 24)) (ze_alen (zz_has_old (zBr_sh r) hi (zBr_V r)) (by decide) rfl)
  replace b := zz_fw b T (rfl : zz_ent zP_233 24 = (0, za_iload 1 25)) (ze_iload rfl)
  replace b := zz_fSi b TK (rfl : zz_ent zP_233 25 = (0, za_callS 177 2 28)) (zL_min hG hP (by decide)) rfl rfl (zz_lb rfl)
  replace b := zz_fw b T (rfl : zz_ent zP_233 28 = (0, za_copyB 1 31)) (zl_copyB (zz_pu_sh (zBr_sh r)) (zz_has_old (zBr_sh r) hi (zBr_V r)) h329 (by decide) (by decide) (by decide) (by decide) (zz_lb rfl) (zz_a7_of fun q _ => zBr_b r _))
  replace b := zz_fw b T (rfl : zz_ent zP_233 31 = (0, za_aload 2 32)) (ze_aload rfl)
  have m := zz_M_B (yn := zYN) (cn := zCN) (ml := zMQ) (rt := zRT) (y := 233) (as := [.ref 17, .int (Int32.ofNat 34)]) rfl rfl rfl rfl rfl (by decide +kernel) (zz_lb rfl) (zz_lb rfl) (zz_end_a (zr_233.2.2.2.2.1 32 rfl).1 (Or.inr ⟨_, rfl⟩)) b
  exact m
theorem zl_c2 : ∀ c, c < 64 → ∀ m, m < 64 → m ≤ c → Int32.ofNat m - Int32.ofNat c ≤ 0 := by decide +kernel
theorem zl_c3 : ∀ m, m < 34 → 16 < m → ¬ (Int32.ofNat m - Int32.ofNat 16 ≤ 0) := by decide +kernel
theorem zL_ens0 {l : Launch} {D : va_G} {cy : Nat → ClassId} {z0 : Nat} {sp : Nat → Nat} {G : State → Prop} {d : Nat} (hG : zz_GF z0 G) (hP : ∀ U, G U → zz_GD zS zS2 zLg z0 sp U) {v N M c : Nat} {w : zz_W} (r : zBr v N M c w) {m : Nat} (h : m ≤ c) : zz_M l zTs D zcl zFK cy z0 sp (zTys cy) G zYN zCN zMQ zRT (d + 4) 199 [.ref 16, .int (Int32.ofNat m)] w [] w := by
  have T := zt_199 (l := l) (D := D) (cy := cy) (z0 := z0) (sp := sp) (G := G) (d := (d + 3)) zz_k0_KS hG hP
  have TK := fun (K : zz_K) (h : zz_KS l D zcl zFK cy z0 sp (zTys cy) G zYN (fun y => Cond.code (zYN y) (zCN y) (zMQ y) (zRT y) :: zTs) (d + 3) K) => zt_199 h hG hP
  have b := zz_B_rf (l := l) (Ts := zTs) (D := D) (cl := zcl) (fk := zFK) (cy := cy) (z0 := z0) (sp := sp) (tys := zTys cy) (G := G) (own := "java/lang/AbstractStringBuilder") (mn := "ensureCapacityInternal") (nL := 3) (cc := prog_15_method_9_code) (d := (d + 3)) ((0, [(0, .ref 16), (1, .int (Int32.ofNat m))], [], w) : zz_F)
  replace b := zz_fw b T (rfl : zz_ent zP_199 0 = (0, za_aload 0 1)) (ze_aload rfl)
  replace b := zz_fw b T (rfl : zz_ent zP_199 1 = (0, za_getA 13 0 4)) (ze_getA (zBr_16 r) (by decide) (zBr_va r))
  replace b := zz_fw b T (rfl : zz_ent zP_199 4 = (0, za_alen 1 5)) (ze_alen (zBr_V r) (by decide) rfl)
  replace b := zz_fw b T (rfl : zz_ent zP_199 5 = (0, za_aload 0 6)) (ze_aload rfl)
  replace b := zz_fw b T (rfl : zz_ent zP_199 6 = (0, za_getI 13 1 9)) (ze_getI (zBr_16 r) (by decide) (congrArg Int32.ofNat (zBr_co r)))
  replace b := zz_fw b T (rfl : zz_ent zP_199 9 = (0, za_ishr 10)) (ze_ishr (zl_sr0 _))
  replace b := zz_fw b T (rfl : zz_ent zP_199 10 = (0, za_istore 2 11)) (ze_istore (lv' := [(0, _), (1, _)]) rfl)
  replace b := zz_fw b T (rfl : zz_ent zP_199 11 = (0, za_iload 1 12)) (ze_iload rfl)
  replace b := zz_fw b T (rfl : zz_ent zP_199 12 = (0, za_iload 2 13)) (ze_iload rfl)
  replace b := zz_fw b T (rfl : zz_ent zP_199 13 = (0, za_isub 14)) (ze_isub rfl)
  replace b := zz_fw b T (rfl : zz_ent zP_199 14 = (0, za_if_le 38 17)) (ze_if_le_t (zl_c2 c (by have := zBr_c r; omega) m (by have := zBr_c r; omega) h))
  have m := zz_M_B (yn := zYN) (cn := zCN) (ml := zMQ) (rt := zRT) (y := 199) (as := [.ref 16, .int (Int32.ofNat m)]) rfl rfl rfl rfl rfl (by decide +kernel) (zz_lb rfl) (zz_lb rfl) (zz_end_v (zr_199.1 38 rfl).1) b
  exact m
theorem zL_ens1 {l : Launch} {D : va_G} {cy : Nat → ClassId} {z0 : Nat} {sp : Nat → Nat} {G : State → Prop} {d : Nat} (hG : zz_GF z0 G) (hP : ∀ U, G U → zz_GD zS zS2 zLg z0 sp U) {N M : Nat} {w : zz_W} (r : zBr 17 N M 16 w) {m : Nat} (h1 : m < 34) (h2 : 16 < m) : ∃ w', zz_M l zTs D zcl zFK cy z0 sp (zTys cy) G zYN zCN zMQ zRT (d + 4) 199 [.ref 16, .int (Int32.ofNat m)] w [] w' ∧ zBr 329 (zz_cp 32 N 0 0 0 16) (zz_to 64 M 0 (329 + 1)) 34 w' := by
  have hi : w.1 < 384 := by have := r.2.1; omega
  have T := zt_199 (l := l) (D := D) (cy := cy) (z0 := z0) (sp := sp) (G := G) (d := (d + 3)) zz_k0_KS hG hP
  have TK := fun (K : zz_K) (h : zz_KS l D zcl zFK cy z0 sp (zTys cy) G zYN (fun y => Cond.code (zYN y) (zCN y) (zMQ y) (zRT y) :: zTs) (d + 3) K) => zt_199 h hG hP
  have b := zz_B_rf (l := l) (Ts := zTs) (D := D) (cl := zcl) (fk := zFK) (cy := cy) (z0 := z0) (sp := sp) (tys := zTys cy) (G := G) (own := "java/lang/AbstractStringBuilder") (mn := "ensureCapacityInternal") (nL := 3) (cc := prog_15_method_9_code) (d := (d + 3)) ((0, [(0, .ref 16), (1, .int (Int32.ofNat m))], [], w) : zz_F)
  replace b := zz_fw b T (rfl : zz_ent zP_199 0 = (0, za_aload 0 1)) (ze_aload rfl)
  replace b := zz_fw b T (rfl : zz_ent zP_199 1 = (0, za_getA 13 0 4)) (ze_getA (zBr_16 r) (by decide) (zBr_va r))
  replace b := zz_fw b T (rfl : zz_ent zP_199 4 = (0, za_alen 1 5)) (ze_alen (zBr_V r) (by decide) rfl)
  replace b := zz_fw b T (rfl : zz_ent zP_199 5 = (0, za_aload 0 6)) (ze_aload rfl)
  replace b := zz_fw b T (rfl : zz_ent zP_199 6 = (0, za_getI 13 1 9)) (ze_getI (zBr_16 r) (by decide) (congrArg Int32.ofNat (zBr_co r)))
  replace b := zz_fw b T (rfl : zz_ent zP_199 9 = (0, za_ishr 10)) (ze_ishr (zl_sr0 _))
  replace b := zz_fw b T (rfl : zz_ent zP_199 10 = (0, za_istore 2 11)) (ze_istore (lv' := [(0, _), (1, _)]) rfl)
  replace b := zz_fw b T (rfl : zz_ent zP_199 11 = (0, za_iload 1 12)) (ze_iload rfl)
  replace b := zz_fw b T (rfl : zz_ent zP_199 12 = (0, za_iload 2 13)) (ze_iload rfl)
  replace b := zz_fw b T (rfl : zz_ent zP_199 13 = (0, za_isub 14)) (ze_isub rfl)
  replace b := zz_fw b T (rfl : zz_ent zP_199 14 = (0, za_if_le 38 17)) (ze_if_le_f (zl_c3 m h1 h2))
  replace b := zz_fw b T (rfl : zz_ent zP_199 17 = (0, za_aload 0 18)) (ze_aload rfl)
  replace b := zz_fw b T (rfl : zz_ent zP_199 18 = (0, za_aload 0 19)) (ze_aload rfl)
  replace b := zz_fw b T (rfl : zz_ent zP_199 19 = (0, za_getA 13 0 22)) (ze_getA (zBr_16 r) (by decide) (zBr_va r))
  replace b := zz_fw b T (rfl : zz_ent zP_199 22 = (0, za_aload 0 23)) (ze_aload rfl)
  replace b := zz_fw b T (rfl : zz_ent zP_199 23 = (0, za_iload 1 24)) (ze_iload rfl)
  replace b := zz_fVi b TK (rfl : zz_ent zP_199 24 = (0, za_callV 13 232 1 27)) (zL_ncap hG hP r h1 h2) rfl rfl (zz_has_c (zBr_16 r)) (zz_lb rfl)
  replace b := zz_fw b T (rfl : zz_ent zP_199 27 = (0, za_aload 0 28)) (ze_aload rfl)
  replace b := zz_fw b T (rfl : zz_ent zP_199 28 = (0, za_getI 13 1 31)) (ze_getI (zBr_16 r) (by decide) (congrArg Int32.ofNat (zBr_co r)))
  replace b := zz_fw b T (rfl : zz_ent zP_199 31 = (0, za_ishl 32)) (ze_ishl (zl_sh0 _))
  replace b := zz_fSi b TK (rfl : zz_ent zP_199 32 = (0, za_callS 233 2 35)) (zL_copy hG hP r) rfl rfl (zz_lb rfl)
  replace b := zz_fw b T (rfl : zz_ent zP_199 35 = (0, za_putA 13 0 38)) (ze_putA (zz_up_sh (zz_pu_sh (zBr_sh r))) (zz_has_ne (zz_pu_sh (zBr_sh r)) (by decide) (zz_has_old (zBr_sh r) hi (zBr_16 r)) (by decide)) (by decide) (by decide))
  have m := zz_M_B (yn := zYN) (cn := zCN) (ml := zMQ) (rt := zRT) (y := 199) (as := [.ref 16, .int (Int32.ofNat m)]) rfl rfl rfl rfl rfl (by decide +kernel) (zz_lb rfl) (zz_lb rfl) (zz_end_v (zr_199.1 38 rfl).1) b
  exact ⟨_, m, zBr_grow r⟩
/-- the row N begins with the text T -/
def zTx (T : List Nat) (N : Nat) : Prop := ∀ j, j < T.length → zz_at 32 N j = T.getD j 0
/-- the class's text is T -/
def zB (T : List Nat) (w : zz_W) : Prop := ∃ v N M c, zBr v N M c w ∧ zz_at 64 M 3 = T.length ∧ T.length ≤ c ∧ zTx T N
theorem zTx_snoc {T : List Nat} {N x : Nat} (h : zTx T N) (hx : x < 2 ^ 32) : zTx (T ++ [x]) (zz_to 32 N T.length x) := by
  intro j hj
  rw [List.length_append, List.length_singleton] at hj
  rw [zz_at_to hx, List.getD_eq_getElem?_getD]
  by_cases e : j = T.length
  · subst e
    rw [if_pos rfl, List.getElem?_append_right (Nat.le_refl _), Nat.sub_self]
    rfl
  · rw [if_neg e, List.getElem?_append_left (by omega), ← List.getD_eq_getElem?_getD]
    exact h j (by omega)
theorem zTx_cp {T : List Nat} {N : Nat} (h : zTx T N) (hT : T.length ≤ 16) : zTx T (zz_cp 32 N 0 0 0 16) := by
  intro j hj
  rw [zz_at_cp, if_pos (by omega), Nat.sub_zero, Nat.zero_add]
  exact h j hj
/-- room for m signs -/
theorem zB_room {l : Launch} {D : va_G} {cy : Nat → ClassId} {z0 : Nat} {sp : Nat → Nat} {G : State → Prop} {d : Nat} (hG : zz_GF z0 G) (hP : ∀ U, G U → zz_GD zS zS2 zLg z0 sp U) {T : List Nat} {w : zz_W} (hB : zB T w) {m : Nat} (hm : m < 34) (hT : T.length ≤ m) : ∃ w' v N M c, zz_M l zTs D zcl zFK cy z0 sp (zTys cy) G zYN zCN zMQ zRT (d + 4) 199 [.ref 16, .int (Int32.ofNat m)] w [] w' ∧ zBr v N M c w' ∧ zz_at 64 M 3 = T.length ∧ m ≤ c ∧ zTx T N := by
  obtain ⟨v, N, M, c, r, hn, hc, hx⟩ := hB
  by_cases h : m ≤ c
  · exact ⟨w, v, N, M, c, zL_ens0 hG hP r h, r, hn, h, hx⟩
  · have e : c = 16 := by have := zBr_c r; omega
    have e2 : v = 17 := by have := r.2.1; omega
    subst e e2
    obtain ⟨w', hM, r'⟩ := zL_ens1 (d := d) (l := l) (D := D) (cy := cy) (sp := sp) hG hP r hm (by omega)
    exact ⟨w', _, _, _, _, hM, r', by rw [zz_at_to (by decide)]; exact hn, by omega, zTx_cp hx hc⟩
theorem zL_apC {l : Launch} {D : va_G} {cy : Nat → ClassId} {z0 : Nat} {sp : Nat → Nat} {G : State → Prop} {d : Nat} (hG : zz_GF z0 G) (hP : ∀ U, G U → zz_GD zS zS2 zLg z0 sp U) {T : List Nat} {w : zz_W} (hB : zB T w) (hT : T.length < 33) {x : Nat} (hm : x < 128) : ∃ w', zz_M l zTs D zcl zFK cy z0 sp (zTys cy) G zYN zCN zMQ zRT (d + 5) 170 [.ref 16, .int (Int32.ofNat x)] w [.ref 16] w' ∧ zB (T ++ [x]) w' := by
  have hB0 := hB
  obtain ⟨v0, N0, M0, c0, r0, hn0, hc0, hx0⟩ := hB0
  have h16 := zBr_16 r0
  have T9 := zt_170 (l := l) (D := D) (cy := cy) (z0 := z0) (sp := sp) (G := G) (d := (d + 4)) zz_k0_KS hG hP
  have TK := fun (K : zz_K) (h : zz_KS l D zcl zFK cy z0 sp (zTys cy) G zYN (fun y => Cond.code (zYN y) (zCN y) (zMQ y) (zRT y) :: zTs) (d + 4) K) => zt_170 h hG hP
  have b := zz_B_rf (l := l) (Ts := zTs) (D := D) (cl := zcl) (fk := zFK) (cy := cy) (z0 := z0) (sp := sp) (tys := zTys cy) (G := G) (own := "java/lang/AbstractStringBuilder") (mn := "append") (nL := 2) (cc := prog_15_method_31_code) (d := (d + 4)) ((0, [(0, .ref 16), (1, .int (Int32.ofNat x))], [], w) : zz_F)
  replace b := zz_fw b T9 (rfl : zz_ent zP_170 0 = (0, za_aload 0 1)) (ze_aload rfl)
  replace b := zz_fw b T9 (rfl : zz_ent zP_170 1 = (0, za_aload 0 2)) (ze_aload rfl)
  replace b := zz_fw b T9 (rfl : zz_ent zP_170 2 = (0, za_getI 13 3 5)) (ze_getI h16 (by decide) (congrArg Int32.ofNat hn0))
  replace b := zz_fw b T9 (rfl : zz_ent zP_170 5 = (0, za_const (.int (Int32.ofNat 1)) 6)) (ze_const)
  replace b := zz_fw b T9 (rfl : zz_ent zP_170 6 = (0, za_iadd 7)) (ze_iadd (Int32.ofNat_add T.length 1).symm)
  obtain ⟨w0, v, N, M, c, hM, r, hn, hc, hx⟩ := zB_room (d := d) (l := l) (D := D) (cy := cy) (sp := sp) hG hP hB (m := T.length + 1) (by omega) (by omega)
  replace b := zz_fVv b TK (rfl : zz_ent zP_170 7 = (0, za_callV 13 199 1 10)) hM rfl rfl (zz_has_c h16) (zz_lb rfl)
  replace b := zz_fw b T9 (rfl : zz_ent zP_170 10 = (0, za_aload 0 11)) (ze_aload rfl)
  replace b := zz_fVi b TK (rfl : zz_ent zP_170 11 = (0, za_callV 13 200 0 14)) (zL_isL hG hP r) rfl rfl (zz_has_c (zBr_16 r)) (zz_lb rfl)
  replace b := zz_fw b T9 (rfl : zz_ent zP_170 14 = (0, za_if_eq 45 17)) (ze_if_eq_f (by decide))
  replace b := zz_fw b T9 (rfl : zz_ent zP_170 17 = (0, za_iload 1 18)) (ze_iload rfl)
  replace b := zz_fSi b TK (rfl : zz_ent zP_170 18 = (0, za_callS 201 1 21)) (zL_can hG hP hm) rfl rfl (zz_lb rfl)
  replace b := zz_fw b T9 (rfl : zz_ent zP_170 21 = (0, za_if_eq 45 24)) (ze_if_eq_f (by decide))
  replace b := zz_fw b T9 (rfl : zz_ent zP_170 24 = (0, za_aload 0 25)) (ze_aload rfl)
  replace b := zz_fw b T9 (rfl : zz_ent zP_170 25 = (0, za_getA 13 0 28)) (ze_getA (zBr_16 r) (by decide) (zBr_va r))
  replace b := zz_fw b T9 (rfl : zz_ent zP_170 28 = (0, za_aload 0 29)) (ze_aload rfl)
  replace b := zz_fw b T9 (rfl : zz_ent zP_170 29 = (0, za_dup 30)) (ze_dup rfl)
  replace b := zz_fw b T9 (rfl : zz_ent zP_170 30 = (0, za_getI 13 3 33)) (ze_getI (zBr_16 r) (by decide) (congrArg Int32.ofNat hn))
  replace b := zz_fw b T9 (rfl : zz_ent zP_170 33 = (0, za_dup_x1 34)) (ze_dup_x1 ⟨rfl, rfl⟩)
  replace b := zz_fw b T9 (rfl : zz_ent zP_170 34 = (0, za_const (.int (Int32.ofNat 1)) 35)) (ze_const)
  replace b := zz_fw b T9 (rfl : zz_ent zP_170 35 = (0, za_iadd 36)) (ze_iadd (Int32.ofNat_add T.length 1).symm)
  replace b := zz_fw b T9 (rfl : zz_ent zP_170 36 = (0, za_putI 13 3 39)) (ze_putI (zBr_sh r) (zBr_16 r) (by decide))
  have r1 := zBr_cnt r (m := (T.length + 1)) (by omega)
  replace b := zz_fw b T9 (rfl : zz_ent zP_170 39 = (0, za_iload 1 40)) (ze_iload rfl)
  replace b := zz_fw b T9 (rfl : zz_ent zP_170 40 = (0, za_i2b 41)) (ze_i2b (zz_i8 x hm))
  replace b := zz_fw b T9 (rfl : zz_ent zP_170 41 = (0, za_astB 1 42)) (ze_astB (zBr_sh r1) (zBr_V r1) (by rw [zz_nI_ofNat (by omega)]; omega) (by rcases zBr_c r1 with h | h <;> rw [h] <;> decide))
  have r2 := zBr_wr r1 (P := T.length) (m := x) (by omega) (by omega)
  replace b := zz_fw b T9 (rfl : zz_ent zP_170 42 = (0, za_goto 75)) (ze_goto)
  replace b := zz_fw b T9 (rfl : zz_ent zP_170 75 = (0, za_aload 0 76)) (ze_aload rfl)
  have m := zz_M_B (yn := zYN) (cn := zCN) (ml := zMQ) (rt := zRT) (y := 170) (as := [.ref 16, .int (Int32.ofNat x)]) rfl rfl rfl rfl rfl (by decide +kernel) (zz_lb rfl) (zz_lb rfl) (zz_end_a (zr_170.2.2.2.2.1 76 rfl).1 (Or.inl ⟨_, rfl⟩)) b
  exact ⟨_, m, _, _, _, _, r2, by rw [zz_gs2 (by omega), List.length_append]; rfl, by rw [List.length_append]; exact hc, zTx_snoc hx (by omega)⟩
theorem zB_ic {T : List Nat} {w : zz_W} (hB : zB T w) : zz_ic w 16 13 = true := by
  obtain ⟨v, N, M, c, r, -⟩ := hB
  exact zz_has_c (zBr_16 r)
theorem zL_apc {l : Launch} {D : va_G} {cy : Nat → ClassId} {z0 : Nat} {sp : Nat → Nat} {G : State → Prop} {d : Nat} (hG : zz_GF z0 G) (hP : ∀ U, G U → zz_GD zS zS2 zLg z0 sp U) {T : List Nat} {w : zz_W} (hB : zB T w) (hT : T.length < 33) {x : Nat} (hm : x < 128) : ∃ w', zz_M l zTs D zcl zFK cy z0 sp (zTys cy) G zYN zCN zMQ zRT (d + 6) 125 [.ref 16, .int (Int32.ofNat x)] w [.ref 16] w' ∧ zB (T ++ [x]) w' := by
  have T9 := zt_125 (l := l) (D := D) (cy := cy) (z0 := z0) (sp := sp) (G := G) (d := (d + 5)) zz_k0_KS hG hP
  have TK := fun (K : zz_K) (h : zz_KS l D zcl zFK cy z0 sp (zTys cy) G zYN (fun y => Cond.code (zYN y) (zCN y) (zMQ y) (zRT y) :: zTs) (d + 5) K) => zt_125 h hG hP
  have b := zz_B_rf (l := l) (Ts := zTs) (D := D) (cl := zcl) (fk := zFK) (cy := cy) (z0 := z0) (sp := sp) (tys := zTys cy) (G := G) (own := "java/lang/StringBuilder") (mn := "append") (nL := 2) (cc := prog_27_method_14_code) (d := (d + 5)) ((0, [(0, .ref 16), (1, .int (Int32.ofNat x))], [], w) : zz_F)
  replace b := zz_fw b T9 (rfl : zz_ent zP_125 0 = (0, za_aload 0 1)) (ze_aload rfl)
  replace b := zz_fw b T9 (rfl : zz_ent zP_125 1 = (0, za_iload 1 2)) (ze_iload rfl)
  obtain ⟨w0, hM, hB1⟩ := zL_apC (d := d) (l := l) (D := D) (cy := cy) (sp := sp) hG hP hB hT hm
  replace b := zz_fVi b TK (rfl : zz_ent zP_125 2 = (0, za_callV 13 170 1 5)) hM rfl rfl (zB_ic hB) (zz_lb rfl)
  replace b := zz_fw b T9 (rfl : zz_ent zP_125 5 = (0, za_pop 6)) (ze_pop rfl)
  replace b := zz_fw b T9 (rfl : zz_ent zP_125 6 = (0, za_aload 0 7)) (ze_aload rfl)
  have m := zz_M_B (yn := zYN) (cn := zCN) (ml := zMQ) (rt := zRT) (y := 125) (as := [.ref 16, .int (Int32.ofNat x)]) rfl rfl rfl rfl rfl (by decide +kernel) (zz_lb rfl) (zz_lb rfl) (zz_end_a (zr_125.2.2.2.2.1 7 rfl).1 (Or.inl ⟨_, rfl⟩)) b
  exact ⟨_, m, hB1⟩
