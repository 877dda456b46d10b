/-! words as texts, the class, by program -/
noncomputable def zc_4 : Nat := (zz_g zW3 4).2.2.2
theorem zh_4 : zz_has zW3 4 (3, 9, 9, zc_4) := ⟨by decide +kernel, by decide, rfl⟩
theorem zv_4_0 : zz_at 64 zc_4 0 = 6 := by decide +kernel
noncomputable def zc_5 : Nat := (zz_g zW3 5).2.2.2
theorem zh_5 : zz_has zW3 5 (1, 3, 4000, zc_5) := ⟨by decide +kernel, by decide, rfl⟩
noncomputable def zc_12 : Nat := (zz_g zW3 12).2.2.2
theorem zh_12 : zz_has zW3 12 (3, 3, 5, zc_12) := ⟨by decide +kernel, by decide, rfl⟩
theorem zv_12_0 : zz_at 64 zc_12 0 = 5 := by decide +kernel
theorem zv_12_1 : zz_at 64 zc_12 1 = 14 := by decide +kernel
theorem zv_12_2 : zz_at 64 zc_12 2 = 15 := by decide +kernel
theorem zv_12_3 : zz_at 64 zc_12 3 = 16 := by decide +kernel
theorem zv_12_4 : zz_at 64 zc_12 4 = 17 := by decide +kernel
noncomputable def zc_13 : Nat := (zz_g zW3 13).2.2.2
theorem zh_13 : zz_has zW3 13 (0, 0, 64, zc_13) := ⟨by decide +kernel, by decide, rfl⟩
noncomputable def zc_14 : Nat := (zz_g zW3 14).2.2.2
theorem zh_14 : zz_has zW3 14 (0, 0, 64, zc_14) := ⟨by decide +kernel, by decide, rfl⟩
noncomputable def zc_15 : Nat := (zz_g zW3 15).2.2.2
theorem zh_15 : zz_has zW3 15 (0, 0, 32, zc_15) := ⟨by decide +kernel, by decide, rfl⟩
/-- bits of a word: k bits from bit s on -/
def zF (p : Int32) (s k : Nat) : Nat := zz_nI p / 2 ^ s % 2 ^ k
theorem zF_lt (p : Int32) (s k : Nat) : zF p s k < 2 ^ k := Nat.mod_lt _ (Nat.two_pow_pos k)
theorem zI_eq {x y : Int32} (h : zz_nI x = zz_nI y) : x = y := by rw [← zz_nI_of x, ← zz_nI_of y, h]
theorem zI_and (x y : Int32) : zz_nI (x &&& y) = zz_nI x &&& zz_nI y := by
  unfold zz_nI
  rw [Int32.toBitVec_and, BitVec.toNat_and]
theorem zI_shr (x : Int32) (s : Nat) (h : s < 32) : zz_nI (x.toUInt32 >>> ((Int32.ofNat s).toUInt32 &&& Int32.toUInt32 31)).toInt32 = zz_nI x / 2 ^ s := by
  have e : ((Int32.ofNat s).toUInt32 &&& Int32.toUInt32 31).toNat = s := by
    revert s
    decide
  show (x.toUInt32 >>> ((Int32.ofNat s).toUInt32 &&& Int32.toUInt32 31)).toNat = _
  rw [UInt32.toNat_shiftRight, e, Nat.mod_eq_of_lt h, Nat.shiftRight_eq_div_pow]
  rfl
theorem zF_eq (p : Int32) (s k m : Nat) (h : s < 32) (hk : k ≤ 31) (hm : m = 2 ^ k - 1) : (p.toUInt32 >>> ((Int32.ofNat s).toUInt32 &&& Int32.toUInt32 31)).toInt32 &&& Int32.ofNat m = Int32.ofNat (zF p s k) := by
  have h2 : 2 ^ k ≤ 2 ^ 31 := Nat.pow_le_pow_right (by decide) hk
  have h3 := Nat.two_pow_pos k
  have h4 := zF_lt p s k
  apply zI_eq
  rw [zI_and, zI_shr p s h, zz_nI_ofNat (by omega), hm, Nat.and_two_pow_sub_one_eq_mod, zz_nI_ofNat (by omega)]
  rfl
theorem zF_lo (p : Int32) (k m : Nat) (hk : k ≤ 31) (hm : m = 2 ^ k - 1) : p &&& Int32.ofNat m = Int32.ofNat (zF p 0 k) := by
  have h2 : 2 ^ k ≤ 2 ^ 31 := Nat.pow_le_pow_right (by decide) hk
  have h3 := Nat.two_pow_pos k
  have h4 := zF_lt p 0 k
  apply zI_eq
  rw [zI_and, zz_nI_ofNat (by omega), hm, Nat.and_two_pow_sub_one_eq_mod, zz_nI_ofNat (by omega)]
  unfold zF
  rw [Nat.pow_zero, Nat.div_one]
theorem zF_hi (p : Int32) : (p.toUInt32 >>> ((Int32.ofNat 26).toUInt32 &&& Int32.toUInt32 31)).toInt32 = Int32.ofNat (zF p 26 6) := by
  have h4 := zF_lt p 26 6
  apply zI_eq
  rw [zI_shr p 26 (by decide), zz_nI_ofNat (by omega)]
  unfold zF
  have := zz_nI_lt p
  omega
/-- the instruction that the class finds by OP, FUNCTION or t, before it looks at what is fixed -/
noncomputable def zcf (p : Int32) : Nat := if zF p 26 6 = 0 then zz_at 32 zc_14 (zF p 0 6) else if zF p 26 6 = 1 then zz_at 32 zc_15 (zF p 16 5) else zz_at 32 zc_13 (zF p 26 6)
/-- the instruction that a word is to the class -/
def zcOk (p : Int32) (f : Nat) : Prop := ∃ fo fx ba, zz_ki zS2 2000001 f = some fo ∧ zz_ki zS2 2000002 fo = some fx ∧ zz_ki zS2 2000000 f = some ba ∧ p &&& Int32.ofNat fx = Int32.ofNat ba
theorem zl_n0 : ∀ n, n < 2 ^ 6 → ¬ n = 0 → ¬ Int32.ofNat n = 0 := by decide +kernel
theorem zl_n1 : ∀ n, n < 2 ^ 6 → ¬ n = 1 → ¬ Int32.ofNat n = Int32.ofNat 1 := by decide +kernel
theorem zl_51 : ∀ f, f < 51 → ¬ Int32.ofNat f < 0 := by decide +kernel
theorem zD_0k {l : Launch} {D : va_G} {cy : Nat → ClassId} {z0 : Nat} {sp : Nat → Nat} {G : State → Prop} {d : Nat} (hG : zz_GF z0 G) (hP : ∀ U, G U → zz_GD zS zS2 zLg z0 sp U) {v N M c : Nat} {w : zz_W} (r : zBr v N M c w) {p0 : Int32} {f : Nat} (ho : zF p0 26 6 = 0) (hf : zz_at 32 zc_14 (zF p0 0 6) = f) (h51 : f < 51) {fo fx ba : Nat} (l1 : fo < 15) (q1 : zz_ki zS2 2000001 f = some fo) (q2 : zz_ki zS2 2000002 fo = some fx) (q3 : zz_ki zS2 2000000 f = some ba) (hq : p0 &&& Int32.ofNat fx = Int32.ofNat ba) : zz_M l zTs D zcl zFK cy z0 sp (zTys cy) G zYN zCN zMQ zRT (d + 1) 122 [.ref 12, .int p0] w [.int (Int32.ofNat f)] w := by
  have T := zt_122 (l := l) (D := D) (cy := cy) (z0 := z0) (sp := sp) (G := G) (d := d) zz_k0_KS hG hP
  have TK := fun (K : zz_K) (h : zz_KS l D zcl zFK cy z0 sp (zTys cy) G zYN (fun y => Cond.code (zYN y) (zCN y) (zMQ y) (zRT y) :: zTs) d K) => zt_122 h hG hP
  have b := zz_B_rf (l := l) (Ts := zTs) (D := D) (cl := zcl) (fk := zFK) (cy := cy) (z0 := z0) (sp := sp) (tys := zTys cy) (G := G) (own := "ToolMill$Codes") (mn := "decode") (nL := 4) (cc := prog_3_method_2_code) (d := d) ((0, [(0, .ref 12), (1, .int p0)], [], w) : zz_F)
  replace b := zz_fw b T (rfl : zz_ent zP_122 0 = (0, za_iload 1 1)) (ze_iload rfl)
  replace b := zz_fw b T (rfl : zz_ent zP_122 1 = (0, za_const (.int (Int32.ofNat 26)) 3)) (ze_const)
  replace b := zz_fw b T (rfl : zz_ent zP_122 3 = (0, za_iushr 4)) (ze_iushr (zF_hi p0))
  replace b := zz_fw b T (rfl : zz_ent zP_122 4 = (0, za_istore 2 5)) (ze_istore (lv' := [(0, _), (1, _)]) rfl)
  replace b := zz_fw b T (rfl : zz_ent zP_122 5 = (0, za_iload 2 6)) (ze_iload rfl)
  replace b := zz_fw b T (rfl : zz_ent zP_122 6 = (0, za_if_ne 21 9)) (ze_if_ne_f (not_not_intro (by rw [ho]; rfl)))
  replace b := zz_fw b T (rfl : zz_ent zP_122 9 = (0, za_aload 0 10)) (ze_aload rfl)
  replace b := zz_fw b T (rfl : zz_ent zP_122 10 = (0, za_getA 3 2 13)) (ze_getA (zBr_o r zh_12 (by decide) (by decide) (by decide)) (by decide) zv_12_2)
  replace b := zz_fw b T (rfl : zz_ent zP_122 13 = (0, za_iload 1 14)) (ze_iload rfl)
  replace b := zz_fw b T (rfl : zz_ent zP_122 14 = (0, za_const (.int (Int32.ofNat 63)) 16)) (ze_const)
  replace b := zz_fw b T (rfl : zz_ent zP_122 16 = (0, za_iand 17)) (ze_iand (zF_lo p0 6 63 (by decide) rfl))
  replace b := zz_fw b T (rfl : zz_ent zP_122 17 = (0, za_aldI 0 18)) (ze_aldI (zBr_o r zh_14 (by decide) (by decide) (by decide)) (by have := zF_lt p0 0 6; rw [zz_nI_ofNat (by omega)]; omega) (by decide) (by rw [zz_nI_ofNat (by have := zF_lt p0 0 6; omega), hf]))
  replace b := zz_fw b T (rfl : zz_ent zP_122 18 = (0, za_goto 47)) (ze_goto)
  replace b := zz_fw b T (rfl : zz_ent zP_122 47 = (0, za_istore 3 48)) (ze_istore (lv' := [(2, _), (0, _), (1, _)]) rfl)
  replace b := zz_fw b T (rfl : zz_ent zP_122 48 = (0, za_iload 3 49)) (ze_iload rfl)
  replace b := zz_fw b T (rfl : zz_ent zP_122 49 = (0, za_if_lt 75 52)) (ze_if_lt_f (zl_51 f h51))
  replace b := zz_fw b T (rfl : zz_ent zP_122 52 = (0, za_iload 1 53)) (ze_iload rfl)
  replace b := zz_fw b T (rfl : zz_ent zP_122 53 = (0, za_const (.ref 2000002) 56)) (ze_const)
  replace b := zz_fw b T (rfl : zz_ent zP_122 56 = (0, za_const (.ref 2000001) 59)) (ze_const)
  replace b := zz_fw b T (rfl : zz_ent zP_122 59 = (0, za_iload 3 60)) (ze_iload rfl)
  replace b := zz_fw b T (rfl : zz_ent zP_122 60 = (0, za_kl (zz_ki zS2) 61)) (ze_kl (by rw [zz_nI_ofNat (by omega)]; exact q1) rfl)
  replace b := zz_fw b T (rfl : zz_ent zP_122 61 = (0, za_kl (zz_ki zS2) 62)) (ze_kl (by rw [zz_nI_ofNat (by omega)]; exact q2) rfl)
  replace b := zz_fw b T (rfl : zz_ent zP_122 62 = (0, za_iand 63)) (ze_iand rfl)
  replace b := zz_fw b T (rfl : zz_ent zP_122 63 = (0, za_const (.ref 2000000) 66)) (ze_const)
  replace b := zz_fw b T (rfl : zz_ent zP_122 66 = (0, za_iload 3 67)) (ze_iload rfl)
  replace b := zz_fw b T (rfl : zz_ent zP_122 67 = (0, za_kl (zz_ki zS2) 68)) (ze_kl (by rw [zz_nI_ofNat (by omega)]; exact q3) rfl)
  replace b := zz_fw b T (rfl : zz_ent zP_122 68 = (0, za_icmp_ne 75 71)) (ze_icmp_ne_f (not_not_intro hq))
  replace b := zz_fw b T (rfl : zz_ent zP_122 71 = (0, za_iload 3 72)) (ze_iload rfl)
  replace b := zz_fw b T (rfl : zz_ent zP_122 72 = (0, za_goto 76)) (ze_goto)
  have m := zz_M_B (yn := zYN) (cn := zCN) (ml := zMQ) (rt := zRT) (y := 122) (as := [.ref 12, .int p0]) rfl rfl rfl rfl rfl (by decide +kernel) (zz_lb rfl) (zz_lb rfl) (zz_end_i (zr_122.2.1 76 rfl).1) b
  exact m
theorem zD_0x {l : Launch} {D : va_G} {cy : Nat → ClassId} {z0 : Nat} {sp : Nat → Nat} {G : State → Prop} {d : Nat} (hG : zz_GF z0 G) (hP : ∀ U, G U → zz_GD zS zS2 zLg z0 sp U) {v N M c : Nat} {w : zz_W} (r : zBr v N M c w) {p0 : Int32} {f : Nat} (ho : zF p0 26 6 = 0) (hf : zz_at 32 zc_14 (zF p0 0 6) = f) (h51 : f < 51) {fo fx ba : Nat} (l1 : fo < 15) (q1 : zz_ki zS2 2000001 f = some fo) (q2 : zz_ki zS2 2000002 fo = some fx) (q3 : zz_ki zS2 2000000 f = some ba) (hq : ¬ p0 &&& Int32.ofNat fx = Int32.ofNat ba) : zz_M l zTs D zcl zFK cy z0 sp (zTys cy) G zYN zCN zMQ zRT (d + 1) 122 [.ref 12, .int p0] w [.int (Int32.ofNat 4294967295)] w := by
  have T := zt_122 (l := l) (D := D) (cy := cy) (z0 := z0) (sp := sp) (G := G) (d := d) zz_k0_KS hG hP
  have TK := fun (K : zz_K) (h : zz_KS l D zcl zFK cy z0 sp (zTys cy) G zYN (fun y => Cond.code (zYN y) (zCN y) (zMQ y) (zRT y) :: zTs) d K) => zt_122 h hG hP
  have b := zz_B_rf (l := l) (Ts := zTs) (D := D) (cl := zcl) (fk := zFK) (cy := cy) (z0 := z0) (sp := sp) (tys := zTys cy) (G := G) (own := "ToolMill$Codes") (mn := "decode") (nL := 4) (cc := prog_3_method_2_code) (d := d) ((0, [(0, .ref 12), (1, .int p0)], [], w) : zz_F)
  replace b := zz_fw b T (rfl : zz_ent zP_122 0 = (0, za_iload 1 1)) (ze_iload rfl)
  replace b := zz_fw b T (rfl : zz_ent zP_122 1 = (0, za_const (.int (Int32.ofNat 26)) 3)) (ze_const)
  replace b := zz_fw b T (rfl : zz_ent zP_122 3 = (0, za_iushr 4)) (ze_iushr (zF_hi p0))
  replace b := zz_fw b T (rfl : zz_ent zP_122 4 = (0, za_istore 2 5)) (ze_istore (lv' := [(0, _), (1, _)]) rfl)
  replace b := zz_fw b T (rfl : zz_ent zP_122 5 = (0, za_iload 2 6)) (ze_iload rfl)
  replace b := zz_fw b T (rfl : zz_ent zP_122 6 = (0, za_if_ne 21 9)) (ze_if_ne_f (not_not_intro (by rw [ho]; rfl)))
  replace b := zz_fw b T (rfl : zz_ent zP_122 9 = (0, za_aload 0 10)) (ze_aload rfl)
  replace b := zz_fw b T (rfl : zz_ent zP_122 10 = (0, za_getA 3 2 13)) (ze_getA (zBr_o r zh_12 (by decide) (by decide) (by decide)) (by decide) zv_12_2)
  replace b := zz_fw b T (rfl : zz_ent zP_122 13 = (0, za_iload 1 14)) (ze_iload rfl)
  replace b := zz_fw b T (rfl : zz_ent zP_122 14 = (0, za_const (.int (Int32.ofNat 63)) 16)) (ze_const)
  replace b := zz_fw b T (rfl : zz_ent zP_122 16 = (0, za_iand 17)) (ze_iand (zF_lo p0 6 63 (by decide) rfl))
  replace b := zz_fw b T (rfl : zz_ent zP_122 17 = (0, za_aldI 0 18)) (ze_aldI (zBr_o r zh_14 (by decide) (by decide) (by decide)) (by have := zF_lt p0 0 6; rw [zz_nI_ofNat (by omega)]; omega) (by decide) (by rw [zz_nI_ofNat (by have := zF_lt p0 0 6; omega), hf]))
  replace b := zz_fw b T (rfl : zz_ent zP_122 18 = (0, za_goto 47)) (ze_goto)
  replace b := zz_fw b T (rfl : zz_ent zP_122 47 = (0, za_istore 3 48)) (ze_istore (lv' := [(2, _), (0, _), (1, _)]) rfl)
  replace b := zz_fw b T (rfl : zz_ent zP_122 48 = (0, za_iload 3 49)) (ze_iload rfl)
  replace b := zz_fw b T (rfl : zz_ent zP_122 49 = (0, za_if_lt 75 52)) (ze_if_lt_f (zl_51 f h51))
  replace b := zz_fw b T (rfl : zz_ent zP_122 52 = (0, za_iload 1 53)) (ze_iload rfl)
  replace b := zz_fw b T (rfl : zz_ent zP_122 53 = (0, za_const (.ref 2000002) 56)) (ze_const)
  replace b := zz_fw b T (rfl : zz_ent zP_122 56 = (0, za_const (.ref 2000001) 59)) (ze_const)
  replace b := zz_fw b T (rfl : zz_ent zP_122 59 = (0, za_iload 3 60)) (ze_iload rfl)
  replace b := zz_fw b T (rfl : zz_ent zP_122 60 = (0, za_kl (zz_ki zS2) 61)) (ze_kl (by rw [zz_nI_ofNat (by omega)]; exact q1) rfl)
  replace b := zz_fw b T (rfl : zz_ent zP_122 61 = (0, za_kl (zz_ki zS2) 62)) (ze_kl (by rw [zz_nI_ofNat (by omega)]; exact q2) rfl)
  replace b := zz_fw b T (rfl : zz_ent zP_122 62 = (0, za_iand 63)) (ze_iand rfl)
  replace b := zz_fw b T (rfl : zz_ent zP_122 63 = (0, za_const (.ref 2000000) 66)) (ze_const)
  replace b := zz_fw b T (rfl : zz_ent zP_122 66 = (0, za_iload 3 67)) (ze_iload rfl)
  replace b := zz_fw b T (rfl : zz_ent zP_122 67 = (0, za_kl (zz_ki zS2) 68)) (ze_kl (by rw [zz_nI_ofNat (by omega)]; exact q3) rfl)
  replace b := zz_fw b T (rfl : zz_ent zP_122 68 = (0, za_icmp_ne 75 71)) (ze_icmp_ne_t hq)
  replace b := zz_fw b T (rfl : zz_ent zP_122 75 = (0, za_const (.int (Int32.ofNat 4294967295)) 76)) (ze_const)
  have m := zz_M_B (yn := zYN) (cn := zCN) (ml := zMQ) (rt := zRT) (y := 122) (as := [.ref 12, .int p0]) rfl rfl rfl rfl rfl (by decide +kernel) (zz_lb rfl) (zz_lb rfl) (zz_end_i (zr_122.2.1 76 rfl).1) b
  exact m
theorem zD_0n {l : Launch} {D : va_G} {cy : Nat → ClassId} {z0 : Nat} {sp : Nat → Nat} {G : State → Prop} {d : Nat} (hG : zz_GF z0 G) (hP : ∀ U, G U → zz_GD zS zS2 zLg z0 sp U) {v N M c : Nat} {w : zz_W} (r : zBr v N M c w) {p0 : Int32} {f : Nat} (ho : zF p0 26 6 = 0) (hf : zz_at 32 zc_14 (zF p0 0 6) = f) (hn : f = 4294967295) : zz_M l zTs D zcl zFK cy z0 sp (zTys cy) G zYN zCN zMQ zRT (d + 1) 122 [.ref 12, .int p0] w [.int (Int32.ofNat 4294967295)] w := by
  have T := zt_122 (l := l) (D := D) (cy := cy) (z0 := z0) (sp := sp) (G := G) (d := d) zz_k0_KS hG hP
  have TK := fun (K : zz_K) (h : zz_KS l D zcl zFK cy z0 sp (zTys cy) G zYN (fun y => Cond.code (zYN y) (zCN y) (zMQ y) (zRT y) :: zTs) d K) => zt_122 h hG hP
  have b := zz_B_rf (l := l) (Ts := zTs) (D := D) (cl := zcl) (fk := zFK) (cy := cy) (z0 := z0) (sp := sp) (tys := zTys cy) (G := G) (own := "ToolMill$Codes") (mn := "decode") (nL := 4) (cc := prog_3_method_2_code) (d := d) ((0, [(0, .ref 12), (1, .int p0)], [], w) : zz_F)
  replace b := zz_fw b T (rfl : zz_ent zP_122 0 = (0, za_iload 1 1)) (ze_iload rfl)
  replace b := zz_fw b T (rfl : zz_ent zP_122 1 = (0, za_const (.int (Int32.ofNat 26)) 3)) (ze_const)
  replace b := zz_fw b T (rfl : zz_ent zP_122 3 = (0, za_iushr 4)) (ze_iushr (zF_hi p0))
  replace b := zz_fw b T (rfl : zz_ent zP_122 4 = (0, za_istore 2 5)) (ze_istore (lv' := [(0, _), (1, _)]) rfl)
  replace b := zz_fw b T (rfl : zz_ent zP_122 5 = (0, za_iload 2 6)) (ze_iload rfl)
  replace b := zz_fw b T (rfl : zz_ent zP_122 6 = (0, za_if_ne 21 9)) (ze_if_ne_f (not_not_intro (by rw [ho]; rfl)))
  replace b := zz_fw b T (rfl : zz_ent zP_122 9 = (0, za_aload 0 10)) (ze_aload rfl)
  replace b := zz_fw b T (rfl : zz_ent zP_122 10 = (0, za_getA 3 2 13)) (ze_getA (zBr_o r zh_12 (by decide) (by decide) (by decide)) (by decide) zv_12_2)
  replace b := zz_fw b T (rfl : zz_ent zP_122 13 = (0, za_iload 1 14)) (ze_iload rfl)
  replace b := zz_fw b T (rfl : zz_ent zP_122 14 = (0, za_const (.int (Int32.ofNat 63)) 16)) (ze_const)
  replace b := zz_fw b T (rfl : zz_ent zP_122 16 = (0, za_iand 17)) (ze_iand (zF_lo p0 6 63 (by decide) rfl))
  replace b := zz_fw b T (rfl : zz_ent zP_122 17 = (0, za_aldI 0 18)) (ze_aldI (zBr_o r zh_14 (by decide) (by decide) (by decide)) (by have := zF_lt p0 0 6; rw [zz_nI_ofNat (by omega)]; omega) (by decide) (by rw [zz_nI_ofNat (by have := zF_lt p0 0 6; omega), hf]))
  replace b := zz_fw b T (rfl : zz_ent zP_122 18 = (0, za_goto 47)) (ze_goto)
  replace b := zz_fw b T (rfl : zz_ent zP_122 47 = (0, za_istore 3 48)) (ze_istore (lv' := [(2, _), (0, _), (1, _)]) rfl)
  replace b := zz_fw b T (rfl : zz_ent zP_122 48 = (0, za_iload 3 49)) (ze_iload rfl)
  replace b := zz_fw b T (rfl : zz_ent zP_122 49 = (0, za_if_lt 75 52)) (ze_if_lt_t (by rw [hn]; decide))
  replace b := zz_fw b T (rfl : zz_ent zP_122 75 = (0, za_const (.int (Int32.ofNat 4294967295)) 76)) (ze_const)
  have m := zz_M_B (yn := zYN) (cn := zCN) (ml := zMQ) (rt := zRT) (y := 122) (as := [.ref 12, .int p0]) rfl rfl rfl rfl rfl (by decide +kernel) (zz_lb rfl) (zz_lb rfl) (zz_end_i (zr_122.2.1 76 rfl).1) b
  exact m
theorem zD_1k {l : Launch} {D : va_G} {cy : Nat → ClassId} {z0 : Nat} {sp : Nat → Nat} {G : State → Prop} {d : Nat} (hG : zz_GF z0 G) (hP : ∀ U, G U → zz_GD zS zS2 zLg z0 sp U) {v N M c : Nat} {w : zz_W} (r : zBr v N M c w) {p0 : Int32} {f : Nat} (ho : zF p0 26 6 = 1) (hf : zz_at 32 zc_15 (zF p0 16 5) = f) (h51 : f < 51) {fo fx ba : Nat} (l1 : fo < 15) (q1 : zz_ki zS2 2000001 f = some fo) (q2 : zz_ki zS2 2000002 fo = some fx) (q3 : zz_ki zS2 2000000 f = some ba) (hq : p0 &&& Int32.ofNat fx = Int32.ofNat ba) : zz_M l zTs D zcl zFK cy z0 sp (zTys cy) G zYN zCN zMQ zRT (d + 1) 122 [.ref 12, .int p0] w [.int (Int32.ofNat f)] w := by
  have T := zt_122 (l := l) (D := D) (cy := cy) (z0 := z0) (sp := sp) (G := G) (d := d) zz_k0_KS hG hP
  have TK := fun (K : zz_K) (h : zz_KS l D zcl zFK cy z0 sp (zTys cy) G zYN (fun y => Cond.code (zYN y) (zCN y) (zMQ y) (zRT y) :: zTs) d K) => zt_122 h hG hP
  have b := zz_B_rf (l := l) (Ts := zTs) (D := D) (cl := zcl) (fk := zFK) (cy := cy) (z0 := z0) (sp := sp) (tys := zTys cy) (G := G) (own := "ToolMill$Codes") (mn := "decode") (nL := 4) (cc := prog_3_method_2_code) (d := d) ((0, [(0, .ref 12), (1, .int p0)], [], w) : zz_F)
  replace b := zz_fw b T (rfl : zz_ent zP_122 0 = (0, za_iload 1 1)) (ze_iload rfl)
  replace b := zz_fw b T (rfl : zz_ent zP_122 1 = (0, za_const (.int (Int32.ofNat 26)) 3)) (ze_const)
  replace b := zz_fw b T (rfl : zz_ent zP_122 3 = (0, za_iushr 4)) (ze_iushr (zF_hi p0))
  replace b := zz_fw b T (rfl : zz_ent zP_122 4 = (0, za_istore 2 5)) (ze_istore (lv' := [(0, _), (1, _)]) rfl)
  replace b := zz_fw b T (rfl : zz_ent zP_122 5 = (0, za_iload 2 6)) (ze_iload rfl)
  replace b := zz_fw b T (rfl : zz_ent zP_122 6 = (0, za_if_ne 21 9)) (ze_if_ne_t (by rw [ho]; decide))
  replace b := zz_fw b T (rfl : zz_ent zP_122 21 = (0, za_iload 2 22)) (ze_iload rfl)
  replace b := zz_fw b T (rfl : zz_ent zP_122 22 = (0, za_const (.int (Int32.ofNat 1)) 23)) (ze_const)
  replace b := zz_fw b T (rfl : zz_ent zP_122 23 = (0, za_icmp_ne 41 26)) (ze_icmp_ne_f (not_not_intro (by rw [ho])))
  replace b := zz_fw b T (rfl : zz_ent zP_122 26 = (0, za_aload 0 27)) (ze_aload rfl)
  replace b := zz_fw b T (rfl : zz_ent zP_122 27 = (0, za_getA 3 3 30)) (ze_getA (zBr_o r zh_12 (by decide) (by decide) (by decide)) (by decide) zv_12_3)
  replace b := zz_fw b T (rfl : zz_ent zP_122 30 = (0, za_iload 1 31)) (ze_iload rfl)
  replace b := zz_fw b T (rfl : zz_ent zP_122 31 = (0, za_const (.int (Int32.ofNat 16)) 33)) (ze_const)
  replace b := zz_fw b T (rfl : zz_ent zP_122 33 = (0, za_iushr 34)) (ze_iushr rfl)
  replace b := zz_fw b T (rfl : zz_ent zP_122 34 = (0, za_const (.int (Int32.ofNat 31)) 36)) (ze_const)
  replace b := zz_fw b T (rfl : zz_ent zP_122 36 = (0, za_iand 37)) (ze_iand (zF_eq p0 16 5 31 (by decide) (by decide) rfl))
  replace b := zz_fw b T (rfl : zz_ent zP_122 37 = (0, za_aldI 0 38)) (ze_aldI (zBr_o r zh_15 (by decide) (by decide) (by decide)) (by have := zF_lt p0 16 5; rw [zz_nI_ofNat (by omega)]; omega) (by decide) (by rw [zz_nI_ofNat (by have := zF_lt p0 16 5; omega), hf]))
  replace b := zz_fw b T (rfl : zz_ent zP_122 38 = (0, za_goto 47)) (ze_goto)
  replace b := zz_fw b T (rfl : zz_ent zP_122 47 = (0, za_istore 3 48)) (ze_istore (lv' := [(2, _), (0, _), (1, _)]) rfl)
  replace b := zz_fw b T (rfl : zz_ent zP_122 48 = (0, za_iload 3 49)) (ze_iload rfl)
  replace b := zz_fw b T (rfl : zz_ent zP_122 49 = (0, za_if_lt 75 52)) (ze_if_lt_f (zl_51 f h51))
  replace b := zz_fw b T (rfl : zz_ent zP_122 52 = (0, za_iload 1 53)) (ze_iload rfl)
  replace b := zz_fw b T (rfl : zz_ent zP_122 53 = (0, za_const (.ref 2000002) 56)) (ze_const)
  replace b := zz_fw b T (rfl : zz_ent zP_122 56 = (0, za_const (.ref 2000001) 59)) (ze_const)
  replace b := zz_fw b T (rfl : zz_ent zP_122 59 = (0, za_iload 3 60)) (ze_iload rfl)
  replace b := zz_fw b T (rfl : zz_ent zP_122 60 = (0, za_kl (zz_ki zS2) 61)) (ze_kl (by rw [zz_nI_ofNat (by omega)]; exact q1) rfl)
  replace b := zz_fw b T (rfl : zz_ent zP_122 61 = (0, za_kl (zz_ki zS2) 62)) (ze_kl (by rw [zz_nI_ofNat (by omega)]; exact q2) rfl)
  replace b := zz_fw b T (rfl : zz_ent zP_122 62 = (0, za_iand 63)) (ze_iand rfl)
  replace b := zz_fw b T (rfl : zz_ent zP_122 63 = (0, za_const (.ref 2000000) 66)) (ze_const)
  replace b := zz_fw b T (rfl : zz_ent zP_122 66 = (0, za_iload 3 67)) (ze_iload rfl)
  replace b := zz_fw b T (rfl : zz_ent zP_122 67 = (0, za_kl (zz_ki zS2) 68)) (ze_kl (by rw [zz_nI_ofNat (by omega)]; exact q3) rfl)
  replace b := zz_fw b T (rfl : zz_ent zP_122 68 = (0, za_icmp_ne 75 71)) (ze_icmp_ne_f (not_not_intro hq))
  replace b := zz_fw b T (rfl : zz_ent zP_122 71 = (0, za_iload 3 72)) (ze_iload rfl)
  replace b := zz_fw b T (rfl : zz_ent zP_122 72 = (0, za_goto 76)) (ze_goto)
  have m := zz_M_B (yn := zYN) (cn := zCN) (ml := zMQ) (rt := zRT) (y := 122) (as := [.ref 12, .int p0]) rfl rfl rfl rfl rfl (by decide +kernel) (zz_lb rfl) (zz_lb rfl) (zz_end_i (zr_122.2.1 76 rfl).1) b
  exact m
theorem zD_1n {l : Launch} {D : va_G} {cy : Nat → ClassId} {z0 : Nat} {sp : Nat → Nat} {G : State → Prop} {d : Nat} (hG : zz_GF z0 G) (hP : ∀ U, G U → zz_GD zS zS2 zLg z0 sp U) {v N M c : Nat} {w : zz_W} (r : zBr v N M c w) {p0 : Int32} {f : Nat} (ho : zF p0 26 6 = 1) (hf : zz_at 32 zc_15 (zF p0 16 5) = f) (hn : f = 4294967295) : zz_M l zTs D zcl zFK cy z0 sp (zTys cy) G zYN zCN zMQ zRT (d + 1) 122 [.ref 12, .int p0] w [.int (Int32.ofNat 4294967295)] w := by
  have T := zt_122 (l := l) (D := D) (cy := cy) (z0 := z0) (sp := sp) (G := G) (d := d) zz_k0_KS hG hP
  have TK := fun (K : zz_K) (h : zz_KS l D zcl zFK cy z0 sp (zTys cy) G zYN (fun y => Cond.code (zYN y) (zCN y) (zMQ y) (zRT y) :: zTs) d K) => zt_122 h hG hP
  have b := zz_B_rf (l := l) (Ts := zTs) (D := D) (cl := zcl) (fk := zFK) (cy := cy) (z0 := z0) (sp := sp) (tys := zTys cy) (G := G) (own := "ToolMill$Codes") (mn := "decode") (nL := 4) (cc := prog_3_method_2_code) (d := d) ((0, [(0, .ref 12), (1, .int p0)], [], w) : zz_F)
  replace b := zz_fw b T (rfl : zz_ent zP_122 0 = (0, za_iload 1 1)) (ze_iload rfl)
  replace b := zz_fw b T (rfl : zz_ent zP_122 1 = (0, za_const (.int (Int32.ofNat 26)) 3)) (ze_const)
  replace b := zz_fw b T (rfl : zz_ent zP_122 3 = (0, za_iushr 4)) (ze_iushr (zF_hi p0))
  replace b := zz_fw b T (rfl : zz_ent zP_122 4 = (0, za_istore 2 5)) (ze_istore (lv' := [(0, _), (1, _)]) rfl)
  replace b := zz_fw b T (rfl : zz_ent zP_122 5 = (0, za_iload 2 6)) (ze_iload rfl)
  replace b := zz_fw b T (rfl : zz_ent zP_122 6 = (0, za_if_ne 21 9)) (ze_if_ne_t (by rw [ho]; decide))
  replace b := zz_fw b T (rfl : zz_ent zP_122 21 = (0, za_iload 2 22)) (ze_iload rfl)
  replace b := zz_fw b T (rfl : zz_ent zP_122 22 = (0, za_const (.int (Int32.ofNat 1)) 23)) (ze_const)
  replace b := zz_fw b T (rfl : zz_ent zP_122 23 = (0, za_icmp_ne 41 26)) (ze_icmp_ne_f (not_not_intro (by rw [ho])))
  replace b := zz_fw b T (rfl : zz_ent zP_122 26 = (0, za_aload 0 27)) (ze_aload rfl)
  replace b := zz_fw b T (rfl : zz_ent zP_122 27 = (0, za_getA 3 3 30)) (ze_getA (zBr_o r zh_12 (by decide) (by decide) (by decide)) (by decide) zv_12_3)
  replace b := zz_fw b T (rfl : zz_ent zP_122 30 = (0, za_iload 1 31)) (ze_iload rfl)
  replace b := zz_fw b T (rfl : zz_ent zP_122 31 = (0, za_const (.int (Int32.ofNat 16)) 33)) (ze_const)
  replace b := zz_fw b T (rfl : zz_ent zP_122 33 = (0, za_iushr 34)) (ze_iushr rfl)
  replace b := zz_fw b T (rfl : zz_ent zP_122 34 = (0, za_const (.int (Int32.ofNat 31)) 36)) (ze_const)
  replace b := zz_fw b T (rfl : zz_ent zP_122 36 = (0, za_iand 37)) (ze_iand (zF_eq p0 16 5 31 (by decide) (by decide) rfl))
  replace b := zz_fw b T (rfl : zz_ent zP_122 37 = (0, za_aldI 0 38)) (ze_aldI (zBr_o r zh_15 (by decide) (by decide) (by decide)) (by have := zF_lt p0 16 5; rw [zz_nI_ofNat (by omega)]; omega) (by decide) (by rw [zz_nI_ofNat (by have := zF_lt p0 16 5; omega), hf]))
  replace b := zz_fw b T (rfl : zz_ent zP_122 38 = (0, za_goto 47)) (ze_goto)
  replace b := zz_fw b T (rfl : zz_ent zP_122 47 = (0, za_istore 3 48)) (ze_istore (lv' := [(2, _), (0, _), (1, _)]) rfl)
  replace b := zz_fw b T (rfl : zz_ent zP_122 48 = (0, za_iload 3 49)) (ze_iload rfl)
  replace b := zz_fw b T (rfl : zz_ent zP_122 49 = (0, za_if_lt 75 52)) (ze_if_lt_t (by rw [hn]; decide))
  replace b := zz_fw b T (rfl : zz_ent zP_122 75 = (0, za_const (.int (Int32.ofNat 4294967295)) 76)) (ze_const)
  have m := zz_M_B (yn := zYN) (cn := zCN) (ml := zMQ) (rt := zRT) (y := 122) (as := [.ref 12, .int p0]) rfl rfl rfl rfl rfl (by decide +kernel) (zz_lb rfl) (zz_lb rfl) (zz_end_i (zr_122.2.1 76 rfl).1) b
  exact m
theorem zD_2k {l : Launch} {D : va_G} {cy : Nat → ClassId} {z0 : Nat} {sp : Nat → Nat} {G : State → Prop} {d : Nat} (hG : zz_GF z0 G) (hP : ∀ U, G U → zz_GD zS zS2 zLg z0 sp U) {v N M c : Nat} {w : zz_W} (r : zBr v N M c w) {p0 : Int32} {f : Nat} (h0 : ¬ zF p0 26 6 = 0) (h1 : ¬ zF p0 26 6 = 1) (hf : zz_at 32 zc_13 (zF p0 26 6) = f) (h51 : f < 51) {fo fx ba : Nat} (l1 : fo < 15) (q1 : zz_ki zS2 2000001 f = some fo) (q2 : zz_ki zS2 2000002 fo = some fx) (q3 : zz_ki zS2 2000000 f = some ba) (hq : p0 &&& Int32.ofNat fx = Int32.ofNat ba) : zz_M l zTs D zcl zFK cy z0 sp (zTys cy) G zYN zCN zMQ zRT (d + 1) 122 [.ref 12, .int p0] w [.int (Int32.ofNat f)] w := by
  have T := zt_122 (l := l) (D := D) (cy := cy) (z0 := z0) (sp := sp) (G := G) (d := d) zz_k0_KS hG hP
  have TK := fun (K : zz_K) (h : zz_KS l D zcl zFK cy z0 sp (zTys cy) G zYN (fun y => Cond.code (zYN y) (zCN y) (zMQ y) (zRT y) :: zTs) d K) => zt_122 h hG hP
  have b := zz_B_rf (l := l) (Ts := zTs) (D := D) (cl := zcl) (fk := zFK) (cy := cy) (z0 := z0) (sp := sp) (tys := zTys cy) (G := G) (own := "ToolMill$Codes") (mn := "decode") (nL := 4) (cc := prog_3_method_2_code) (d := d) ((0, [(0, .ref 12), (1, .int p0)], [], w) : zz_F)
  replace b := zz_fw b T (rfl : zz_ent zP_122 0 = (0, za_iload 1 1)) (ze_iload rfl)
  replace b := zz_fw b T (rfl : zz_ent zP_122 1 = (0, za_const (.int (Int32.ofNat 26)) 3)) (ze_const)
  replace b := zz_fw b T (rfl : zz_ent zP_122 3 = (0, za_iushr 4)) (ze_iushr (zF_hi p0))
  replace b := zz_fw b T (rfl : zz_ent zP_122 4 = (0, za_istore 2 5)) (ze_istore (lv' := [(0, _), (1, _)]) rfl)
  replace b := zz_fw b T (rfl : zz_ent zP_122 5 = (0, za_iload 2 6)) (ze_iload rfl)
  replace b := zz_fw b T (rfl : zz_ent zP_122 6 = (0, za_if_ne 21 9)) (ze_if_ne_t (zl_n0 _ (zF_lt p0 26 6) h0))
  replace b := zz_fw b T (rfl : zz_ent zP_122 21 = (0, za_iload 2 22)) (ze_iload rfl)
  replace b := zz_fw b T (rfl : zz_ent zP_122 22 = (0, za_const (.int (Int32.ofNat 1)) 23)) (ze_const)
  replace b := zz_fw b T (rfl : zz_ent zP_122 23 = (0, za_icmp_ne 41 26)) (ze_icmp_ne_t (zl_n1 _ (zF_lt p0 26 6) h1))
  replace b := zz_fw b T (rfl : zz_ent zP_122 41 = (0, za_aload 0 42)) (ze_aload rfl)
  replace b := zz_fw b T (rfl : zz_ent zP_122 42 = (0, za_getA 3 1 45)) (ze_getA (zBr_o r zh_12 (by decide) (by decide) (by decide)) (by decide) zv_12_1)
  replace b := zz_fw b T (rfl : zz_ent zP_122 45 = (0, za_iload 2 46)) (ze_iload rfl)
  replace b := zz_fw b T (rfl : zz_ent zP_122 46 = (0, za_aldI 0 47)) (ze_aldI (zBr_o r zh_13 (by decide) (by decide) (by decide)) (by have := zF_lt p0 26 6; rw [zz_nI_ofNat (by omega)]; omega) (by decide) (by rw [zz_nI_ofNat (by have := zF_lt p0 26 6; omega), hf]))
  replace b := zz_fw b T (rfl : zz_ent zP_122 47 = (0, za_istore 3 48)) (ze_istore (lv' := [(2, _), (0, _), (1, _)]) rfl)
  replace b := zz_fw b T (rfl : zz_ent zP_122 48 = (0, za_iload 3 49)) (ze_iload rfl)
  replace b := zz_fw b T (rfl : zz_ent zP_122 49 = (0, za_if_lt 75 52)) (ze_if_lt_f (zl_51 f h51))
  replace b := zz_fw b T (rfl : zz_ent zP_122 52 = (0, za_iload 1 53)) (ze_iload rfl)
  replace b := zz_fw b T (rfl : zz_ent zP_122 53 = (0, za_const (.ref 2000002) 56)) (ze_const)
  replace b := zz_fw b T (rfl : zz_ent zP_122 56 = (0, za_const (.ref 2000001) 59)) (ze_const)
  replace b := zz_fw b T (rfl : zz_ent zP_122 59 = (0, za_iload 3 60)) (ze_iload rfl)
  replace b := zz_fw b T (rfl : zz_ent zP_122 60 = (0, za_kl (zz_ki zS2) 61)) (ze_kl (by rw [zz_nI_ofNat (by omega)]; exact q1) rfl)
  replace b := zz_fw b T (rfl : zz_ent zP_122 61 = (0, za_kl (zz_ki zS2) 62)) (ze_kl (by rw [zz_nI_ofNat (by omega)]; exact q2) rfl)
  replace b := zz_fw b T (rfl : zz_ent zP_122 62 = (0, za_iand 63)) (ze_iand rfl)
  replace b := zz_fw b T (rfl : zz_ent zP_122 63 = (0, za_const (.ref 2000000) 66)) (ze_const)
  replace b := zz_fw b T (rfl : zz_ent zP_122 66 = (0, za_iload 3 67)) (ze_iload rfl)
  replace b := zz_fw b T (rfl : zz_ent zP_122 67 = (0, za_kl (zz_ki zS2) 68)) (ze_kl (by rw [zz_nI_ofNat (by omega)]; exact q3) rfl)
  replace b := zz_fw b T (rfl : zz_ent zP_122 68 = (0, za_icmp_ne 75 71)) (ze_icmp_ne_f (not_not_intro hq))
  replace b := zz_fw b T (rfl : zz_ent zP_122 71 = (0, za_iload 3 72)) (ze_iload rfl)
  replace b := zz_fw b T (rfl : zz_ent zP_122 72 = (0, za_goto 76)) (ze_goto)
  have m := zz_M_B (yn := zYN) (cn := zCN) (ml := zMQ) (rt := zRT) (y := 122) (as := [.ref 12, .int p0]) rfl rfl rfl rfl rfl (by decide +kernel) (zz_lb rfl) (zz_lb rfl) (zz_end_i (zr_122.2.1 76 rfl).1) b
  exact m
theorem zD_2x {l : Launch} {D : va_G} {cy : Nat → ClassId} {z0 : Nat} {sp : Nat → Nat} {G : State → Prop} {d : Nat} (hG : zz_GF z0 G) (hP : ∀ U, G U → zz_GD zS zS2 zLg z0 sp U) {v N M c : Nat} {w : zz_W} (r : zBr v N M c w) {p0 : Int32} {f : Nat} (h0 : ¬ zF p0 26 6 = 0) (h1 : ¬ zF p0 26 6 = 1) (hf : zz_at 32 zc_13 (zF p0 26 6) = f) (h51 : f < 51) {fo fx ba : Nat} (l1 : fo < 15) (q1 : zz_ki zS2 2000001 f = some fo) (q2 : zz_ki zS2 2000002 fo = some fx) (q3 : zz_ki zS2 2000000 f = some ba) (hq : ¬ p0 &&& Int32.ofNat fx = Int32.ofNat ba) : zz_M l zTs D zcl zFK cy z0 sp (zTys cy) G zYN zCN zMQ zRT (d + 1) 122 [.ref 12, .int p0] w [.int (Int32.ofNat 4294967295)] w := by
  have T := zt_122 (l := l) (D := D) (cy := cy) (z0 := z0) (sp := sp) (G := G) (d := d) zz_k0_KS hG hP
  have TK := fun (K : zz_K) (h : zz_KS l D zcl zFK cy z0 sp (zTys cy) G zYN (fun y => Cond.code (zYN y) (zCN y) (zMQ y) (zRT y) :: zTs) d K) => zt_122 h hG hP
  have b := zz_B_rf (l := l) (Ts := zTs) (D := D) (cl := zcl) (fk := zFK) (cy := cy) (z0 := z0) (sp := sp) (tys := zTys cy) (G := G) (own := "ToolMill$Codes") (mn := "decode") (nL := 4) (cc := prog_3_method_2_code) (d := d) ((0, [(0, .ref 12), (1, .int p0)], [], w) : zz_F)
  replace b := zz_fw b T (rfl : zz_ent zP_122 0 = (0, za_iload 1 1)) (ze_iload rfl)
  replace b := zz_fw b T (rfl : zz_ent zP_122 1 = (0, za_const (.int (Int32.ofNat 26)) 3)) (ze_const)
  replace b := zz_fw b T (rfl : zz_ent zP_122 3 = (0, za_iushr 4)) (ze_iushr (zF_hi p0))
  replace b := zz_fw b T (rfl : zz_ent zP_122 4 = (0, za_istore 2 5)) (ze_istore (lv' := [(0, _), (1, _)]) rfl)
  replace b := zz_fw b T (rfl : zz_ent zP_122 5 = (0, za_iload 2 6)) (ze_iload rfl)
  replace b := zz_fw b T (rfl : zz_ent zP_122 6 = (0, za_if_ne 21 9)) (ze_if_ne_t (zl_n0 _ (zF_lt p0 26 6) h0))
  replace b := zz_fw b T (rfl : zz_ent zP_122 21 = (0, za_iload 2 22)) (ze_iload rfl)
  replace b := zz_fw b T (rfl : zz_ent zP_122 22 = (0, za_const (.int (Int32.ofNat 1)) 23)) (ze_const)
  replace b := zz_fw b T (rfl : zz_ent zP_122 23 = (0, za_icmp_ne 41 26)) (ze_icmp_ne_t (zl_n1 _ (zF_lt p0 26 6) h1))
  replace b := zz_fw b T (rfl : zz_ent zP_122 41 = (0, za_aload 0 42)) (ze_aload rfl)
  replace b := zz_fw b T (rfl : zz_ent zP_122 42 = (0, za_getA 3 1 45)) (ze_getA (zBr_o r zh_12 (by decide) (by decide) (by decide)) (by decide) zv_12_1)
  replace b := zz_fw b T (rfl : zz_ent zP_122 45 = (0, za_iload 2 46)) (ze_iload rfl)
  replace b := zz_fw b T (rfl : zz_ent zP_122 46 = (0, za_aldI 0 47)) (ze_aldI (zBr_o r zh_13 (by decide) (by decide) (by decide)) (by have := zF_lt p0 26 6; rw [zz_nI_ofNat (by omega)]; omega) (by decide) (by rw [zz_nI_ofNat (by have := zF_lt p0 26 6; omega), hf]))
  replace b := zz_fw b T (rfl : zz_ent zP_122 47 = (0, za_istore 3 48)) (ze_istore (lv' := [(2, _), (0, _), (1, _)]) rfl)
  replace b := zz_fw b T (rfl : zz_ent zP_122 48 = (0, za_iload 3 49)) (ze_iload rfl)
  replace b := zz_fw b T (rfl : zz_ent zP_122 49 = (0, za_if_lt 75 52)) (ze_if_lt_f (zl_51 f h51))
  replace b := zz_fw b T (rfl : zz_ent zP_122 52 = (0, za_iload 1 53)) (ze_iload rfl)
  replace b := zz_fw b T (rfl : zz_ent zP_122 53 = (0, za_const (.ref 2000002) 56)) (ze_const)
  replace b := zz_fw b T (rfl : zz_ent zP_122 56 = (0, za_const (.ref 2000001) 59)) (ze_const)
  replace b := zz_fw b T (rfl : zz_ent zP_122 59 = (0, za_iload 3 60)) (ze_iload rfl)
  replace b := zz_fw b T (rfl : zz_ent zP_122 60 = (0, za_kl (zz_ki zS2) 61)) (ze_kl (by rw [zz_nI_ofNat (by omega)]; exact q1) rfl)
  replace b := zz_fw b T (rfl : zz_ent zP_122 61 = (0, za_kl (zz_ki zS2) 62)) (ze_kl (by rw [zz_nI_ofNat (by omega)]; exact q2) rfl)
  replace b := zz_fw b T (rfl : zz_ent zP_122 62 = (0, za_iand 63)) (ze_iand rfl)
  replace b := zz_fw b T (rfl : zz_ent zP_122 63 = (0, za_const (.ref 2000000) 66)) (ze_const)
  replace b := zz_fw b T (rfl : zz_ent zP_122 66 = (0, za_iload 3 67)) (ze_iload rfl)
  replace b := zz_fw b T (rfl : zz_ent zP_122 67 = (0, za_kl (zz_ki zS2) 68)) (ze_kl (by rw [zz_nI_ofNat (by omega)]; exact q3) rfl)
  replace b := zz_fw b T (rfl : zz_ent zP_122 68 = (0, za_icmp_ne 75 71)) (ze_icmp_ne_t hq)
  replace b := zz_fw b T (rfl : zz_ent zP_122 75 = (0, za_const (.int (Int32.ofNat 4294967295)) 76)) (ze_const)
  have m := zz_M_B (yn := zYN) (cn := zCN) (ml := zMQ) (rt := zRT) (y := 122) (as := [.ref 12, .int p0]) rfl rfl rfl rfl rfl (by decide +kernel) (zz_lb rfl) (zz_lb rfl) (zz_end_i (zr_122.2.1 76 rfl).1) b
  exact m
theorem zD_2n {l : Launch} {D : va_G} {cy : Nat → ClassId} {z0 : Nat} {sp : Nat → Nat} {G : State → Prop} {d : Nat} (hG : zz_GF z0 G) (hP : ∀ U, G U → zz_GD zS zS2 zLg z0 sp U) {v N M c : Nat} {w : zz_W} (r : zBr v N M c w) {p0 : Int32} {f : Nat} (h0 : ¬ zF p0 26 6 = 0) (h1 : ¬ zF p0 26 6 = 1) (hf : zz_at 32 zc_13 (zF p0 26 6) = f) (hn : f = 4294967295) : zz_M l zTs D zcl zFK cy z0 sp (zTys cy) G zYN zCN zMQ zRT (d + 1) 122 [.ref 12, .int p0] w [.int (Int32.ofNat 4294967295)] w := by
  have T := zt_122 (l := l) (D := D) (cy := cy) (z0 := z0) (sp := sp) (G := G) (d := d) zz_k0_KS hG hP
  have TK := fun (K : zz_K) (h : zz_KS l D zcl zFK cy z0 sp (zTys cy) G zYN (fun y => Cond.code (zYN y) (zCN y) (zMQ y) (zRT y) :: zTs) d K) => zt_122 h hG hP
  have b := zz_B_rf (l := l) (Ts := zTs) (D := D) (cl := zcl) (fk := zFK) (cy := cy) (z0 := z0) (sp := sp) (tys := zTys cy) (G := G) (own := "ToolMill$Codes") (mn := "decode") (nL := 4) (cc := prog_3_method_2_code) (d := d) ((0, [(0, .ref 12), (1, .int p0)], [], w) : zz_F)
  replace b := zz_fw b T (rfl : zz_ent zP_122 0 = (0, za_iload 1 1)) (ze_iload rfl)
  replace b := zz_fw b T (rfl : zz_ent zP_122 1 = (0, za_const (.int (Int32.ofNat 26)) 3)) (ze_const)
  replace b := zz_fw b T (rfl : zz_ent zP_122 3 = (0, za_iushr 4)) (ze_iushr (zF_hi p0))
  replace b := zz_fw b T (rfl : zz_ent zP_122 4 = (0, za_istore 2 5)) (ze_istore (lv' := [(0, _), (1, _)]) rfl)
  replace b := zz_fw b T (rfl : zz_ent zP_122 5 = (0, za_iload 2 6)) (ze_iload rfl)
  replace b := zz_fw b T (rfl : zz_ent zP_122 6 = (0, za_if_ne 21 9)) (ze_if_ne_t (zl_n0 _ (zF_lt p0 26 6) h0))
  replace b := zz_fw b T (rfl : zz_ent zP_122 21 = (0, za_iload 2 22)) (ze_iload rfl)
  replace b := zz_fw b T (rfl : zz_ent zP_122 22 = (0, za_const (.int (Int32.ofNat 1)) 23)) (ze_const)
  replace b := zz_fw b T (rfl : zz_ent zP_122 23 = (0, za_icmp_ne 41 26)) (ze_icmp_ne_t (zl_n1 _ (zF_lt p0 26 6) h1))
  replace b := zz_fw b T (rfl : zz_ent zP_122 41 = (0, za_aload 0 42)) (ze_aload rfl)
  replace b := zz_fw b T (rfl : zz_ent zP_122 42 = (0, za_getA 3 1 45)) (ze_getA (zBr_o r zh_12 (by decide) (by decide) (by decide)) (by decide) zv_12_1)
  replace b := zz_fw b T (rfl : zz_ent zP_122 45 = (0, za_iload 2 46)) (ze_iload rfl)
  replace b := zz_fw b T (rfl : zz_ent zP_122 46 = (0, za_aldI 0 47)) (ze_aldI (zBr_o r zh_13 (by decide) (by decide) (by decide)) (by have := zF_lt p0 26 6; rw [zz_nI_ofNat (by omega)]; omega) (by decide) (by rw [zz_nI_ofNat (by have := zF_lt p0 26 6; omega), hf]))
  replace b := zz_fw b T (rfl : zz_ent zP_122 47 = (0, za_istore 3 48)) (ze_istore (lv' := [(2, _), (0, _), (1, _)]) rfl)
  replace b := zz_fw b T (rfl : zz_ent zP_122 48 = (0, za_iload 3 49)) (ze_iload rfl)
  replace b := zz_fw b T (rfl : zz_ent zP_122 49 = (0, za_if_lt 75 52)) (ze_if_lt_t (by rw [hn]; decide))
  replace b := zz_fw b T (rfl : zz_ent zP_122 75 = (0, za_const (.int (Int32.ofNat 4294967295)) 76)) (ze_const)
  have m := zz_M_B (yn := zYN) (cn := zCN) (ml := zMQ) (rt := zRT) (y := 122) (as := [.ref 12, .int p0]) rfl rfl rfl rfl rfl (by decide +kernel) (zz_lb rfl) (zz_lb rfl) (zz_end_i (zr_122.2.1 76 rfl).1) b
  exact m
/-- sign k of the class's name id, and the name -/
noncomputable def zcs (id k : Nat) : Int64 := ((Int64.ofNat (zz_at 64 zc_5 (zz_nI (Int32.ofNat id)))).toUInt64 >>> ((Int32.ofNat 8 * Int32.ofNat k).toInt64.toUInt64 &&& Int64.toUInt64 63)).toInt64 &&& Int64.ofNat 255
noncomputable def zNc (id : Nat) : List Nat := ((List.range 8).map fun k => zz_nI (zcs id k).toInt32).takeWhile fun x => !Nat.beq x 0
def zIds : List Nat := List.range 51 ++ (List.range 32).map (93 + ·)
theorem zNc_all : zIds.all (fun id => Nat.blt (zNc id).length 8 && (decide (lg_cmp (zcs id (zNc id).length) (Int64.ofNat 0) = 0) && (List.range (zNc id).length).all (fun k => !decide (lg_cmp (zcs id k) (Int64.ofNat 0) = 0) && (decide (((zcs id k).toInt32.toUInt32 % 65536).toInt32 = Int32.ofNat ((zNc id).getD k 0)) && Nat.blt ((zNc id).getD k 0) 128)))) = true := by decide +kernel
theorem zNc_ok {id : Nat} (h : id ∈ zIds) : (zNc id).length < 8 ∧ lg_cmp (zcs id (zNc id).length) (Int64.ofNat 0) = 0 ∧ ∀ k, k < (zNc id).length → ¬ lg_cmp (zcs id k) (Int64.ofNat 0) = 0 ∧ ((zcs id k).toInt32.toUInt32 % 65536).toInt32 = Int32.ofNat ((zNc id).getD k 0) ∧ (zNc id).getD k 0 < 128 := by
  have h1 := List.all_eq_true.mp zNc_all id h
  obtain ⟨a, h1⟩ := zz_and h1
  obtain ⟨b, h1⟩ := zz_and h1
  refine ⟨zz_blt a, of_decide_eq_true b, fun k hk => ?_⟩
  have h2 := List.all_eq_true.mp h1 k (List.mem_range.mpr hk)
  obtain ⟨c, h2⟩ := zz_and h2
  obtain ⟨e, f⟩ := zz_and h2
  refine ⟨fun q => ?_, of_decide_eq_true e, zz_blt f⟩
  rw [decide_eq_true q] at c
  cases c
theorem zIds_op {f : Nat} (h : f < 51) : f ∈ zIds := List.mem_append_left _ (List.mem_range.mpr h)
theorem zIds_rg {f : Nat} (h : f < 32) : 93 + f ∈ zIds := List.mem_append_right _ (List.mem_map.mpr ⟨f, List.mem_range.mpr h, rfl⟩)
theorem zIds_le {f : Nat} (h : f ∈ zIds) : f < 125 := by
  unfold zIds at h
  rcases List.mem_append.mp h with h | h
  · have := List.mem_range.mp h; omega
  · obtain ⟨x, h1, h2⟩ := List.mem_map.mp h
    have := List.mem_range.mp h1
    omega
theorem zl_8 : ∀ k, k < 8 → ¬ Int32.ofNat 8 ≤ Int32.ofNat k := by decide +kernel
theorem zB_r {T : List Nat} {w : zz_W} (hB : zB T w) : ∃ v N M c, zBr v N M c w := by
  obtain ⟨v, N, M, c, r, -⟩ := hB
  exact ⟨v, N, M, c, r⟩
theorem zB_12 {T : List Nat} {w : zz_W} (hB : zB T w) : zz_ic w 12 3 = true := by
  obtain ⟨v, N, M, c, r, -⟩ := hB
  exact zz_has_c (zBr_o r zh_12 (by decide) (by decide) (by decide))
theorem znm_s {l : Launch} {D : va_G} {cy : Nat → ClassId} {z0 : Nat} {sp : Nat → Nat} {G : State → Prop} {d : Nat} (hG : zz_GF z0 G) (hP : ∀ U, G U → zz_GD zS zS2 zLg z0 sp U) {T : List Nat} {w : zz_W} (hB : zB T w) {id k : Nat} (hi : id < 125) (hk : k < 8) {x : Nat} (hT : T.length < 33) (h1 : ¬ lg_cmp (zcs id k) (Int64.ofNat 0) = 0) (h2 : ((zcs id k).toInt32.toUInt32 % 65536).toInt32 = Int32.ofNat x) (hx7 : x < 128) : ∃ w', zz_B l zTs D zcl zFK cy z0 sp (zTys cy) G "ToolMill$Codes" "nameOf" 3 prog_3_method_14_code (d + 6) (2, [(0, .ref 12), (1, .int (Int32.ofNat id)), (2, .int (Int32.ofNat k))], [], w) (2, [(0, .ref 12), (1, .int (Int32.ofNat id)), (2, .int (Int32.ofNat (k + 1)))], [], w') ∧ zB (T ++ [x]) w' := by
  obtain ⟨v, N, M, c, r⟩ := zB_r hB
  have T9 := zt_123 (l := l) (D := D) (cy := cy) (z0 := z0) (sp := sp) (G := G) (d := (d + 6)) zz_k0_KS hG hP
  have TK := fun (K : zz_K) (h : zz_KS l D zcl zFK cy z0 sp (zTys cy) G zYN (fun y => Cond.code (zYN y) (zCN y) (zMQ y) (zRT y) :: zTs) (d + 6) K) => zt_123 h hG hP
  have b := zz_B_rf (l := l) (Ts := zTs) (D := D) (cl := zcl) (fk := zFK) (cy := cy) (z0 := z0) (sp := sp) (tys := zTys cy) (G := G) (own := "ToolMill$Codes") (mn := "nameOf") (nL := 3) (cc := prog_3_method_14_code) (d := (d + 6)) ((2, [(0, .ref 12), (1, .int (Int32.ofNat id)), (2, .int (Int32.ofNat k))], [], w) : zz_F)
  replace b := zz_fw b T9 (rfl : zz_ent zP_123 2 = (0, za_iload 2 3)) (ze_iload rfl)
  replace b := zz_fw b T9 (rfl : zz_ent zP_123 3 = (0, za_const (.int (Int32.ofNat 8)) 5)) (ze_const)
  replace b := zz_fw b T9 (rfl : zz_ent zP_123 5 = (0, za_icmp_ge 65 8)) (ze_icmp_ge_f (zl_8 k hk))
  replace b := zz_fw b T9 (rfl : zz_ent zP_123 8 = (0, za_aload 0 9)) (ze_aload rfl)
  replace b := zz_fw b T9 (rfl : zz_ent zP_123 9 = (0, za_getA 3 0 12)) (ze_getA (zBr_o r zh_12 (by decide) (by decide) (by decide)) (by decide) zv_12_0)
  replace b := zz_fw b T9 (rfl : zz_ent zP_123 12 = (0, za_getA 9 0 15)) (ze_getA (zBr_o r zh_4 (by decide) (by decide) (by decide)) (by decide) zv_4_0)
  replace b := zz_fw b T9 (rfl : zz_ent zP_123 15 = (0, za_iload 1 16)) (ze_iload rfl)
  replace b := zz_fw b T9 (rfl : zz_ent zP_123 16 = (0, za_aldL 3 17)) (ze_aldL (zBr_o r zh_5 (by decide) (by decide) (by decide)) (by rw [zz_nI_ofNat (by omega)]; omega) (by decide) rfl)
  replace b := zz_fw b T9 (rfl : zz_ent zP_123 17 = (0, za_const (.int (Int32.ofNat 8)) 19)) (ze_const)
  replace b := zz_fw b T9 (rfl : zz_ent zP_123 19 = (0, za_iload 2 20)) (ze_iload rfl)
  replace b := zz_fw b T9 (rfl : zz_ent zP_123 20 = (0, za_imul 21)) (ze_imul rfl)
  replace b := zz_fw b T9 (rfl : zz_ent zP_123 21 = (0, za_lushr 22)) (ze_lushr rfl)
  replace b := zz_fw b T9 (rfl : zz_ent zP_123 22 = (0, za_const (.long (Int64.ofNat 255)) 25)) (ze_const)
  replace b := zz_fw b T9 (rfl : zz_ent zP_123 25 = (0, za_land 26)) (ze_land (rfl : _ = zcs id k))
  replace b := zz_fw b T9 (rfl : zz_ent zP_123 26 = (0, za_const (.long (Int64.ofNat 0)) 27)) (ze_const)
  replace b := zz_fw b T9 (rfl : zz_ent zP_123 27 = (0, za_lcmp 28)) (ze_lcmp rfl)
  replace b := zz_fw b T9 (rfl : zz_ent zP_123 28 = (0, za_if_eq 65 31)) (ze_if_eq_f h1)
  replace b := zz_fw b T9 (rfl : zz_ent zP_123 31 = (0, za_aload 0 32)) (ze_aload rfl)
  replace b := zz_fw b T9 (rfl : zz_ent zP_123 32 = (0, za_getA 3 4 35)) (ze_getA (zBr_o r zh_12 (by decide) (by decide) (by decide)) (by decide) zv_12_4)
  replace b := zz_fw b T9 (rfl : zz_ent zP_123 35 = (0, za_aload 0 36)) (ze_aload rfl)
  replace b := zz_fw b T9 (rfl : zz_ent zP_123 36 = (0, za_getA 3 0 39)) (ze_getA (zBr_o r zh_12 (by decide) (by decide) (by decide)) (by decide) zv_12_0)
  replace b := zz_fw b T9 (rfl : zz_ent zP_123 39 = (0, za_getA 9 0 42)) (ze_getA (zBr_o r zh_4 (by decide) (by decide) (by decide)) (by decide) zv_4_0)
  replace b := zz_fw b T9 (rfl : zz_ent zP_123 42 = (0, za_iload 1 43)) (ze_iload rfl)
  replace b := zz_fw b T9 (rfl : zz_ent zP_123 43 = (0, za_aldL 3 44)) (ze_aldL (zBr_o r zh_5 (by decide) (by decide) (by decide)) (by rw [zz_nI_ofNat (by omega)]; omega) (by decide) rfl)
  replace b := zz_fw b T9 (rfl : zz_ent zP_123 44 = (0, za_const (.int (Int32.ofNat 8)) 46)) (ze_const)
  replace b := zz_fw b T9 (rfl : zz_ent zP_123 46 = (0, za_iload 2 47)) (ze_iload rfl)
  replace b := zz_fw b T9 (rfl : zz_ent zP_123 47 = (0, za_imul 48)) (ze_imul rfl)
  replace b := zz_fw b T9 (rfl : zz_ent zP_123 48 = (0, za_lushr 49)) (ze_lushr rfl)
  replace b := zz_fw b T9 (rfl : zz_ent zP_123 49 = (0, za_const (.long (Int64.ofNat 255)) 52)) (ze_const)
  replace b := zz_fw b T9 (rfl : zz_ent zP_123 52 = (0, za_land 53)) (ze_land (rfl : _ = zcs id k))
  replace b := zz_fw b T9 (rfl : zz_ent zP_123 53 = (0, za_l2i 54)) (ze_l2i rfl)
  replace b := zz_fw b T9 (rfl : zz_ent zP_123 54 = (0, za_i2c 55)) (ze_i2c h2)
  obtain ⟨w1, hM1, hB1⟩ := zL_apc (d := d) (l := l) (D := D) (cy := cy) (sp := sp) hG hP hB (x := x) (by omega) hx7
  replace b := zz_fVi b TK (rfl : zz_ent zP_123 55 = (0, za_callV 13 125 1 58)) hM1 rfl rfl (zB_ic hB) (zz_lb rfl)
  replace b := zz_fw b T9 (rfl : zz_ent zP_123 58 = (0, za_pop 59)) (ze_pop rfl)
  replace b := zz_fw b T9 (rfl : zz_ent zP_123 59 = (0, za_iinc 2 (Int32.ofNat 1) 62)) (ze_iinc (lv' := [(0, _), (1, _)]) rfl (Int32.ofNat_add k 1).symm rfl)
  replace b := zz_fw b T9 (rfl : zz_ent zP_123 62 = (0, za_goto 2)) (ze_goto)
  replace b := zz_fl (lv' := [(0, .ref 12), (1, .int (Int32.ofNat id)), (2, .int (Int32.ofNat (k + 1)))]) b (zz_mc (List.mem_cons_of_mem _ List.mem_cons_self) (zz_mc (List.mem_cons_of_mem _ (List.mem_cons_of_mem _ List.mem_cons_self)) (zz_mc List.mem_cons_self zz_mn)))
  exact ⟨_, b, hB1⟩
theorem znm_e {l : Launch} {D : va_G} {cy : Nat → ClassId} {z0 : Nat} {sp : Nat → Nat} {G : State → Prop} {d : Nat} (hG : zz_GF z0 G) (hP : ∀ U, G U → zz_GD zS zS2 zLg z0 sp U) {T : List Nat} {w : zz_W} (hB : zB T w) {id k : Nat} (hi : id < 125) (hk : k < 8) (h1 : lg_cmp (zcs id k) (Int64.ofNat 0) = 0) : zz_B l zTs D zcl zFK cy z0 sp (zTys cy) G "ToolMill$Codes" "nameOf" 3 prog_3_method_14_code (d + 6) (2, [(0, .ref 12), (1, .int (Int32.ofNat id)), (2, .int (Int32.ofNat k))], [], w) (65, [(0, .ref 12), (1, .int (Int32.ofNat id)), (2, .int (Int32.ofNat k))], [], w) := by
  obtain ⟨v, N, M, c, r⟩ := zB_r hB
  have T9 := zt_123 (l := l) (D := D) (cy := cy) (z0 := z0) (sp := sp) (G := G) (d := (d + 6)) zz_k0_KS hG hP
  have TK := fun (K : zz_K) (h : zz_KS l D zcl zFK cy z0 sp (zTys cy) G zYN (fun y => Cond.code (zYN y) (zCN y) (zMQ y) (zRT y) :: zTs) (d + 6) K) => zt_123 h hG hP
  have b := zz_B_rf (l := l) (Ts := zTs) (D := D) (cl := zcl) (fk := zFK) (cy := cy) (z0 := z0) (sp := sp) (tys := zTys cy) (G := G) (own := "ToolMill$Codes") (mn := "nameOf") (nL := 3) (cc := prog_3_method_14_code) (d := (d + 6)) ((2, [(0, .ref 12), (1, .int (Int32.ofNat id)), (2, .int (Int32.ofNat k))], [], w) : zz_F)
  replace b := zz_fw b T9 (rfl : zz_ent zP_123 2 = (0, za_iload 2 3)) (ze_iload rfl)
  replace b := zz_fw b T9 (rfl : zz_ent zP_123 3 = (0, za_const (.int (Int32.ofNat 8)) 5)) (ze_const)
  replace b := zz_fw b T9 (rfl : zz_ent zP_123 5 = (0, za_icmp_ge 65 8)) (ze_icmp_ge_f (zl_8 k hk))
  replace b := zz_fw b T9 (rfl : zz_ent zP_123 8 = (0, za_aload 0 9)) (ze_aload rfl)
  replace b := zz_fw b T9 (rfl : zz_ent zP_123 9 = (0, za_getA 3 0 12)) (ze_getA (zBr_o r zh_12 (by decide) (by decide) (by decide)) (by decide) zv_12_0)
  replace b := zz_fw b T9 (rfl : zz_ent zP_123 12 = (0, za_getA 9 0 15)) (ze_getA (zBr_o r zh_4 (by decide) (by decide) (by decide)) (by decide) zv_4_0)
  replace b := zz_fw b T9 (rfl : zz_ent zP_123 15 = (0, za_iload 1 16)) (ze_iload rfl)
  replace b := zz_fw b T9 (rfl : zz_ent zP_123 16 = (0, za_aldL 3 17)) (ze_aldL (zBr_o r zh_5 (by decide) (by decide) (by decide)) (by rw [zz_nI_ofNat (by omega)]; omega) (by decide) rfl)
  replace b := zz_fw b T9 (rfl : zz_ent zP_123 17 = (0, za_const (.int (Int32.ofNat 8)) 19)) (ze_const)
  replace b := zz_fw b T9 (rfl : zz_ent zP_123 19 = (0, za_iload 2 20)) (ze_iload rfl)
  replace b := zz_fw b T9 (rfl : zz_ent zP_123 20 = (0, za_imul 21)) (ze_imul rfl)
  replace b := zz_fw b T9 (rfl : zz_ent zP_123 21 = (0, za_lushr 22)) (ze_lushr rfl)
  replace b := zz_fw b T9 (rfl : zz_ent zP_123 22 = (0, za_const (.long (Int64.ofNat 255)) 25)) (ze_const)
  replace b := zz_fw b T9 (rfl : zz_ent zP_123 25 = (0, za_land 26)) (ze_land (rfl : _ = zcs id k))
  replace b := zz_fw b T9 (rfl : zz_ent zP_123 26 = (0, za_const (.long (Int64.ofNat 0)) 27)) (ze_const)
  replace b := zz_fw b T9 (rfl : zz_ent zP_123 27 = (0, za_lcmp 28)) (ze_lcmp rfl)
  replace b := zz_fw b T9 (rfl : zz_ent zP_123 28 = (0, za_if_eq 65 31)) (ze_if_eq_t h1)
  replace b := zz_fl (lv' := [(0, .ref 12), (1, .int (Int32.ofNat id)), (2, .int (Int32.ofNat k))]) b (zz_mc List.mem_cons_self (zz_mc (List.mem_cons_of_mem _ List.mem_cons_self) (zz_mc (List.mem_cons_of_mem _ (List.mem_cons_of_mem _ List.mem_cons_self)) zz_mn)))
  exact b
theorem znm_0 {l : Launch} {D : va_G} {cy : Nat → ClassId} {z0 : Nat} {sp : Nat → Nat} {G : State → Prop} {d : Nat} (hG : zz_GF z0 G) (hP : ∀ U, G U → zz_GD zS zS2 zLg z0 sp U) {w : zz_W} {id : Nat} : zz_B l zTs D zcl zFK cy z0 sp (zTys cy) G "ToolMill$Codes" "nameOf" 3 prog_3_method_14_code (d + 6) (0, [(0, .ref 12), (1, .int (Int32.ofNat id))], [], w) (2, [(0, .ref 12), (1, .int (Int32.ofNat id)), (2, .int (Int32.ofNat 0))], [], w) := by
  have T9 := zt_123 (l := l) (D := D) (cy := cy) (z0 := z0) (sp := sp) (G := G) (d := (d + 6)) zz_k0_KS hG hP
  have TK := fun (K : zz_K) (h : zz_KS l D zcl zFK cy z0 sp (zTys cy) G zYN (fun y => Cond.code (zYN y) (zCN y) (zMQ y) (zRT y) :: zTs) (d + 6) K) => zt_123 h hG hP
  have b := zz_B_rf (l := l) (Ts := zTs) (D := D) (cl := zcl) (fk := zFK) (cy := cy) (z0 := z0) (sp := sp) (tys := zTys cy) (G := G) (own := "ToolMill$Codes") (mn := "nameOf") (nL := 3) (cc := prog_3_method_14_code) (d := (d + 6)) ((0, [(0, .ref 12), (1, .int (Int32.ofNat id))], [], w) : zz_F)
  replace b := zz_fw b T9 (rfl : zz_ent zP_123 0 = (0, za_const (.int (Int32.ofNat 0)) 1)) (ze_const)
  replace b := zz_fw b T9 (rfl : zz_ent zP_123 1 = (0, za_istore 2 2)) (ze_istore (lv' := [(0, _), (1, _)]) rfl)
  replace b := zz_fl (lv' := [(0, .ref 12), (1, .int (Int32.ofNat id)), (2, .int (Int32.ofNat 0))]) b (zz_mc (List.mem_cons_of_mem _ List.mem_cons_self) (zz_mc (List.mem_cons_of_mem _ (List.mem_cons_of_mem _ List.mem_cons_self)) (zz_mc List.mem_cons_self zz_mn)))
  exact b
theorem znm_l {l : Launch} {D : va_G} {cy : Nat → ClassId} {z0 : Nat} {sp : Nat → Nat} {G : State → Prop} {d : Nat} (hG : zz_GF z0 G) (hP : ∀ U, G U → zz_GD zS zS2 zLg z0 sp U) {T : List Nat} {w : zz_W} (hB : zB T w) {id : Nat} (hi : id ∈ zIds) (hT : T.length + (zNc id).length ≤ 33) : ∀ k, k ≤ (zNc id).length → ∃ w', zz_B l zTs D zcl zFK cy z0 sp (zTys cy) G "ToolMill$Codes" "nameOf" 3 prog_3_method_14_code (d + 6) (2, [(0, .ref 12), (1, .int (Int32.ofNat id)), (2, .int (Int32.ofNat 0))], [], w) (2, [(0, .ref 12), (1, .int (Int32.ofNat id)), (2, .int (Int32.ofNat k))], [], w') ∧ zB (T ++ (zNc id).take k) w' := by
  obtain ⟨n8, he, hk⟩ := zNc_ok hi
  intro k
  induction k with
  | zero => exact fun _ => ⟨w, zz_B_rf _, by rw [List.take_zero, List.append_nil]; exact hB⟩
  | succ k ih =>
    intro h
    obtain ⟨w1, b1, hB1⟩ := ih (by omega)
    obtain ⟨q1, q2, q3⟩ := hk k (by omega)
    obtain ⟨w2, b2, hB2⟩ := znm_s (d := d) (l := l) (D := D) (cy := cy) (sp := sp) hG hP hB1 (zIds_le hi) (k := k) (by omega) (by rw [List.length_append, List.length_take]; omega) q1 q2 q3
    refine ⟨w2, zz_B_tr b1 b2, ?_⟩
    rw [List.append_assoc, show (zNc id).take k ++ [(zNc id).getD k 0] = (zNc id).take (k + 1) from ?_] at hB2
    · exact hB2
    · rw [List.take_succ, List.getD_eq_getElem?_getD, List.getElem?_eq_getElem (by omega)]
      rfl
theorem zL_nam {l : Launch} {D : va_G} {cy : Nat → ClassId} {z0 : Nat} {sp : Nat → Nat} {G : State → Prop} {d : Nat} (hG : zz_GF z0 G) (hP : ∀ U, G U → zz_GD zS zS2 zLg z0 sp U) {T : List Nat} {w : zz_W} (hB : zB T w) {id : Nat} (hi : id ∈ zIds) (hT : T.length + (zNc id).length ≤ 33) : ∃ w', zz_M l zTs D zcl zFK cy z0 sp (zTys cy) G zYN zCN zMQ zRT (d + 7) 123 [.ref 12, .int (Int32.ofNat id)] w [] w' ∧ zB (T ++ zNc id) w' := by
  obtain ⟨n8, he, hk⟩ := zNc_ok hi
  obtain ⟨w1, b1, hB1⟩ := znm_l (d := d) (l := l) (D := D) (cy := cy) (sp := sp) hG hP hB hi hT (zNc id).length (Nat.le_refl _)
  rw [List.take_length] at hB1
  have b0 := znm_0 (w := w) (id := id) (d := d) (l := l) (D := D) (cy := cy) (z0 := z0) (sp := sp) (G := G) hG hP
  have b2 := znm_e (d := d) (l := l) (D := D) (cy := cy) (sp := sp) hG hP hB1 (zIds_le hi) n8 he
  exact ⟨w1, zz_M_B (yn := zYN) (cn := zCN) (ml := zMQ) (rt := zRT) (y := 123) (as := [.ref 12, .int (Int32.ofNat id)]) rfl rfl rfl rfl rfl (by decide +kernel) (zz_lb rfl) (zz_lb rfl) (zz_end_v (zr_123.1 65 rfl).1) (zz_B_tr (zz_B_tr b0 b1) b2), hB1⟩
noncomputable def zRg (p : Int32) (s : Nat) : List Nat := zNc (93 + zF p s 5)
theorem zNc_5 : (List.range 32).all (fun r => Nat.ble (zNc (93 + r)).length 5) = true := by decide +kernel
theorem zRg_5 (p : Int32) (s : Nat) : (zRg p s).length ≤ 5 := zz_ble (List.all_eq_true.mp zNc_5 (zF p s 5) (List.mem_range.mpr (zF_lt p s 5)))
theorem zdc_11 (p : Int32) : (zdc p).length ≤ 11 := by
  unfold zdc
  have := zln_le p.toInt.natAbs
  split
  · rw [List.length_cons, zdg_len]; omega
  · rw [zdg_len]; omega
theorem zB_o {T : List Nat} {w : zz_W} (hB : zB T w) {i : Nat} {cc : zz_C} (h : zz_has zW3 i cc) (h1 : i ≠ 16) (h2 : i ≠ 17) (h3 : i < 329) : zz_has w i cc := by
  obtain ⟨v, N, M, c, r, -⟩ := hB
  exact zBr_o r h h1 h2 h3
theorem zL_one_11 {l : Launch} {D : va_G} {cy : Nat → ClassId} {z0 : Nat} {sp : Nat → Nat} {G : State → Prop} {d : Nat} (hG : zz_GF z0 G) (hP : ∀ U, G U → zz_GD zS zS2 zLg z0 sp U) {T : List Nat} {w : zz_W} (hB : zB T w) {p0 : Int32} {a : Nat} (ha : a < 128) (hT : T.length ≤ 27) : ∃ w', zz_M l zTs D zcl zFK cy z0 sp (zTys cy) G zYN zCN zMQ zRT (d + 8) 168 [.ref 12, .int (Int32.ofNat a), .int p0, .int (Int32.ofNat 11)] w [] w' ∧ zB (T ++ [a] ++ zRg p0 11) w' := by
  have T9 := zt_168 (l := l) (D := D) (cy := cy) (z0 := z0) (sp := sp) (G := G) (d := (d + 7)) zz_k0_KS hG hP
  have TK := fun (K : zz_K) (h : zz_KS l D zcl zFK cy z0 sp (zTys cy) G zYN (fun y => Cond.code (zYN y) (zCN y) (zMQ y) (zRT y) :: zTs) (d + 7) K) => zt_168 h hG hP
  have b := zz_B_rf (l := l) (Ts := zTs) (D := D) (cl := zcl) (fk := zFK) (cy := cy) (z0 := z0) (sp := sp) (tys := zTys cy) (G := G) (own := "ToolMill$Codes") (mn := "one") (nL := 4) (cc := prog_3_method_12_code) (d := (d + 7)) ((0, [(0, .ref 12), (1, .int (Int32.ofNat a)), (2, .int p0), (3, .int (Int32.ofNat 11))], [], w) : zz_F)
  replace b := zz_fw b T9 (rfl : zz_ent zP_168 0 = (0, za_aload 0 1)) (ze_aload rfl)
  replace b := zz_fw b T9 (rfl : zz_ent zP_168 1 = (0, za_getA 3 4 4)) (ze_getA (zB_o hB zh_12 (by decide) (by decide) (by decide)) (by decide) zv_12_4)
  replace b := zz_fw b T9 (rfl : zz_ent zP_168 4 = (0, za_iload 1 5)) (ze_iload rfl)
  obtain ⟨w1, hM1, hB1⟩ := zL_apc (d := d + 1) (l := l) (D := D) (cy := cy) (sp := sp) hG hP hB (x := a) (by omega) ha
  replace b := zz_fVi b TK (rfl : zz_ent zP_168 5 = (0, za_callV 13 125 1 8)) hM1 rfl rfl (zB_ic hB) (zz_lb rfl)
  replace b := zz_fw b T9 (rfl : zz_ent zP_168 8 = (0, za_pop 9)) (ze_pop rfl)
  replace b := zz_fw b T9 (rfl : zz_ent zP_168 9 = (0, za_aload 0 10)) (ze_aload rfl)
  replace b := zz_fw b T9 (rfl : zz_ent zP_168 10 = (0, za_const (.int (Int32.ofNat 93)) 12)) (ze_const)
  replace b := zz_fw b T9 (rfl : zz_ent zP_168 12 = (0, za_iload 2 13)) (ze_iload rfl)
  replace b := zz_fw b T9 (rfl : zz_ent zP_168 13 = (0, za_iload 3 14)) (ze_iload rfl)
  replace b := zz_fw b T9 (rfl : zz_ent zP_168 14 = (0, za_iushr 15)) (ze_iushr rfl)
  replace b := zz_fw b T9 (rfl : zz_ent zP_168 15 = (0, za_const (.int (Int32.ofNat 31)) 17)) (ze_const)
  replace b := zz_fw b T9 (rfl : zz_ent zP_168 17 = (0, za_iand 18)) (ze_iand (zF_eq p0 11 5 31 (by decide) (by decide) rfl))
  replace b := zz_fw b T9 (rfl : zz_ent zP_168 18 = (0, za_iadd 19)) (ze_iadd (Int32.ofNat_add 93 _).symm)
  obtain ⟨w2, hM2, hB2⟩ := zL_nam (d := d) (l := l) (D := D) (cy := cy) (sp := sp) hG hP hB1 (id := 93 + zF p0 11 5) (zIds_rg (zF_lt p0 11 5)) (by have g := zRg_5 p0 11; rw [List.length_append, List.length_singleton]; show _ + (zRg p0 11).length ≤ 33; omega)
  replace b := zz_fVv b TK (rfl : zz_ent zP_168 19 = (0, za_callV 3 123 1 22)) hM2 rfl rfl (zB_12 hB1) (zz_lb rfl)
  have m := zz_M_B (yn := zYN) (cn := zCN) (ml := zMQ) (rt := zRT) (y := 168) (as := [.ref 12, .int (Int32.ofNat a), .int p0, .int (Int32.ofNat 11)]) rfl rfl rfl rfl rfl (by decide +kernel) (zz_lb rfl) (zz_lb rfl) (zz_end_v (zr_168.1 22 rfl).1) b
  exact ⟨_, m, hB2⟩
theorem zL_one_16 {l : Launch} {D : va_G} {cy : Nat → ClassId} {z0 : Nat} {sp : Nat → Nat} {G : State → Prop} {d : Nat} (hG : zz_GF z0 G) (hP : ∀ U, G U → zz_GD zS zS2 zLg z0 sp U) {T : List Nat} {w : zz_W} (hB : zB T w) {p0 : Int32} {a : Nat} (ha : a < 128) (hT : T.length ≤ 27) : ∃ w', zz_M l zTs D zcl zFK cy z0 sp (zTys cy) G zYN zCN zMQ zRT (d + 8) 168 [.ref 12, .int (Int32.ofNat a), .int p0, .int (Int32.ofNat 16)] w [] w' ∧ zB (T ++ [a] ++ zRg p0 16) w' := by
  have T9 := zt_168 (l := l) (D := D) (cy := cy) (z0 := z0) (sp := sp) (G := G) (d := (d + 7)) zz_k0_KS hG hP
  have TK := fun (K : zz_K) (h : zz_KS l D zcl zFK cy z0 sp (zTys cy) G zYN (fun y => Cond.code (zYN y) (zCN y) (zMQ y) (zRT y) :: zTs) (d + 7) K) => zt_168 h hG hP
  have b := zz_B_rf (l := l) (Ts := zTs) (D := D) (cl := zcl) (fk := zFK) (cy := cy) (z0 := z0) (sp := sp) (tys := zTys cy) (G := G) (own := "ToolMill$Codes") (mn := "one") (nL := 4) (cc := prog_3_method_12_code) (d := (d + 7)) ((0, [(0, .ref 12), (1, .int (Int32.ofNat a)), (2, .int p0), (3, .int (Int32.ofNat 16))], [], w) : zz_F)
  replace b := zz_fw b T9 (rfl : zz_ent zP_168 0 = (0, za_aload 0 1)) (ze_aload rfl)
  replace b := zz_fw b T9 (rfl : zz_ent zP_168 1 = (0, za_getA 3 4 4)) (ze_getA (zB_o hB zh_12 (by decide) (by decide) (by decide)) (by decide) zv_12_4)
  replace b := zz_fw b T9 (rfl : zz_ent zP_168 4 = (0, za_iload 1 5)) (ze_iload rfl)
  obtain ⟨w1, hM1, hB1⟩ := zL_apc (d := d + 1) (l := l) (D := D) (cy := cy) (sp := sp) hG hP hB (x := a) (by omega) ha
  replace b := zz_fVi b TK (rfl : zz_ent zP_168 5 = (0, za_callV 13 125 1 8)) hM1 rfl rfl (zB_ic hB) (zz_lb rfl)
  replace b := zz_fw b T9 (rfl : zz_ent zP_168 8 = (0, za_pop 9)) (ze_pop rfl)
  replace b := zz_fw b T9 (rfl : zz_ent zP_168 9 = (0, za_aload 0 10)) (ze_aload rfl)
  replace b := zz_fw b T9 (rfl : zz_ent zP_168 10 = (0, za_const (.int (Int32.ofNat 93)) 12)) (ze_const)
  replace b := zz_fw b T9 (rfl : zz_ent zP_168 12 = (0, za_iload 2 13)) (ze_iload rfl)
  replace b := zz_fw b T9 (rfl : zz_ent zP_168 13 = (0, za_iload 3 14)) (ze_iload rfl)
  replace b := zz_fw b T9 (rfl : zz_ent zP_168 14 = (0, za_iushr 15)) (ze_iushr rfl)
  replace b := zz_fw b T9 (rfl : zz_ent zP_168 15 = (0, za_const (.int (Int32.ofNat 31)) 17)) (ze_const)
  replace b := zz_fw b T9 (rfl : zz_ent zP_168 17 = (0, za_iand 18)) (ze_iand (zF_eq p0 16 5 31 (by decide) (by decide) rfl))
  replace b := zz_fw b T9 (rfl : zz_ent zP_168 18 = (0, za_iadd 19)) (ze_iadd (Int32.ofNat_add 93 _).symm)
  obtain ⟨w2, hM2, hB2⟩ := zL_nam (d := d) (l := l) (D := D) (cy := cy) (sp := sp) hG hP hB1 (id := 93 + zF p0 16 5) (zIds_rg (zF_lt p0 16 5)) (by have g := zRg_5 p0 16; rw [List.length_append, List.length_singleton]; show _ + (zRg p0 16).length ≤ 33; omega)
  replace b := zz_fVv b TK (rfl : zz_ent zP_168 19 = (0, za_callV 3 123 1 22)) hM2 rfl rfl (zB_12 hB1) (zz_lb rfl)
  have m := zz_M_B (yn := zYN) (cn := zCN) (ml := zMQ) (rt := zRT) (y := 168) (as := [.ref 12, .int (Int32.ofNat a), .int p0, .int (Int32.ofNat 16)]) rfl rfl rfl rfl rfl (by decide +kernel) (zz_lb rfl) (zz_lb rfl) (zz_end_v (zr_168.1 22 rfl).1) b
  exact ⟨_, m, hB2⟩
theorem zL_one_21 {l : Launch} {D : va_G} {cy : Nat → ClassId} {z0 : Nat} {sp : Nat → Nat} {G : State → Prop} {d : Nat} (hG : zz_GF z0 G) (hP : ∀ U, G U → zz_GD zS zS2 zLg z0 sp U) {T : List Nat} {w : zz_W} (hB : zB T w) {p0 : Int32} {a : Nat} (ha : a < 128) (hT : T.length ≤ 27) : ∃ w', zz_M l zTs D zcl zFK cy z0 sp (zTys cy) G zYN zCN zMQ zRT (d + 8) 168 [.ref 12, .int (Int32.ofNat a), .int p0, .int (Int32.ofNat 21)] w [] w' ∧ zB (T ++ [a] ++ zRg p0 21) w' := by
  have T9 := zt_168 (l := l) (D := D) (cy := cy) (z0 := z0) (sp := sp) (G := G) (d := (d + 7)) zz_k0_KS hG hP
  have TK := fun (K : zz_K) (h : zz_KS l D zcl zFK cy z0 sp (zTys cy) G zYN (fun y => Cond.code (zYN y) (zCN y) (zMQ y) (zRT y) :: zTs) (d + 7) K) => zt_168 h hG hP
  have b := zz_B_rf (l := l) (Ts := zTs) (D := D) (cl := zcl) (fk := zFK) (cy := cy) (z0 := z0) (sp := sp) (tys := zTys cy) (G := G) (own := "ToolMill$Codes") (mn := "one") (nL := 4) (cc := prog_3_method_12_code) (d := (d + 7)) ((0, [(0, .ref 12), (1, .int (Int32.ofNat a)), (2, .int p0), (3, .int (Int32.ofNat 21))], [], w) : zz_F)
  replace b := zz_fw b T9 (rfl : zz_ent zP_168 0 = (0, za_aload 0 1)) (ze_aload rfl)
  replace b := zz_fw b T9 (rfl : zz_ent zP_168 1 = (0, za_getA 3 4 4)) (ze_getA (zB_o hB zh_12 (by decide) (by decide) (by decide)) (by decide) zv_12_4)
  replace b := zz_fw b T9 (rfl : zz_ent zP_168 4 = (0, za_iload 1 5)) (ze_iload rfl)
  obtain ⟨w1, hM1, hB1⟩ := zL_apc (d := d + 1) (l := l) (D := D) (cy := cy) (sp := sp) hG hP hB (x := a) (by omega) ha
  replace b := zz_fVi b TK (rfl : zz_ent zP_168 5 = (0, za_callV 13 125 1 8)) hM1 rfl rfl (zB_ic hB) (zz_lb rfl)
  replace b := zz_fw b T9 (rfl : zz_ent zP_168 8 = (0, za_pop 9)) (ze_pop rfl)
  replace b := zz_fw b T9 (rfl : zz_ent zP_168 9 = (0, za_aload 0 10)) (ze_aload rfl)
  replace b := zz_fw b T9 (rfl : zz_ent zP_168 10 = (0, za_const (.int (Int32.ofNat 93)) 12)) (ze_const)
  replace b := zz_fw b T9 (rfl : zz_ent zP_168 12 = (0, za_iload 2 13)) (ze_iload rfl)
  replace b := zz_fw b T9 (rfl : zz_ent zP_168 13 = (0, za_iload 3 14)) (ze_iload rfl)
  replace b := zz_fw b T9 (rfl : zz_ent zP_168 14 = (0, za_iushr 15)) (ze_iushr rfl)
  replace b := zz_fw b T9 (rfl : zz_ent zP_168 15 = (0, za_const (.int (Int32.ofNat 31)) 17)) (ze_const)
  replace b := zz_fw b T9 (rfl : zz_ent zP_168 17 = (0, za_iand 18)) (ze_iand (zF_eq p0 21 5 31 (by decide) (by decide) rfl))
  replace b := zz_fw b T9 (rfl : zz_ent zP_168 18 = (0, za_iadd 19)) (ze_iadd (Int32.ofNat_add 93 _).symm)
  obtain ⟨w2, hM2, hB2⟩ := zL_nam (d := d) (l := l) (D := D) (cy := cy) (sp := sp) hG hP hB1 (id := 93 + zF p0 21 5) (zIds_rg (zF_lt p0 21 5)) (by have g := zRg_5 p0 21; rw [List.length_append, List.length_singleton]; show _ + (zRg p0 21).length ≤ 33; omega)
  replace b := zz_fVv b TK (rfl : zz_ent zP_168 19 = (0, za_callV 3 123 1 22)) hM2 rfl rfl (zB_12 hB1) (zz_lb rfl)
  have m := zz_M_B (yn := zYN) (cn := zCN) (ml := zMQ) (rt := zRT) (y := 168) (as := [.ref 12, .int (Int32.ofNat a), .int p0, .int (Int32.ofNat 21)]) rfl rfl rfl rfl rfl (by decide +kernel) (zz_lb rfl) (zz_lb rfl) (zz_end_v (zr_168.1 22 rfl).1) b
  exact ⟨_, m, hB2⟩
theorem zL_two_11_16 {l : Launch} {D : va_G} {cy : Nat → ClassId} {z0 : Nat} {sp : Nat → Nat} {G : State → Prop} {d : Nat} (hG : zz_GF z0 G) (hP : ∀ U, G U → zz_GD zS zS2 zLg z0 sp U) {T : List Nat} {w : zz_W} (hB : zB T w) {p0 : Int32} (hT : T.length ≤ 21) : ∃ w', zz_M l zTs D zcl zFK cy z0 sp (zTys cy) G zYN zCN zMQ zRT (d + 9) 166 [.ref 12, .int p0, .int (Int32.ofNat 11), .int (Int32.ofNat 16)] w [] w' ∧ zB (T ++ [32] ++ zRg p0 11 ++ [44] ++ zRg p0 16) w' := by
  have T9 := zt_166 (l := l) (D := D) (cy := cy) (z0 := z0) (sp := sp) (G := G) (d := (d + 8)) zz_k0_KS hG hP
  have TK := fun (K : zz_K) (h : zz_KS l D zcl zFK cy z0 sp (zTys cy) G zYN (fun y => Cond.code (zYN y) (zCN y) (zMQ y) (zRT y) :: zTs) (d + 8) K) => zt_166 h hG hP
  have b := zz_B_rf (l := l) (Ts := zTs) (D := D) (cl := zcl) (fk := zFK) (cy := cy) (z0 := z0) (sp := sp) (tys := zTys cy) (G := G) (own := "ToolMill$Codes") (mn := "two") (nL := 4) (cc := prog_3_method_11_code) (d := (d + 8)) ((0, [(0, .ref 12), (1, .int p0), (2, .int (Int32.ofNat 11)), (3, .int (Int32.ofNat 16))], [], w) : zz_F)
  replace b := zz_fw b T9 (rfl : zz_ent zP_166 0 = (0, za_aload 0 1)) (ze_aload rfl)
  replace b := zz_fw b T9 (rfl : zz_ent zP_166 1 = (0, za_const (.int (Int32.ofNat 32)) 3)) (ze_const)
  replace b := zz_fw b T9 (rfl : zz_ent zP_166 3 = (0, za_iload 1 4)) (ze_iload rfl)
  replace b := zz_fw b T9 (rfl : zz_ent zP_166 4 = (0, za_iload 2 5)) (ze_iload rfl)
  obtain ⟨w1, hM1, hB1⟩ := zL_one_11 (d := d) (l := l) (D := D) (cy := cy) (sp := sp) hG hP hB (p0 := p0) (a := 32) (by decide) (by omega)
  replace b := zz_fVv b TK (rfl : zz_ent zP_166 5 = (0, za_callV 3 168 3 8)) hM1 rfl rfl (zB_12 hB) (zz_lb rfl)
  replace b := zz_fw b T9 (rfl : zz_ent zP_166 8 = (0, za_aload 0 9)) (ze_aload rfl)
  replace b := zz_fw b T9 (rfl : zz_ent zP_166 9 = (0, za_const (.int (Int32.ofNat 44)) 11)) (ze_const)
  replace b := zz_fw b T9 (rfl : zz_ent zP_166 11 = (0, za_iload 1 12)) (ze_iload rfl)
  replace b := zz_fw b T9 (rfl : zz_ent zP_166 12 = (0, za_iload 3 13)) (ze_iload rfl)
  obtain ⟨w2, hM2, hB2⟩ := zL_one_16 (d := d) (l := l) (D := D) (cy := cy) (sp := sp) hG hP hB1 (p0 := p0) (a := 44) (by decide) (by have g11 := zRg_5 p0 11; (try simp only [List.length_append, List.length_singleton, List.length_cons, List.length_nil]); omega)
  replace b := zz_fVv b TK (rfl : zz_ent zP_166 13 = (0, za_callV 3 168 3 16)) hM2 rfl rfl (zB_12 hB1) (zz_lb rfl)
  have m := zz_M_B (yn := zYN) (cn := zCN) (ml := zMQ) (rt := zRT) (y := 166) (as := [.ref 12, .int p0, .int (Int32.ofNat 11), .int (Int32.ofNat 16)]) rfl rfl rfl rfl rfl (by decide +kernel) (zz_lb rfl) (zz_lb rfl) (zz_end_v (zr_166.1 16 rfl).1) b
  exact ⟨_, m, hB2⟩
theorem zL_two_21_16 {l : Launch} {D : va_G} {cy : Nat → ClassId} {z0 : Nat} {sp : Nat → Nat} {G : State → Prop} {d : Nat} (hG : zz_GF z0 G) (hP : ∀ U, G U → zz_GD zS zS2 zLg z0 sp U) {T : List Nat} {w : zz_W} (hB : zB T w) {p0 : Int32} (hT : T.length ≤ 21) : ∃ w', zz_M l zTs D zcl zFK cy z0 sp (zTys cy) G zYN zCN zMQ zRT (d + 9) 166 [.ref 12, .int p0, .int (Int32.ofNat 21), .int (Int32.ofNat 16)] w [] w' ∧ zB (T ++ [32] ++ zRg p0 21 ++ [44] ++ zRg p0 16) w' := by
  have T9 := zt_166 (l := l) (D := D) (cy := cy) (z0 := z0) (sp := sp) (G := G) (d := (d + 8)) zz_k0_KS hG hP
  have TK := fun (K : zz_K) (h : zz_KS l D zcl zFK cy z0 sp (zTys cy) G zYN (fun y => Cond.code (zYN y) (zCN y) (zMQ y) (zRT y) :: zTs) (d + 8) K) => zt_166 h hG hP
  have b := zz_B_rf (l := l) (Ts := zTs) (D := D) (cl := zcl) (fk := zFK) (cy := cy) (z0 := z0) (sp := sp) (tys := zTys cy) (G := G) (own := "ToolMill$Codes") (mn := "two") (nL := 4) (cc := prog_3_method_11_code) (d := (d + 8)) ((0, [(0, .ref 12), (1, .int p0), (2, .int (Int32.ofNat 21)), (3, .int (Int32.ofNat 16))], [], w) : zz_F)
  replace b := zz_fw b T9 (rfl : zz_ent zP_166 0 = (0, za_aload 0 1)) (ze_aload rfl)
  replace b := zz_fw b T9 (rfl : zz_ent zP_166 1 = (0, za_const (.int (Int32.ofNat 32)) 3)) (ze_const)
  replace b := zz_fw b T9 (rfl : zz_ent zP_166 3 = (0, za_iload 1 4)) (ze_iload rfl)
  replace b := zz_fw b T9 (rfl : zz_ent zP_166 4 = (0, za_iload 2 5)) (ze_iload rfl)
  obtain ⟨w1, hM1, hB1⟩ := zL_one_21 (d := d) (l := l) (D := D) (cy := cy) (sp := sp) hG hP hB (p0 := p0) (a := 32) (by decide) (by omega)
  replace b := zz_fVv b TK (rfl : zz_ent zP_166 5 = (0, za_callV 3 168 3 8)) hM1 rfl rfl (zB_12 hB) (zz_lb rfl)
  replace b := zz_fw b T9 (rfl : zz_ent zP_166 8 = (0, za_aload 0 9)) (ze_aload rfl)
  replace b := zz_fw b T9 (rfl : zz_ent zP_166 9 = (0, za_const (.int (Int32.ofNat 44)) 11)) (ze_const)
  replace b := zz_fw b T9 (rfl : zz_ent zP_166 11 = (0, za_iload 1 12)) (ze_iload rfl)
  replace b := zz_fw b T9 (rfl : zz_ent zP_166 12 = (0, za_iload 3 13)) (ze_iload rfl)
  obtain ⟨w2, hM2, hB2⟩ := zL_one_16 (d := d) (l := l) (D := D) (cy := cy) (sp := sp) hG hP hB1 (p0 := p0) (a := 44) (by decide) (by have g21 := zRg_5 p0 21; (try simp only [List.length_append, List.length_singleton, List.length_cons, List.length_nil]); omega)
  replace b := zz_fVv b TK (rfl : zz_ent zP_166 13 = (0, za_callV 3 168 3 16)) hM2 rfl rfl (zB_12 hB1) (zz_lb rfl)
  have m := zz_M_B (yn := zYN) (cn := zCN) (ml := zMQ) (rt := zRT) (y := 166) (as := [.ref 12, .int p0, .int (Int32.ofNat 21), .int (Int32.ofNat 16)]) rfl rfl rfl rfl rfl (by decide +kernel) (zz_lb rfl) (zz_lb rfl) (zz_end_v (zr_166.1 16 rfl).1) b
  exact ⟨_, m, hB2⟩
theorem zL_two_16_21 {l : Launch} {D : va_G} {cy : Nat → ClassId} {z0 : Nat} {sp : Nat → Nat} {G : State → Prop} {d : Nat} (hG : zz_GF z0 G) (hP : ∀ U, G U → zz_GD zS zS2 zLg z0 sp U) {T : List Nat} {w : zz_W} (hB : zB T w) {p0 : Int32} (hT : T.length ≤ 21) : ∃ w', zz_M l zTs D zcl zFK cy z0 sp (zTys cy) G zYN zCN zMQ zRT (d + 9) 166 [.ref 12, .int p0, .int (Int32.ofNat 16), .int (Int32.ofNat 21)] w [] w' ∧ zB (T ++ [32] ++ zRg p0 16 ++ [44] ++ zRg p0 21) w' := by
  have T9 := zt_166 (l := l) (D := D) (cy := cy) (z0 := z0) (sp := sp) (G := G) (d := (d + 8)) zz_k0_KS hG hP
  have TK := fun (K : zz_K) (h : zz_KS l D zcl zFK cy z0 sp (zTys cy) G zYN (fun y => Cond.code (zYN y) (zCN y) (zMQ y) (zRT y) :: zTs) (d + 8) K) => zt_166 h hG hP
  have b := zz_B_rf (l := l) (Ts := zTs) (D := D) (cl := zcl) (fk := zFK) (cy := cy) (z0 := z0) (sp := sp) (tys := zTys cy) (G := G) (own := "ToolMill$Codes") (mn := "two") (nL := 4) (cc := prog_3_method_11_code) (d := (d + 8)) ((0, [(0, .ref 12), (1, .int p0), (2, .int (Int32.ofNat 16)), (3, .int (Int32.ofNat 21))], [], w) : zz_F)
  replace b := zz_fw b T9 (rfl : zz_ent zP_166 0 = (0, za_aload 0 1)) (ze_aload rfl)
  replace b := zz_fw b T9 (rfl : zz_ent zP_166 1 = (0, za_const (.int (Int32.ofNat 32)) 3)) (ze_const)
  replace b := zz_fw b T9 (rfl : zz_ent zP_166 3 = (0, za_iload 1 4)) (ze_iload rfl)
  replace b := zz_fw b T9 (rfl : zz_ent zP_166 4 = (0, za_iload 2 5)) (ze_iload rfl)
  obtain ⟨w1, hM1, hB1⟩ := zL_one_16 (d := d) (l := l) (D := D) (cy := cy) (sp := sp) hG hP hB (p0 := p0) (a := 32) (by decide) (by omega)
  replace b := zz_fVv b TK (rfl : zz_ent zP_166 5 = (0, za_callV 3 168 3 8)) hM1 rfl rfl (zB_12 hB) (zz_lb rfl)
  replace b := zz_fw b T9 (rfl : zz_ent zP_166 8 = (0, za_aload 0 9)) (ze_aload rfl)
  replace b := zz_fw b T9 (rfl : zz_ent zP_166 9 = (0, za_const (.int (Int32.ofNat 44)) 11)) (ze_const)
  replace b := zz_fw b T9 (rfl : zz_ent zP_166 11 = (0, za_iload 1 12)) (ze_iload rfl)
  replace b := zz_fw b T9 (rfl : zz_ent zP_166 12 = (0, za_iload 3 13)) (ze_iload rfl)
  obtain ⟨w2, hM2, hB2⟩ := zL_one_21 (d := d) (l := l) (D := D) (cy := cy) (sp := sp) hG hP hB1 (p0 := p0) (a := 44) (by decide) (by have g16 := zRg_5 p0 16; (try simp only [List.length_append, List.length_singleton, List.length_cons, List.length_nil]); omega)
  replace b := zz_fVv b TK (rfl : zz_ent zP_166 13 = (0, za_callV 3 168 3 16)) hM2 rfl rfl (zB_12 hB1) (zz_lb rfl)
  have m := zz_M_B (yn := zYN) (cn := zCN) (ml := zMQ) (rt := zRT) (y := 166) (as := [.ref 12, .int p0, .int (Int32.ofNat 16), .int (Int32.ofNat 21)]) rfl rfl rfl rfl rfl (by decide +kernel) (zz_lb rfl) (zz_lb rfl) (zz_end_v (zr_166.1 16 rfl).1) b
  exact ⟨_, m, hB2⟩
theorem zL_two_11_21 {l : Launch} {D : va_G} {cy : Nat → ClassId} {z0 : Nat} {sp : Nat → Nat} {G : State → Prop} {d : Nat} (hG : zz_GF z0 G) (hP : ∀ U, G U → zz_GD zS zS2 zLg z0 sp U) {T : List Nat} {w : zz_W} (hB : zB T w) {p0 : Int32} (hT : T.length ≤ 21) : ∃ w', zz_M l zTs D zcl zFK cy z0 sp (zTys cy) G zYN zCN zMQ zRT (d + 9) 166 [.ref 12, .int p0, .int (Int32.ofNat 11), .int (Int32.ofNat 21)] w [] w' ∧ zB (T ++ [32] ++ zRg p0 11 ++ [44] ++ zRg p0 21) w' := by
  have T9 := zt_166 (l := l) (D := D) (cy := cy) (z0 := z0) (sp := sp) (G := G) (d := (d + 8)) zz_k0_KS hG hP
  have TK := fun (K : zz_K) (h : zz_KS l D zcl zFK cy z0 sp (zTys cy) G zYN (fun y => Cond.code (zYN y) (zCN y) (zMQ y) (zRT y) :: zTs) (d + 8) K) => zt_166 h hG hP
  have b := zz_B_rf (l := l) (Ts := zTs) (D := D) (cl := zcl) (fk := zFK) (cy := cy) (z0 := z0) (sp := sp) (tys := zTys cy) (G := G) (own := "ToolMill$Codes") (mn := "two") (nL := 4) (cc := prog_3_method_11_code) (d := (d + 8)) ((0, [(0, .ref 12), (1, .int p0), (2, .int (Int32.ofNat 11)), (3, .int (Int32.ofNat 21))], [], w) : zz_F)
  replace b := zz_fw b T9 (rfl : zz_ent zP_166 0 = (0, za_aload 0 1)) (ze_aload rfl)
  replace b := zz_fw b T9 (rfl : zz_ent zP_166 1 = (0, za_const (.int (Int32.ofNat 32)) 3)) (ze_const)
  replace b := zz_fw b T9 (rfl : zz_ent zP_166 3 = (0, za_iload 1 4)) (ze_iload rfl)
  replace b := zz_fw b T9 (rfl : zz_ent zP_166 4 = (0, za_iload 2 5)) (ze_iload rfl)
  obtain ⟨w1, hM1, hB1⟩ := zL_one_11 (d := d) (l := l) (D := D) (cy := cy) (sp := sp) hG hP hB (p0 := p0) (a := 32) (by decide) (by omega)
  replace b := zz_fVv b TK (rfl : zz_ent zP_166 5 = (0, za_callV 3 168 3 8)) hM1 rfl rfl (zB_12 hB) (zz_lb rfl)
  replace b := zz_fw b T9 (rfl : zz_ent zP_166 8 = (0, za_aload 0 9)) (ze_aload rfl)
  replace b := zz_fw b T9 (rfl : zz_ent zP_166 9 = (0, za_const (.int (Int32.ofNat 44)) 11)) (ze_const)
  replace b := zz_fw b T9 (rfl : zz_ent zP_166 11 = (0, za_iload 1 12)) (ze_iload rfl)
  replace b := zz_fw b T9 (rfl : zz_ent zP_166 12 = (0, za_iload 3 13)) (ze_iload rfl)
  obtain ⟨w2, hM2, hB2⟩ := zL_one_21 (d := d) (l := l) (D := D) (cy := cy) (sp := sp) hG hP hB1 (p0 := p0) (a := 44) (by decide) (by have g11 := zRg_5 p0 11; (try simp only [List.length_append, List.length_singleton, List.length_cons, List.length_nil]); omega)
  replace b := zz_fVv b TK (rfl : zz_ent zP_166 13 = (0, za_callV 3 168 3 16)) hM2 rfl rfl (zB_12 hB1) (zz_lb rfl)
  have m := zz_M_B (yn := zYN) (cn := zCN) (ml := zMQ) (rt := zRT) (y := 166) (as := [.ref 12, .int p0, .int (Int32.ofNat 11), .int (Int32.ofNat 21)]) rfl rfl rfl rfl rfl (by decide +kernel) (zz_lb rfl) (zz_lb rfl) (zz_end_v (zr_166.1 16 rfl).1) b
  exact ⟨_, m, hB2⟩
theorem zL_three_11_21_16 {l : Launch} {D : va_G} {cy : Nat → ClassId} {z0 : Nat} {sp : Nat → Nat} {G : State → Prop} {d : Nat} (hG : zz_GF z0 G) (hP : ∀ U, G U → zz_GD zS zS2 zLg z0 sp U) {T : List Nat} {w : zz_W} (hB : zB T w) {p0 : Int32} (hT : T.length ≤ 15) : ∃ w', zz_M l zTs D zcl zFK cy z0 sp (zTys cy) G zYN zCN zMQ zRT (d + 10) 169 [.ref 12, .int p0, .int (Int32.ofNat 11), .int (Int32.ofNat 21), .int (Int32.ofNat 16)] w [] w' ∧ zB (T ++ [32] ++ zRg p0 11 ++ [44] ++ zRg p0 21 ++ [44] ++ zRg p0 16) w' := by
  have T9 := zt_169 (l := l) (D := D) (cy := cy) (z0 := z0) (sp := sp) (G := G) (d := (d + 9)) zz_k0_KS hG hP
  have TK := fun (K : zz_K) (h : zz_KS l D zcl zFK cy z0 sp (zTys cy) G zYN (fun y => Cond.code (zYN y) (zCN y) (zMQ y) (zRT y) :: zTs) (d + 9) K) => zt_169 h hG hP
  have b := zz_B_rf (l := l) (Ts := zTs) (D := D) (cl := zcl) (fk := zFK) (cy := cy) (z0 := z0) (sp := sp) (tys := zTys cy) (G := G) (own := "ToolMill$Codes") (mn := "three") (nL := 5) (cc := prog_3_method_10_code) (d := (d + 9)) ((0, [(0, .ref 12), (1, .int p0), (2, .int (Int32.ofNat 11)), (3, .int (Int32.ofNat 21)), (4, .int (Int32.ofNat 16))], [], w) : zz_F)
  replace b := zz_fw b T9 (rfl : zz_ent zP_169 0 = (0, za_aload 0 1)) (ze_aload rfl)
  replace b := zz_fw b T9 (rfl : zz_ent zP_169 1 = (0, za_iload 1 2)) (ze_iload rfl)
  replace b := zz_fw b T9 (rfl : zz_ent zP_169 2 = (0, za_iload 2 3)) (ze_iload rfl)
  replace b := zz_fw b T9 (rfl : zz_ent zP_169 3 = (0, za_iload 3 4)) (ze_iload rfl)
  obtain ⟨w1, hM1, hB1⟩ := zL_two_11_21 (d := d) (l := l) (D := D) (cy := cy) (sp := sp) hG hP hB (p0 := p0) (by omega)
  replace b := zz_fVv b TK (rfl : zz_ent zP_169 4 = (0, za_callV 3 166 3 7)) hM1 rfl rfl (zB_12 hB) (zz_lb rfl)
  replace b := zz_fw b T9 (rfl : zz_ent zP_169 7 = (0, za_aload 0 8)) (ze_aload rfl)
  replace b := zz_fw b T9 (rfl : zz_ent zP_169 8 = (0, za_const (.int (Int32.ofNat 44)) 10)) (ze_const)
  replace b := zz_fw b T9 (rfl : zz_ent zP_169 10 = (0, za_iload 1 11)) (ze_iload rfl)
  replace b := zz_fw b T9 (rfl : zz_ent zP_169 11 = (0, za_iload 4 13)) (ze_iload rfl)
  obtain ⟨w2, hM2, hB2⟩ := zL_one_16 (d := d + 1) (l := l) (D := D) (cy := cy) (sp := sp) hG hP hB1 (p0 := p0) (a := 44) (by decide) (by have g11 := zRg_5 p0 11; have g21 := zRg_5 p0 21; (try simp only [List.length_append, List.length_singleton, List.length_cons, List.length_nil]); omega)
  replace b := zz_fVv b TK (rfl : zz_ent zP_169 13 = (0, za_callV 3 168 3 16)) hM2 rfl rfl (zB_12 hB1) (zz_lb rfl)
  have m := zz_M_B (yn := zYN) (cn := zCN) (ml := zMQ) (rt := zRT) (y := 169) (as := [.ref 12, .int p0, .int (Int32.ofNat 11), .int (Int32.ofNat 21), .int (Int32.ofNat 16)]) rfl rfl rfl rfl rfl (by decide +kernel) (zz_lb rfl) (zz_lb rfl) (zz_end_v (zr_169.1 16 rfl).1) b
  exact ⟨_, m, hB2⟩
theorem zL_three_11_16_21 {l : Launch} {D : va_G} {cy : Nat → ClassId} {z0 : Nat} {sp : Nat → Nat} {G : State → Prop} {d : Nat} (hG : zz_GF z0 G) (hP : ∀ U, G U → zz_GD zS zS2 zLg z0 sp U) {T : List Nat} {w : zz_W} (hB : zB T w) {p0 : Int32} (hT : T.length ≤ 15) : ∃ w', zz_M l zTs D zcl zFK cy z0 sp (zTys cy) G zYN zCN zMQ zRT (d + 10) 169 [.ref 12, .int p0, .int (Int32.ofNat 11), .int (Int32.ofNat 16), .int (Int32.ofNat 21)] w [] w' ∧ zB (T ++ [32] ++ zRg p0 11 ++ [44] ++ zRg p0 16 ++ [44] ++ zRg p0 21) w' := by
  have T9 := zt_169 (l := l) (D := D) (cy := cy) (z0 := z0) (sp := sp) (G := G) (d := (d + 9)) zz_k0_KS hG hP
  have TK := fun (K : zz_K) (h : zz_KS l D zcl zFK cy z0 sp (zTys cy) G zYN (fun y => Cond.code (zYN y) (zCN y) (zMQ y) (zRT y) :: zTs) (d + 9) K) => zt_169 h hG hP
  have b := zz_B_rf (l := l) (Ts := zTs) (D := D) (cl := zcl) (fk := zFK) (cy := cy) (z0 := z0) (sp := sp) (tys := zTys cy) (G := G) (own := "ToolMill$Codes") (mn := "three") (nL := 5) (cc := prog_3_method_10_code) (d := (d + 9)) ((0, [(0, .ref 12), (1, .int p0), (2, .int (Int32.ofNat 11)), (3, .int (Int32.ofNat 16)), (4, .int (Int32.ofNat 21))], [], w) : zz_F)
  replace b := zz_fw b T9 (rfl : zz_ent zP_169 0 = (0, za_aload 0 1)) (ze_aload rfl)
  replace b := zz_fw b T9 (rfl : zz_ent zP_169 1 = (0, za_iload 1 2)) (ze_iload rfl)
  replace b := zz_fw b T9 (rfl : zz_ent zP_169 2 = (0, za_iload 2 3)) (ze_iload rfl)
  replace b := zz_fw b T9 (rfl : zz_ent zP_169 3 = (0, za_iload 3 4)) (ze_iload rfl)
  obtain ⟨w1, hM1, hB1⟩ := zL_two_11_16 (d := d) (l := l) (D := D) (cy := cy) (sp := sp) hG hP hB (p0 := p0) (by omega)
  replace b := zz_fVv b TK (rfl : zz_ent zP_169 4 = (0, za_callV 3 166 3 7)) hM1 rfl rfl (zB_12 hB) (zz_lb rfl)
  replace b := zz_fw b T9 (rfl : zz_ent zP_169 7 = (0, za_aload 0 8)) (ze_aload rfl)
  replace b := zz_fw b T9 (rfl : zz_ent zP_169 8 = (0, za_const (.int (Int32.ofNat 44)) 10)) (ze_const)
  replace b := zz_fw b T9 (rfl : zz_ent zP_169 10 = (0, za_iload 1 11)) (ze_iload rfl)
  replace b := zz_fw b T9 (rfl : zz_ent zP_169 11 = (0, za_iload 4 13)) (ze_iload rfl)
  obtain ⟨w2, hM2, hB2⟩ := zL_one_21 (d := d + 1) (l := l) (D := D) (cy := cy) (sp := sp) hG hP hB1 (p0 := p0) (a := 44) (by decide) (by have g11 := zRg_5 p0 11; have g16 := zRg_5 p0 16; (try simp only [List.length_append, List.length_singleton, List.length_cons, List.length_nil]); omega)
  replace b := zz_fVv b TK (rfl : zz_ent zP_169 13 = (0, za_callV 3 168 3 16)) hM2 rfl rfl (zB_12 hB1) (zz_lb rfl)
  have m := zz_M_B (yn := zYN) (cn := zCN) (ml := zMQ) (rt := zRT) (y := 169) (as := [.ref 12, .int p0, .int (Int32.ofNat 11), .int (Int32.ofNat 16), .int (Int32.ofNat 21)]) rfl rfl rfl rfl rfl (by decide +kernel) (zz_lb rfl) (zz_lb rfl) (zz_end_v (zr_169.1 16 rfl).1) b
  exact ⟨_, m, hB2⟩
theorem zL_amt {l : Launch} {D : va_G} {cy : Nat → ClassId} {z0 : Nat} {sp : Nat → Nat} {G : State → Prop} {d : Nat} (hG : zz_GF z0 G) (hP : ∀ U, G U → zz_GD zS zS2 zLg z0 sp U) {T : List Nat} {w : zz_W} (hB : zB T w) {p0 : Int32} {a : Nat} (ha : a < 128) (hT : T.length ≤ 21) : ∃ w', zz_M l zTs D zcl zFK cy z0 sp (zTys cy) G zYN zCN zMQ zRT (d + 7) 167 [.ref 12, .int (Int32.ofNat a), .int p0] w [] w' ∧ zB (T ++ [a] ++ zdc p0) w' := by
  have T9 := zt_167 (l := l) (D := D) (cy := cy) (z0 := z0) (sp := sp) (G := G) (d := (d + 6)) zz_k0_KS hG hP
  have TK := fun (K : zz_K) (h : zz_KS l D zcl zFK cy z0 sp (zTys cy) G zYN (fun y => Cond.code (zYN y) (zCN y) (zMQ y) (zRT y) :: zTs) (d + 6) K) => zt_167 h hG hP
  have b := zz_B_rf (l := l) (Ts := zTs) (D := D) (cl := zcl) (fk := zFK) (cy := cy) (z0 := z0) (sp := sp) (tys := zTys cy) (G := G) (own := "ToolMill$Codes") (mn := "amount") (nL := 3) (cc := prog_3_method_13_code) (d := (d + 6)) ((0, [(0, .ref 12), (1, .int (Int32.ofNat a)), (2, .int p0)], [], w) : zz_F)
  replace b := zz_fw b T9 (rfl : zz_ent zP_167 0 = (0, za_aload 0 1)) (ze_aload rfl)
  replace b := zz_fw b T9 (rfl : zz_ent zP_167 1 = (0, za_getA 3 4 4)) (ze_getA (zB_o hB zh_12 (by decide) (by decide) (by decide)) (by decide) zv_12_4)
  replace b := zz_fw b T9 (rfl : zz_ent zP_167 4 = (0, za_iload 1 5)) (ze_iload rfl)
  obtain ⟨w1, hM1, hB1⟩ := zL_apc (d := d) (l := l) (D := D) (cy := cy) (sp := sp) hG hP hB (x := a) (by omega) ha
  replace b := zz_fVi b TK (rfl : zz_ent zP_167 5 = (0, za_callV 13 125 1 8)) hM1 rfl rfl (zB_ic hB) (zz_lb rfl)
  replace b := zz_fw b T9 (rfl : zz_ent zP_167 8 = (0, za_pop 9)) (ze_pop rfl)
  replace b := zz_fw b T9 (rfl : zz_ent zP_167 9 = (0, za_aload 0 10)) (ze_aload rfl)
  replace b := zz_fw b T9 (rfl : zz_ent zP_167 10 = (0, za_getA 3 4 13)) (ze_getA (zB_o hB1 zh_12 (by decide) (by decide) (by decide)) (by decide) zv_12_4)
  replace b := zz_fw b T9 (rfl : zz_ent zP_167 13 = (0, za_iload 2 14)) (ze_iload rfl)
  obtain ⟨w2, hM2, hB2⟩ := zL_api (d := d) (l := l) (D := D) (cy := cy) (sp := sp) hG hP hB1 (p0 := p0) (by have g := zdc_11 p0; rw [List.length_append, List.length_singleton]; omega)
  replace b := zz_fVi b TK (rfl : zz_ent zP_167 14 = (0, za_callV 13 129 1 17)) hM2 rfl rfl (zB_ic hB1) (zz_lb rfl)
  replace b := zz_fw b T9 (rfl : zz_ent zP_167 17 = (0, za_pop 18)) (ze_pop rfl)
  have m := zz_M_B (yn := zYN) (cn := zCN) (ml := zMQ) (rt := zRT) (y := 167) (as := [.ref 12, .int (Int32.ofNat a), .int p0]) rfl rfl rfl rfl rfl (by decide +kernel) (zz_lb rfl) (zz_lb rfl) (zz_end_v (zr_167.1 18 rfl).1) b
  exact ⟨_, m, hB2⟩
/-- what stands behind a name, by form -/
noncomputable def zOp (fo : Nat) (p : Int32) : List Nat := match fo with
  | 0 => [32] ++ (zRg p 11 ++ ([44] ++ (zRg p 21 ++ ([44] ++ zRg p 16))))
  | 1 => [32] ++ (zRg p 11 ++ ([44] ++ (zRg p 16 ++ ([44] ++ zdc (Int32.ofNat (zF p 6 5))))))
  | 2 => [32] ++ (zRg p 11 ++ ([44] ++ (zRg p 16 ++ ([44] ++ zRg p 21))))
  | 3 => [32] ++ (zRg p 21 ++ ([44] ++ zRg p 16))
  | 4 => [32] ++ zRg p 11
  | 5 => [32] ++ zRg p 21
  | 6 => []
  | 7 => [32] ++ zdc (Int32.ofNat (zF p 16 10))
  | 8 => [32] ++ (zRg p 16 ++ ([44] ++ (zRg p 21 ++ ([44] ++ zdc p.toInt16.toInt32))))
  | 9 => [32] ++ (zRg p 16 ++ ([44] ++ (zRg p 21 ++ ([44] ++ zdc (p.toInt16.toInt32 &&& Int32.ofNat 65535)))))
  | 10 => [32] ++ (zRg p 16 ++ ([44] ++ zdc (p.toInt16.toInt32 &&& Int32.ofNat 65535)))
  | 11 => [32] ++ (zRg p 16 ++ ([44] ++ (zdc p.toInt16.toInt32 ++ ([40] ++ (zRg p 21 ++ [41])))))
  | 12 => [32] ++ (zRg p 21 ++ ([44] ++ (zRg p 16 ++ ([44] ++ zdc p.toInt16.toInt32))))
  | 13 => [32] ++ (zRg p 21 ++ ([44] ++ zdc p.toInt16.toInt32))
  | 14 => [32] ++ zdc (Int32.ofNat (zF p 0 26))
  | _ => []
theorem zL_op_0 {l : Launch} {D : va_G} {cy : Nat → ClassId} {z0 : Nat} {sp : Nat → Nat} {G : State → Prop} {d : Nat} (hG : zz_GF z0 G) (hP : ∀ U, G U → zz_GD zS zS2 zLg z0 sp U) {T : List Nat} {w : zz_W} (hB : zB T w) {p0 : Int32} {f : Nat} (h51 : f < 51) (q1 : zz_ki zS2 2000001 f = some 0) (hT : T.length ≤ 7) : ∃ w', zz_M l zTs D zcl zFK cy z0 sp (zTys cy) G zYN zCN zMQ zRT (d + 11) 124 [.ref 12, .int p0, .int (Int32.ofNat f)] w [] w' ∧ zB (T ++ zOp 0 p0) w' := by
  have T9 := zt_124 (l := l) (D := D) (cy := cy) (z0 := z0) (sp := sp) (G := G) (d := (d + 10)) zz_k0_KS hG hP
  have TK := fun (K : zz_K) (h : zz_KS l D zcl zFK cy z0 sp (zTys cy) G zYN (fun y => Cond.code (zYN y) (zCN y) (zMQ y) (zRT y) :: zTs) (d + 10) K) => zt_124 h hG hP
  have b := zz_B_rf (l := l) (Ts := zTs) (D := D) (cl := zcl) (fk := zFK) (cy := cy) (z0 := z0) (sp := sp) (tys := zTys cy) (G := G) (own := "ToolMill$Codes") (mn := "operands") (nL := 4) (cc := prog_3_method_9_code) (d := (d + 10)) ((0, [(0, .ref 12), (1, .int p0), (2, .int (Int32.ofNat f))], [], w) : zz_F)
  replace b := zz_fw b T9 (rfl : zz_ent zP_124 0 = (0, za_iload 1 1)) (ze_iload rfl)
  replace b := zz_fw b T9 (rfl : zz_ent zP_124 1 = (0, za_i2s 2)) (ze_i2s rfl)
  replace b := zz_fw b T9 (rfl : zz_ent zP_124 2 = (0, za_istore 3 3)) (ze_istore (lv' := [(0, _), (1, _), (2, _)]) rfl)
  replace b := zz_fw b T9 (rfl : zz_ent zP_124 3 = (0, za_const (.ref 2000001) 6)) (ze_const)
  replace b := zz_fw b T9 (rfl : zz_ent zP_124 6 = (0, za_iload 2 7)) (ze_iload rfl)
  replace b := zz_fw b T9 (rfl : zz_ent zP_124 7 = (0, za_kl (zz_ki zS2) 8)) (ze_kl (by rw [zz_nI_ofNat (by omega)]; exact q1) rfl)
  replace b := zz_fw b T9 (rfl : zz_ent zP_124 8 = (0, za_tsw (0) (14) 337 [84, 98, 123, 137, 149, 161, 337, 173, 190, 190, 226, 248, 286, 305, 324])) (ze_tsw_k (t := 84) (by decide) (by decide))
  replace b := zz_fw b T9 (rfl : zz_ent zP_124 84 = (0, za_aload 0 85)) (ze_aload rfl)
  replace b := zz_fw b T9 (rfl : zz_ent zP_124 85 = (0, za_iload 1 86)) (ze_iload rfl)
  replace b := zz_fw b T9 (rfl : zz_ent zP_124 86 = (0, za_const (.int (Int32.ofNat 11)) 88)) (ze_const)
  replace b := zz_fw b T9 (rfl : zz_ent zP_124 88 = (0, za_const (.int (Int32.ofNat 21)) 90)) (ze_const)
  replace b := zz_fw b T9 (rfl : zz_ent zP_124 90 = (0, za_const (.int (Int32.ofNat 16)) 92)) (ze_const)
  obtain ⟨w1, hM1, hB1⟩ := zL_three_11_21_16 (d := d) (l := l) (D := D) (cy := cy) (sp := sp) hG hP hB (p0 := p0) (by omega)
  replace b := zz_fVv b TK (rfl : zz_ent zP_124 92 = (0, za_callV 3 169 4 95)) hM1 rfl rfl (zB_12 hB) (zz_lb rfl)
  replace b := zz_fw b T9 (rfl : zz_ent zP_124 95 = (0, za_goto 337)) (ze_goto)
  have m := zz_M_B (yn := zYN) (cn := zCN) (ml := zMQ) (rt := zRT) (y := 124) (as := [.ref 12, .int p0, .int (Int32.ofNat f)]) rfl rfl rfl rfl rfl (by decide +kernel) (zz_lb rfl) (zz_lb rfl) (zz_end_v (zr_124.1 337 rfl).1) b
  exact ⟨_, m, by show zB (T ++ ([32] ++ (zRg p0 11 ++ ([44] ++ (zRg p0 21 ++ ([44] ++ zRg p0 16)))))) _; simp only [List.append_assoc] at hB1 ⊢; exact hB1⟩
theorem zL_op_1 {l : Launch} {D : va_G} {cy : Nat → ClassId} {z0 : Nat} {sp : Nat → Nat} {G : State → Prop} {d : Nat} (hG : zz_GF z0 G) (hP : ∀ U, G U → zz_GD zS zS2 zLg z0 sp U) {T : List Nat} {w : zz_W} (hB : zB T w) {p0 : Int32} {f : Nat} (h51 : f < 51) (q1 : zz_ki zS2 2000001 f = some 1) (hT : T.length ≤ 7) : ∃ w', zz_M l zTs D zcl zFK cy z0 sp (zTys cy) G zYN zCN zMQ zRT (d + 11) 124 [.ref 12, .int p0, .int (Int32.ofNat f)] w [] w' ∧ zB (T ++ zOp 1 p0) w' := by
  have T9 := zt_124 (l := l) (D := D) (cy := cy) (z0 := z0) (sp := sp) (G := G) (d := (d + 10)) zz_k0_KS hG hP
  have TK := fun (K : zz_K) (h : zz_KS l D zcl zFK cy z0 sp (zTys cy) G zYN (fun y => Cond.code (zYN y) (zCN y) (zMQ y) (zRT y) :: zTs) (d + 10) K) => zt_124 h hG hP
  have b := zz_B_rf (l := l) (Ts := zTs) (D := D) (cl := zcl) (fk := zFK) (cy := cy) (z0 := z0) (sp := sp) (tys := zTys cy) (G := G) (own := "ToolMill$Codes") (mn := "operands") (nL := 4) (cc := prog_3_method_9_code) (d := (d + 10)) ((0, [(0, .ref 12), (1, .int p0), (2, .int (Int32.ofNat f))], [], w) : zz_F)
  replace b := zz_fw b T9 (rfl : zz_ent zP_124 0 = (0, za_iload 1 1)) (ze_iload rfl)
  replace b := zz_fw b T9 (rfl : zz_ent zP_124 1 = (0, za_i2s 2)) (ze_i2s rfl)
  replace b := zz_fw b T9 (rfl : zz_ent zP_124 2 = (0, za_istore 3 3)) (ze_istore (lv' := [(0, _), (1, _), (2, _)]) rfl)
  replace b := zz_fw b T9 (rfl : zz_ent zP_124 3 = (0, za_const (.ref 2000001) 6)) (ze_const)
  replace b := zz_fw b T9 (rfl : zz_ent zP_124 6 = (0, za_iload 2 7)) (ze_iload rfl)
  replace b := zz_fw b T9 (rfl : zz_ent zP_124 7 = (0, za_kl (zz_ki zS2) 8)) (ze_kl (by rw [zz_nI_ofNat (by omega)]; exact q1) rfl)
  replace b := zz_fw b T9 (rfl : zz_ent zP_124 8 = (0, za_tsw (0) (14) 337 [84, 98, 123, 137, 149, 161, 337, 173, 190, 190, 226, 248, 286, 305, 324])) (ze_tsw_k (t := 98) (by decide) (by decide))
  replace b := zz_fw b T9 (rfl : zz_ent zP_124 98 = (0, za_aload 0 99)) (ze_aload rfl)
  replace b := zz_fw b T9 (rfl : zz_ent zP_124 99 = (0, za_iload 1 100)) (ze_iload rfl)
  replace b := zz_fw b T9 (rfl : zz_ent zP_124 100 = (0, za_const (.int (Int32.ofNat 11)) 102)) (ze_const)
  replace b := zz_fw b T9 (rfl : zz_ent zP_124 102 = (0, za_const (.int (Int32.ofNat 16)) 104)) (ze_const)
  obtain ⟨w1, hM1, hB1⟩ := zL_two_11_16 (d := d + 1) (l := l) (D := D) (cy := cy) (sp := sp) hG hP hB (p0 := p0) (by omega)
  replace b := zz_fVv b TK (rfl : zz_ent zP_124 104 = (0, za_callV 3 166 3 107)) hM1 rfl rfl (zB_12 hB) (zz_lb rfl)
  replace b := zz_fw b T9 (rfl : zz_ent zP_124 107 = (0, za_aload 0 108)) (ze_aload rfl)
  replace b := zz_fw b T9 (rfl : zz_ent zP_124 108 = (0, za_const (.int (Int32.ofNat 44)) 110)) (ze_const)
  replace b := zz_fw b T9 (rfl : zz_ent zP_124 110 = (0, za_iload 1 111)) (ze_iload rfl)
  replace b := zz_fw b T9 (rfl : zz_ent zP_124 111 = (0, za_const (.int (Int32.ofNat 6)) 113)) (ze_const)
  replace b := zz_fw b T9 (rfl : zz_ent zP_124 113 = (0, za_iushr 114)) (ze_iushr rfl)
  replace b := zz_fw b T9 (rfl : zz_ent zP_124 114 = (0, za_const (.int (Int32.ofNat 31)) 116)) (ze_const)
  replace b := zz_fw b T9 (rfl : zz_ent zP_124 116 = (0, za_iand 117)) (ze_iand (zF_eq p0 6 5 31 (by decide) (by decide) rfl))
  obtain ⟨w2, hM2, hB2⟩ := zL_amt (d := d + 3) (l := l) (D := D) (cy := cy) (sp := sp) hG hP hB1 (p0 := Int32.ofNat (zF p0 6 5)) (a := 44) (by decide) (by have g11 := zRg_5 p0 11; have g16 := zRg_5 p0 16; (try simp only [List.length_append, List.length_singleton, List.length_cons, List.length_nil]); omega)
  replace b := zz_fVv b TK (rfl : zz_ent zP_124 117 = (0, za_callV 3 167 2 120)) hM2 rfl rfl (zB_12 hB1) (zz_lb rfl)
  replace b := zz_fw b T9 (rfl : zz_ent zP_124 120 = (0, za_goto 337)) (ze_goto)
  have m := zz_M_B (yn := zYN) (cn := zCN) (ml := zMQ) (rt := zRT) (y := 124) (as := [.ref 12, .int p0, .int (Int32.ofNat f)]) rfl rfl rfl rfl rfl (by decide +kernel) (zz_lb rfl) (zz_lb rfl) (zz_end_v (zr_124.1 337 rfl).1) b
  exact ⟨_, m, by show zB (T ++ ([32] ++ (zRg p0 11 ++ ([44] ++ (zRg p0 16 ++ ([44] ++ zdc (Int32.ofNat (zF p0 6 5)))))))) _; simp only [List.append_assoc] at hB2 ⊢; exact hB2⟩
theorem zL_op_2 {l : Launch} {D : va_G} {cy : Nat → ClassId} {z0 : Nat} {sp : Nat → Nat} {G : State → Prop} {d : Nat} (hG : zz_GF z0 G) (hP : ∀ U, G U → zz_GD zS zS2 zLg z0 sp U) {T : List Nat} {w : zz_W} (hB : zB T w) {p0 : Int32} {f : Nat} (h51 : f < 51) (q1 : zz_ki zS2 2000001 f = some 2) (hT : T.length ≤ 7) : ∃ w', zz_M l zTs D zcl zFK cy z0 sp (zTys cy) G zYN zCN zMQ zRT (d + 11) 124 [.ref 12, .int p0, .int (Int32.ofNat f)] w [] w' ∧ zB (T ++ zOp 2 p0) w' := by
  have T9 := zt_124 (l := l) (D := D) (cy := cy) (z0 := z0) (sp := sp) (G := G) (d := (d + 10)) zz_k0_KS hG hP
  have TK := fun (K : zz_K) (h : zz_KS l D zcl zFK cy z0 sp (zTys cy) G zYN (fun y => Cond.code (zYN y) (zCN y) (zMQ y) (zRT y) :: zTs) (d + 10) K) => zt_124 h hG hP
  have b := zz_B_rf (l := l) (Ts := zTs) (D := D) (cl := zcl) (fk := zFK) (cy := cy) (z0 := z0) (sp := sp) (tys := zTys cy) (G := G) (own := "ToolMill$Codes") (mn := "operands") (nL := 4) (cc := prog_3_method_9_code) (d := (d + 10)) ((0, [(0, .ref 12), (1, .int p0), (2, .int (Int32.ofNat f))], [], w) : zz_F)
  replace b := zz_fw b T9 (rfl : zz_ent zP_124 0 = (0, za_iload 1 1)) (ze_iload rfl)
  replace b := zz_fw b T9 (rfl : zz_ent zP_124 1 = (0, za_i2s 2)) (ze_i2s rfl)
  replace b := zz_fw b T9 (rfl : zz_ent zP_124 2 = (0, za_istore 3 3)) (ze_istore (lv' := [(0, _), (1, _), (2, _)]) rfl)
  replace b := zz_fw b T9 (rfl : zz_ent zP_124 3 = (0, za_const (.ref 2000001) 6)) (ze_const)
  replace b := zz_fw b T9 (rfl : zz_ent zP_124 6 = (0, za_iload 2 7)) (ze_iload rfl)
  replace b := zz_fw b T9 (rfl : zz_ent zP_124 7 = (0, za_kl (zz_ki zS2) 8)) (ze_kl (by rw [zz_nI_ofNat (by omega)]; exact q1) rfl)
  replace b := zz_fw b T9 (rfl : zz_ent zP_124 8 = (0, za_tsw (0) (14) 337 [84, 98, 123, 137, 149, 161, 337, 173, 190, 190, 226, 248, 286, 305, 324])) (ze_tsw_k (t := 123) (by decide) (by decide))
  replace b := zz_fw b T9 (rfl : zz_ent zP_124 123 = (0, za_aload 0 124)) (ze_aload rfl)
  replace b := zz_fw b T9 (rfl : zz_ent zP_124 124 = (0, za_iload 1 125)) (ze_iload rfl)
  replace b := zz_fw b T9 (rfl : zz_ent zP_124 125 = (0, za_const (.int (Int32.ofNat 11)) 127)) (ze_const)
  replace b := zz_fw b T9 (rfl : zz_ent zP_124 127 = (0, za_const (.int (Int32.ofNat 16)) 129)) (ze_const)
  replace b := zz_fw b T9 (rfl : zz_ent zP_124 129 = (0, za_const (.int (Int32.ofNat 21)) 131)) (ze_const)
  obtain ⟨w1, hM1, hB1⟩ := zL_three_11_16_21 (d := d) (l := l) (D := D) (cy := cy) (sp := sp) hG hP hB (p0 := p0) (by omega)
  replace b := zz_fVv b TK (rfl : zz_ent zP_124 131 = (0, za_callV 3 169 4 134)) hM1 rfl rfl (zB_12 hB) (zz_lb rfl)
  replace b := zz_fw b T9 (rfl : zz_ent zP_124 134 = (0, za_goto 337)) (ze_goto)
  have m := zz_M_B (yn := zYN) (cn := zCN) (ml := zMQ) (rt := zRT) (y := 124) (as := [.ref 12, .int p0, .int (Int32.ofNat f)]) rfl rfl rfl rfl rfl (by decide +kernel) (zz_lb rfl) (zz_lb rfl) (zz_end_v (zr_124.1 337 rfl).1) b
  exact ⟨_, m, by show zB (T ++ ([32] ++ (zRg p0 11 ++ ([44] ++ (zRg p0 16 ++ ([44] ++ zRg p0 21)))))) _; simp only [List.append_assoc] at hB1 ⊢; exact hB1⟩
theorem zL_op_3 {l : Launch} {D : va_G} {cy : Nat → ClassId} {z0 : Nat} {sp : Nat → Nat} {G : State → Prop} {d : Nat} (hG : zz_GF z0 G) (hP : ∀ U, G U → zz_GD zS zS2 zLg z0 sp U) {T : List Nat} {w : zz_W} (hB : zB T w) {p0 : Int32} {f : Nat} (h51 : f < 51) (q1 : zz_ki zS2 2000001 f = some 3) (hT : T.length ≤ 7) : ∃ w', zz_M l zTs D zcl zFK cy z0 sp (zTys cy) G zYN zCN zMQ zRT (d + 11) 124 [.ref 12, .int p0, .int (Int32.ofNat f)] w [] w' ∧ zB (T ++ zOp 3 p0) w' := by
  have T9 := zt_124 (l := l) (D := D) (cy := cy) (z0 := z0) (sp := sp) (G := G) (d := (d + 10)) zz_k0_KS hG hP
  have TK := fun (K : zz_K) (h : zz_KS l D zcl zFK cy z0 sp (zTys cy) G zYN (fun y => Cond.code (zYN y) (zCN y) (zMQ y) (zRT y) :: zTs) (d + 10) K) => zt_124 h hG hP
  have b := zz_B_rf (l := l) (Ts := zTs) (D := D) (cl := zcl) (fk := zFK) (cy := cy) (z0 := z0) (sp := sp) (tys := zTys cy) (G := G) (own := "ToolMill$Codes") (mn := "operands") (nL := 4) (cc := prog_3_method_9_code) (d := (d + 10)) ((0, [(0, .ref 12), (1, .int p0), (2, .int (Int32.ofNat f))], [], w) : zz_F)
  replace b := zz_fw b T9 (rfl : zz_ent zP_124 0 = (0, za_iload 1 1)) (ze_iload rfl)
  replace b := zz_fw b T9 (rfl : zz_ent zP_124 1 = (0, za_i2s 2)) (ze_i2s rfl)
  replace b := zz_fw b T9 (rfl : zz_ent zP_124 2 = (0, za_istore 3 3)) (ze_istore (lv' := [(0, _), (1, _), (2, _)]) rfl)
  replace b := zz_fw b T9 (rfl : zz_ent zP_124 3 = (0, za_const (.ref 2000001) 6)) (ze_const)
  replace b := zz_fw b T9 (rfl : zz_ent zP_124 6 = (0, za_iload 2 7)) (ze_iload rfl)
  replace b := zz_fw b T9 (rfl : zz_ent zP_124 7 = (0, za_kl (zz_ki zS2) 8)) (ze_kl (by rw [zz_nI_ofNat (by omega)]; exact q1) rfl)
  replace b := zz_fw b T9 (rfl : zz_ent zP_124 8 = (0, za_tsw (0) (14) 337 [84, 98, 123, 137, 149, 161, 337, 173, 190, 190, 226, 248, 286, 305, 324])) (ze_tsw_k (t := 137) (by decide) (by decide))
  replace b := zz_fw b T9 (rfl : zz_ent zP_124 137 = (0, za_aload 0 138)) (ze_aload rfl)
  replace b := zz_fw b T9 (rfl : zz_ent zP_124 138 = (0, za_iload 1 139)) (ze_iload rfl)
  replace b := zz_fw b T9 (rfl : zz_ent zP_124 139 = (0, za_const (.int (Int32.ofNat 21)) 141)) (ze_const)
  replace b := zz_fw b T9 (rfl : zz_ent zP_124 141 = (0, za_const (.int (Int32.ofNat 16)) 143)) (ze_const)
  obtain ⟨w1, hM1, hB1⟩ := zL_two_21_16 (d := d + 1) (l := l) (D := D) (cy := cy) (sp := sp) hG hP hB (p0 := p0) (by omega)
  replace b := zz_fVv b TK (rfl : zz_ent zP_124 143 = (0, za_callV 3 166 3 146)) hM1 rfl rfl (zB_12 hB) (zz_lb rfl)
  replace b := zz_fw b T9 (rfl : zz_ent zP_124 146 = (0, za_goto 337)) (ze_goto)
  have m := zz_M_B (yn := zYN) (cn := zCN) (ml := zMQ) (rt := zRT) (y := 124) (as := [.ref 12, .int p0, .int (Int32.ofNat f)]) rfl rfl rfl rfl rfl (by decide +kernel) (zz_lb rfl) (zz_lb rfl) (zz_end_v (zr_124.1 337 rfl).1) b
  exact ⟨_, m, by show zB (T ++ ([32] ++ (zRg p0 21 ++ ([44] ++ zRg p0 16)))) _; simp only [List.append_assoc] at hB1 ⊢; exact hB1⟩
theorem zL_op_4 {l : Launch} {D : va_G} {cy : Nat → ClassId} {z0 : Nat} {sp : Nat → Nat} {G : State → Prop} {d : Nat} (hG : zz_GF z0 G) (hP : ∀ U, G U → zz_GD zS zS2 zLg z0 sp U) {T : List Nat} {w : zz_W} (hB : zB T w) {p0 : Int32} {f : Nat} (h51 : f < 51) (q1 : zz_ki zS2 2000001 f = some 4) (hT : T.length ≤ 7) : ∃ w', zz_M l zTs D zcl zFK cy z0 sp (zTys cy) G zYN zCN zMQ zRT (d + 11) 124 [.ref 12, .int p0, .int (Int32.ofNat f)] w [] w' ∧ zB (T ++ zOp 4 p0) w' := by
  have T9 := zt_124 (l := l) (D := D) (cy := cy) (z0 := z0) (sp := sp) (G := G) (d := (d + 10)) zz_k0_KS hG hP
  have TK := fun (K : zz_K) (h : zz_KS l D zcl zFK cy z0 sp (zTys cy) G zYN (fun y => Cond.code (zYN y) (zCN y) (zMQ y) (zRT y) :: zTs) (d + 10) K) => zt_124 h hG hP
  have b := zz_B_rf (l := l) (Ts := zTs) (D := D) (cl := zcl) (fk := zFK) (cy := cy) (z0 := z0) (sp := sp) (tys := zTys cy) (G := G) (own := "ToolMill$Codes") (mn := "operands") (nL := 4) (cc := prog_3_method_9_code) (d := (d + 10)) ((0, [(0, .ref 12), (1, .int p0), (2, .int (Int32.ofNat f))], [], w) : zz_F)
  replace b := zz_fw b T9 (rfl : zz_ent zP_124 0 = (0, za_iload 1 1)) (ze_iload rfl)
  replace b := zz_fw b T9 (rfl : zz_ent zP_124 1 = (0, za_i2s 2)) (ze_i2s rfl)
  replace b := zz_fw b T9 (rfl : zz_ent zP_124 2 = (0, za_istore 3 3)) (ze_istore (lv' := [(0, _), (1, _), (2, _)]) rfl)
  replace b := zz_fw b T9 (rfl : zz_ent zP_124 3 = (0, za_const (.ref 2000001) 6)) (ze_const)
  replace b := zz_fw b T9 (rfl : zz_ent zP_124 6 = (0, za_iload 2 7)) (ze_iload rfl)
  replace b := zz_fw b T9 (rfl : zz_ent zP_124 7 = (0, za_kl (zz_ki zS2) 8)) (ze_kl (by rw [zz_nI_ofNat (by omega)]; exact q1) rfl)
  replace b := zz_fw b T9 (rfl : zz_ent zP_124 8 = (0, za_tsw (0) (14) 337 [84, 98, 123, 137, 149, 161, 337, 173, 190, 190, 226, 248, 286, 305, 324])) (ze_tsw_k (t := 149) (by decide) (by decide))
  replace b := zz_fw b T9 (rfl : zz_ent zP_124 149 = (0, za_aload 0 150)) (ze_aload rfl)
  replace b := zz_fw b T9 (rfl : zz_ent zP_124 150 = (0, za_const (.int (Int32.ofNat 32)) 152)) (ze_const)
  replace b := zz_fw b T9 (rfl : zz_ent zP_124 152 = (0, za_iload 1 153)) (ze_iload rfl)
  replace b := zz_fw b T9 (rfl : zz_ent zP_124 153 = (0, za_const (.int (Int32.ofNat 11)) 155)) (ze_const)
  obtain ⟨w1, hM1, hB1⟩ := zL_one_11 (d := d + 2) (l := l) (D := D) (cy := cy) (sp := sp) hG hP hB (p0 := p0) (a := 32) (by decide) (by (try simp only [List.length_append, List.length_singleton, List.length_cons, List.length_nil]); omega)
  replace b := zz_fVv b TK (rfl : zz_ent zP_124 155 = (0, za_callV 3 168 3 158)) hM1 rfl rfl (zB_12 hB) (zz_lb rfl)
  replace b := zz_fw b T9 (rfl : zz_ent zP_124 158 = (0, za_goto 337)) (ze_goto)
  have m := zz_M_B (yn := zYN) (cn := zCN) (ml := zMQ) (rt := zRT) (y := 124) (as := [.ref 12, .int p0, .int (Int32.ofNat f)]) rfl rfl rfl rfl rfl (by decide +kernel) (zz_lb rfl) (zz_lb rfl) (zz_end_v (zr_124.1 337 rfl).1) b
  exact ⟨_, m, by show zB (T ++ ([32] ++ zRg p0 11)) _; simp only [List.append_assoc] at hB1 ⊢; exact hB1⟩
theorem zL_op_5 {l : Launch} {D : va_G} {cy : Nat → ClassId} {z0 : Nat} {sp : Nat → Nat} {G : State → Prop} {d : Nat} (hG : zz_GF z0 G) (hP : ∀ U, G U → zz_GD zS zS2 zLg z0 sp U) {T : List Nat} {w : zz_W} (hB : zB T w) {p0 : Int32} {f : Nat} (h51 : f < 51) (q1 : zz_ki zS2 2000001 f = some 5) (hT : T.length ≤ 7) : ∃ w', zz_M l zTs D zcl zFK cy z0 sp (zTys cy) G zYN zCN zMQ zRT (d + 11) 124 [.ref 12, .int p0, .int (Int32.ofNat f)] w [] w' ∧ zB (T ++ zOp 5 p0) w' := by
  have T9 := zt_124 (l := l) (D := D) (cy := cy) (z0 := z0) (sp := sp) (G := G) (d := (d + 10)) zz_k0_KS hG hP
  have TK := fun (K : zz_K) (h : zz_KS l D zcl zFK cy z0 sp (zTys cy) G zYN (fun y => Cond.code (zYN y) (zCN y) (zMQ y) (zRT y) :: zTs) (d + 10) K) => zt_124 h hG hP
  have b := zz_B_rf (l := l) (Ts := zTs) (D := D) (cl := zcl) (fk := zFK) (cy := cy) (z0 := z0) (sp := sp) (tys := zTys cy) (G := G) (own := "ToolMill$Codes") (mn := "operands") (nL := 4) (cc := prog_3_method_9_code) (d := (d + 10)) ((0, [(0, .ref 12), (1, .int p0), (2, .int (Int32.ofNat f))], [], w) : zz_F)
  replace b := zz_fw b T9 (rfl : zz_ent zP_124 0 = (0, za_iload 1 1)) (ze_iload rfl)
  replace b := zz_fw b T9 (rfl : zz_ent zP_124 1 = (0, za_i2s 2)) (ze_i2s rfl)
  replace b := zz_fw b T9 (rfl : zz_ent zP_124 2 = (0, za_istore 3 3)) (ze_istore (lv' := [(0, _), (1, _), (2, _)]) rfl)
  replace b := zz_fw b T9 (rfl : zz_ent zP_124 3 = (0, za_const (.ref 2000001) 6)) (ze_const)
  replace b := zz_fw b T9 (rfl : zz_ent zP_124 6 = (0, za_iload 2 7)) (ze_iload rfl)
  replace b := zz_fw b T9 (rfl : zz_ent zP_124 7 = (0, za_kl (zz_ki zS2) 8)) (ze_kl (by rw [zz_nI_ofNat (by omega)]; exact q1) rfl)
  replace b := zz_fw b T9 (rfl : zz_ent zP_124 8 = (0, za_tsw (0) (14) 337 [84, 98, 123, 137, 149, 161, 337, 173, 190, 190, 226, 248, 286, 305, 324])) (ze_tsw_k (t := 161) (by decide) (by decide))
  replace b := zz_fw b T9 (rfl : zz_ent zP_124 161 = (0, za_aload 0 162)) (ze_aload rfl)
  replace b := zz_fw b T9 (rfl : zz_ent zP_124 162 = (0, za_const (.int (Int32.ofNat 32)) 164)) (ze_const)
  replace b := zz_fw b T9 (rfl : zz_ent zP_124 164 = (0, za_iload 1 165)) (ze_iload rfl)
  replace b := zz_fw b T9 (rfl : zz_ent zP_124 165 = (0, za_const (.int (Int32.ofNat 21)) 167)) (ze_const)
  obtain ⟨w1, hM1, hB1⟩ := zL_one_21 (d := d + 2) (l := l) (D := D) (cy := cy) (sp := sp) hG hP hB (p0 := p0) (a := 32) (by decide) (by (try simp only [List.length_append, List.length_singleton, List.length_cons, List.length_nil]); omega)
  replace b := zz_fVv b TK (rfl : zz_ent zP_124 167 = (0, za_callV 3 168 3 170)) hM1 rfl rfl (zB_12 hB) (zz_lb rfl)
  replace b := zz_fw b T9 (rfl : zz_ent zP_124 170 = (0, za_goto 337)) (ze_goto)
  have m := zz_M_B (yn := zYN) (cn := zCN) (ml := zMQ) (rt := zRT) (y := 124) (as := [.ref 12, .int p0, .int (Int32.ofNat f)]) rfl rfl rfl rfl rfl (by decide +kernel) (zz_lb rfl) (zz_lb rfl) (zz_end_v (zr_124.1 337 rfl).1) b
  exact ⟨_, m, by show zB (T ++ ([32] ++ zRg p0 21)) _; simp only [List.append_assoc] at hB1 ⊢; exact hB1⟩
theorem zL_op_6 {l : Launch} {D : va_G} {cy : Nat → ClassId} {z0 : Nat} {sp : Nat → Nat} {G : State → Prop} {d : Nat} (hG : zz_GF z0 G) (hP : ∀ U, G U → zz_GD zS zS2 zLg z0 sp U) {T : List Nat} {w : zz_W} (hB : zB T w) {p0 : Int32} {f : Nat} (h51 : f < 51) (q1 : zz_ki zS2 2000001 f = some 6) (hT : T.length ≤ 7) : ∃ w', zz_M l zTs D zcl zFK cy z0 sp (zTys cy) G zYN zCN zMQ zRT (d + 11) 124 [.ref 12, .int p0, .int (Int32.ofNat f)] w [] w' ∧ zB (T ++ zOp 6 p0) w' := by
  have T9 := zt_124 (l := l) (D := D) (cy := cy) (z0 := z0) (sp := sp) (G := G) (d := (d + 10)) zz_k0_KS hG hP
  have TK := fun (K : zz_K) (h : zz_KS l D zcl zFK cy z0 sp (zTys cy) G zYN (fun y => Cond.code (zYN y) (zCN y) (zMQ y) (zRT y) :: zTs) (d + 10) K) => zt_124 h hG hP
  have b := zz_B_rf (l := l) (Ts := zTs) (D := D) (cl := zcl) (fk := zFK) (cy := cy) (z0 := z0) (sp := sp) (tys := zTys cy) (G := G) (own := "ToolMill$Codes") (mn := "operands") (nL := 4) (cc := prog_3_method_9_code) (d := (d + 10)) ((0, [(0, .ref 12), (1, .int p0), (2, .int (Int32.ofNat f))], [], w) : zz_F)
  replace b := zz_fw b T9 (rfl : zz_ent zP_124 0 = (0, za_iload 1 1)) (ze_iload rfl)
  replace b := zz_fw b T9 (rfl : zz_ent zP_124 1 = (0, za_i2s 2)) (ze_i2s rfl)
  replace b := zz_fw b T9 (rfl : zz_ent zP_124 2 = (0, za_istore 3 3)) (ze_istore (lv' := [(0, _), (1, _), (2, _)]) rfl)
  replace b := zz_fw b T9 (rfl : zz_ent zP_124 3 = (0, za_const (.ref 2000001) 6)) (ze_const)
  replace b := zz_fw b T9 (rfl : zz_ent zP_124 6 = (0, za_iload 2 7)) (ze_iload rfl)
  replace b := zz_fw b T9 (rfl : zz_ent zP_124 7 = (0, za_kl (zz_ki zS2) 8)) (ze_kl (by rw [zz_nI_ofNat (by omega)]; exact q1) rfl)
  replace b := zz_fw b T9 (rfl : zz_ent zP_124 8 = (0, za_tsw (0) (14) 337 [84, 98, 123, 137, 149, 161, 337, 173, 190, 190, 226, 248, 286, 305, 324])) (ze_tsw_k (t := 337) (by decide) (by decide))
  have m := zz_M_B (yn := zYN) (cn := zCN) (ml := zMQ) (rt := zRT) (y := 124) (as := [.ref 12, .int p0, .int (Int32.ofNat f)]) rfl rfl rfl rfl rfl (by decide +kernel) (zz_lb rfl) (zz_lb rfl) (zz_end_v (zr_124.1 337 rfl).1) b
  exact ⟨_, m, by show zB (T ++ []) w; rw [List.append_nil]; exact hB⟩
theorem zL_op_7 {l : Launch} {D : va_G} {cy : Nat → ClassId} {z0 : Nat} {sp : Nat → Nat} {G : State → Prop} {d : Nat} (hG : zz_GF z0 G) (hP : ∀ U, G U → zz_GD zS zS2 zLg z0 sp U) {T : List Nat} {w : zz_W} (hB : zB T w) {p0 : Int32} {f : Nat} (h51 : f < 51) (q1 : zz_ki zS2 2000001 f = some 7) (hT : T.length ≤ 7) : ∃ w', zz_M l zTs D zcl zFK cy z0 sp (zTys cy) G zYN zCN zMQ zRT (d + 11) 124 [.ref 12, .int p0, .int (Int32.ofNat f)] w [] w' ∧ zB (T ++ zOp 7 p0) w' := by
  have T9 := zt_124 (l := l) (D := D) (cy := cy) (z0 := z0) (sp := sp) (G := G) (d := (d + 10)) zz_k0_KS hG hP
  have TK := fun (K : zz_K) (h : zz_KS l D zcl zFK cy z0 sp (zTys cy) G zYN (fun y => Cond.code (zYN y) (zCN y) (zMQ y) (zRT y) :: zTs) (d + 10) K) => zt_124 h hG hP
  have b := zz_B_rf (l := l) (Ts := zTs) (D := D) (cl := zcl) (fk := zFK) (cy := cy) (z0 := z0) (sp := sp) (tys := zTys cy) (G := G) (own := "ToolMill$Codes") (mn := "operands") (nL := 4) (cc := prog_3_method_9_code) (d := (d + 10)) ((0, [(0, .ref 12), (1, .int p0), (2, .int (Int32.ofNat f))], [], w) : zz_F)
  replace b := zz_fw b T9 (rfl : zz_ent zP_124 0 = (0, za_iload 1 1)) (ze_iload rfl)
  replace b := zz_fw b T9 (rfl : zz_ent zP_124 1 = (0, za_i2s 2)) (ze_i2s rfl)
  replace b := zz_fw b T9 (rfl : zz_ent zP_124 2 = (0, za_istore 3 3)) (ze_istore (lv' := [(0, _), (1, _), (2, _)]) rfl)
  replace b := zz_fw b T9 (rfl : zz_ent zP_124 3 = (0, za_const (.ref 2000001) 6)) (ze_const)
  replace b := zz_fw b T9 (rfl : zz_ent zP_124 6 = (0, za_iload 2 7)) (ze_iload rfl)
  replace b := zz_fw b T9 (rfl : zz_ent zP_124 7 = (0, za_kl (zz_ki zS2) 8)) (ze_kl (by rw [zz_nI_ofNat (by omega)]; exact q1) rfl)
  replace b := zz_fw b T9 (rfl : zz_ent zP_124 8 = (0, za_tsw (0) (14) 337 [84, 98, 123, 137, 149, 161, 337, 173, 190, 190, 226, 248, 286, 305, 324])) (ze_tsw_k (t := 173) (by decide) (by decide))
  replace b := zz_fw b T9 (rfl : zz_ent zP_124 173 = (0, za_aload 0 174)) (ze_aload rfl)
  replace b := zz_fw b T9 (rfl : zz_ent zP_124 174 = (0, za_const (.int (Int32.ofNat 32)) 176)) (ze_const)
  replace b := zz_fw b T9 (rfl : zz_ent zP_124 176 = (0, za_iload 1 177)) (ze_iload rfl)
  replace b := zz_fw b T9 (rfl : zz_ent zP_124 177 = (0, za_const (.int (Int32.ofNat 16)) 179)) (ze_const)
  replace b := zz_fw b T9 (rfl : zz_ent zP_124 179 = (0, za_iushr 180)) (ze_iushr rfl)
  replace b := zz_fw b T9 (rfl : zz_ent zP_124 180 = (0, za_const (.int (Int32.ofNat 1023)) 183)) (ze_const)
  replace b := zz_fw b T9 (rfl : zz_ent zP_124 183 = (0, za_iand 184)) (ze_iand (zF_eq p0 16 10 1023 (by decide) (by decide) rfl))
  obtain ⟨w1, hM1, hB1⟩ := zL_amt (d := d + 3) (l := l) (D := D) (cy := cy) (sp := sp) hG hP hB (p0 := Int32.ofNat (zF p0 16 10)) (a := 32) (by decide) (by (try simp only [List.length_append, List.length_singleton, List.length_cons, List.length_nil]); omega)
  replace b := zz_fVv b TK (rfl : zz_ent zP_124 184 = (0, za_callV 3 167 2 187)) hM1 rfl rfl (zB_12 hB) (zz_lb rfl)
  replace b := zz_fw b T9 (rfl : zz_ent zP_124 187 = (0, za_goto 337)) (ze_goto)
  have m := zz_M_B (yn := zYN) (cn := zCN) (ml := zMQ) (rt := zRT) (y := 124) (as := [.ref 12, .int p0, .int (Int32.ofNat f)]) rfl rfl rfl rfl rfl (by decide +kernel) (zz_lb rfl) (zz_lb rfl) (zz_end_v (zr_124.1 337 rfl).1) b
  exact ⟨_, m, by show zB (T ++ ([32] ++ zdc (Int32.ofNat (zF p0 16 10)))) _; simp only [List.append_assoc] at hB1 ⊢; exact hB1⟩
theorem zL_op_8 {l : Launch} {D : va_G} {cy : Nat → ClassId} {z0 : Nat} {sp : Nat → Nat} {G : State → Prop} {d : Nat} (hG : zz_GF z0 G) (hP : ∀ U, G U → zz_GD zS zS2 zLg z0 sp U) {T : List Nat} {w : zz_W} (hB : zB T w) {p0 : Int32} {f : Nat} (h51 : f < 51) (q1 : zz_ki zS2 2000001 f = some 8) (hT : T.length ≤ 7) : ∃ w', zz_M l zTs D zcl zFK cy z0 sp (zTys cy) G zYN zCN zMQ zRT (d + 11) 124 [.ref 12, .int p0, .int (Int32.ofNat f)] w [] w' ∧ zB (T ++ zOp 8 p0) w' := by
  have T9 := zt_124 (l := l) (D := D) (cy := cy) (z0 := z0) (sp := sp) (G := G) (d := (d + 10)) zz_k0_KS hG hP
  have TK := fun (K : zz_K) (h : zz_KS l D zcl zFK cy z0 sp (zTys cy) G zYN (fun y => Cond.code (zYN y) (zCN y) (zMQ y) (zRT y) :: zTs) (d + 10) K) => zt_124 h hG hP
  have b := zz_B_rf (l := l) (Ts := zTs) (D := D) (cl := zcl) (fk := zFK) (cy := cy) (z0 := z0) (sp := sp) (tys := zTys cy) (G := G) (own := "ToolMill$Codes") (mn := "operands") (nL := 4) (cc := prog_3_method_9_code) (d := (d + 10)) ((0, [(0, .ref 12), (1, .int p0), (2, .int (Int32.ofNat f))], [], w) : zz_F)
  replace b := zz_fw b T9 (rfl : zz_ent zP_124 0 = (0, za_iload 1 1)) (ze_iload rfl)
  replace b := zz_fw b T9 (rfl : zz_ent zP_124 1 = (0, za_i2s 2)) (ze_i2s rfl)
  replace b := zz_fw b T9 (rfl : zz_ent zP_124 2 = (0, za_istore 3 3)) (ze_istore (lv' := [(0, _), (1, _), (2, _)]) rfl)
  replace b := zz_fw b T9 (rfl : zz_ent zP_124 3 = (0, za_const (.ref 2000001) 6)) (ze_const)
  replace b := zz_fw b T9 (rfl : zz_ent zP_124 6 = (0, za_iload 2 7)) (ze_iload rfl)
  replace b := zz_fw b T9 (rfl : zz_ent zP_124 7 = (0, za_kl (zz_ki zS2) 8)) (ze_kl (by rw [zz_nI_ofNat (by omega)]; exact q1) rfl)
  replace b := zz_fw b T9 (rfl : zz_ent zP_124 8 = (0, za_tsw (0) (14) 337 [84, 98, 123, 137, 149, 161, 337, 173, 190, 190, 226, 248, 286, 305, 324])) (ze_tsw_k (t := 190) (by decide) (by decide))
  replace b := zz_fw b T9 (rfl : zz_ent zP_124 190 = (0, za_aload 0 191)) (ze_aload rfl)
  replace b := zz_fw b T9 (rfl : zz_ent zP_124 191 = (0, za_iload 1 192)) (ze_iload rfl)
  replace b := zz_fw b T9 (rfl : zz_ent zP_124 192 = (0, za_const (.int (Int32.ofNat 16)) 194)) (ze_const)
  replace b := zz_fw b T9 (rfl : zz_ent zP_124 194 = (0, za_const (.int (Int32.ofNat 21)) 196)) (ze_const)
  obtain ⟨w1, hM1, hB1⟩ := zL_two_16_21 (d := d + 1) (l := l) (D := D) (cy := cy) (sp := sp) hG hP hB (p0 := p0) (by omega)
  replace b := zz_fVv b TK (rfl : zz_ent zP_124 196 = (0, za_callV 3 166 3 199)) hM1 rfl rfl (zB_12 hB) (zz_lb rfl)
  replace b := zz_fw b T9 (rfl : zz_ent zP_124 199 = (0, za_aload 0 200)) (ze_aload rfl)
  replace b := zz_fw b T9 (rfl : zz_ent zP_124 200 = (0, za_const (.int (Int32.ofNat 44)) 202)) (ze_const)
  replace b := zz_fw b T9 (rfl : zz_ent zP_124 202 = (0, za_const (.ref 2000001) 205)) (ze_const)
  replace b := zz_fw b T9 (rfl : zz_ent zP_124 205 = (0, za_iload 2 206)) (ze_iload rfl)
  replace b := zz_fw b T9 (rfl : zz_ent zP_124 206 = (0, za_kl (zz_ki zS2) 207)) (ze_kl (by rw [zz_nI_ofNat (by omega)]; exact q1) rfl)
  replace b := zz_fw b T9 (rfl : zz_ent zP_124 207 = (0, za_const (.int (Int32.ofNat 8)) 209)) (ze_const)
  replace b := zz_fw b T9 (rfl : zz_ent zP_124 209 = (0, za_icmp_ne 216 212)) (ze_icmp_ne_f (by decide))
  replace b := zz_fw b T9 (rfl : zz_ent zP_124 212 = (0, za_iload 3 213)) (ze_iload rfl)
  replace b := zz_fw b T9 (rfl : zz_ent zP_124 213 = (0, za_goto 220)) (ze_goto)
  obtain ⟨w2, hM2, hB2⟩ := zL_amt (d := d + 3) (l := l) (D := D) (cy := cy) (sp := sp) hG hP hB1 (p0 := p0.toInt16.toInt32) (a := 44) (by decide) (by have g16 := zRg_5 p0 16; have g21 := zRg_5 p0 21; (try simp only [List.length_append, List.length_singleton, List.length_cons, List.length_nil]); omega)
  replace b := zz_fVv b TK (rfl : zz_ent zP_124 220 = (0, za_callV 3 167 2 223)) hM2 rfl rfl (zB_12 hB1) (zz_lb rfl)
  replace b := zz_fw b T9 (rfl : zz_ent zP_124 223 = (0, za_goto 337)) (ze_goto)
  have m := zz_M_B (yn := zYN) (cn := zCN) (ml := zMQ) (rt := zRT) (y := 124) (as := [.ref 12, .int p0, .int (Int32.ofNat f)]) rfl rfl rfl rfl rfl (by decide +kernel) (zz_lb rfl) (zz_lb rfl) (zz_end_v (zr_124.1 337 rfl).1) b
  exact ⟨_, m, by show zB (T ++ ([32] ++ (zRg p0 16 ++ ([44] ++ (zRg p0 21 ++ ([44] ++ zdc p0.toInt16.toInt32)))))) _; simp only [List.append_assoc] at hB2 ⊢; exact hB2⟩
theorem zL_op_9 {l : Launch} {D : va_G} {cy : Nat → ClassId} {z0 : Nat} {sp : Nat → Nat} {G : State → Prop} {d : Nat} (hG : zz_GF z0 G) (hP : ∀ U, G U → zz_GD zS zS2 zLg z0 sp U) {T : List Nat} {w : zz_W} (hB : zB T w) {p0 : Int32} {f : Nat} (h51 : f < 51) (q1 : zz_ki zS2 2000001 f = some 9) (hT : T.length ≤ 7) : ∃ w', zz_M l zTs D zcl zFK cy z0 sp (zTys cy) G zYN zCN zMQ zRT (d + 11) 124 [.ref 12, .int p0, .int (Int32.ofNat f)] w [] w' ∧ zB (T ++ zOp 9 p0) w' := by
  have T9 := zt_124 (l := l) (D := D) (cy := cy) (z0 := z0) (sp := sp) (G := G) (d := (d + 10)) zz_k0_KS hG hP
  have TK := fun (K : zz_K) (h : zz_KS l D zcl zFK cy z0 sp (zTys cy) G zYN (fun y => Cond.code (zYN y) (zCN y) (zMQ y) (zRT y) :: zTs) (d + 10) K) => zt_124 h hG hP
  have b := zz_B_rf (l := l) (Ts := zTs) (D := D) (cl := zcl) (fk := zFK) (cy := cy) (z0 := z0) (sp := sp) (tys := zTys cy) (G := G) (own := "ToolMill$Codes") (mn := "operands") (nL := 4) (cc := prog_3_method_9_code) (d := (d + 10)) ((0, [(0, .ref 12), (1, .int p0), (2, .int (Int32.ofNat f))], [], w) : zz_F)
  replace b := zz_fw b T9 (rfl : zz_ent zP_124 0 = (0, za_iload 1 1)) (ze_iload rfl)
  replace b := zz_fw b T9 (rfl : zz_ent zP_124 1 = (0, za_i2s 2)) (ze_i2s rfl)
  replace b := zz_fw b T9 (rfl : zz_ent zP_124 2 = (0, za_istore 3 3)) (ze_istore (lv' := [(0, _), (1, _), (2, _)]) rfl)
  replace b := zz_fw b T9 (rfl : zz_ent zP_124 3 = (0, za_const (.ref 2000001) 6)) (ze_const)
  replace b := zz_fw b T9 (rfl : zz_ent zP_124 6 = (0, za_iload 2 7)) (ze_iload rfl)
  replace b := zz_fw b T9 (rfl : zz_ent zP_124 7 = (0, za_kl (zz_ki zS2) 8)) (ze_kl (by rw [zz_nI_ofNat (by omega)]; exact q1) rfl)
  replace b := zz_fw b T9 (rfl : zz_ent zP_124 8 = (0, za_tsw (0) (14) 337 [84, 98, 123, 137, 149, 161, 337, 173, 190, 190, 226, 248, 286, 305, 324])) (ze_tsw_k (t := 190) (by decide) (by decide))
  replace b := zz_fw b T9 (rfl : zz_ent zP_124 190 = (0, za_aload 0 191)) (ze_aload rfl)
  replace b := zz_fw b T9 (rfl : zz_ent zP_124 191 = (0, za_iload 1 192)) (ze_iload rfl)
  replace b := zz_fw b T9 (rfl : zz_ent zP_124 192 = (0, za_const (.int (Int32.ofNat 16)) 194)) (ze_const)
  replace b := zz_fw b T9 (rfl : zz_ent zP_124 194 = (0, za_const (.int (Int32.ofNat 21)) 196)) (ze_const)
  obtain ⟨w1, hM1, hB1⟩ := zL_two_16_21 (d := d + 1) (l := l) (D := D) (cy := cy) (sp := sp) hG hP hB (p0 := p0) (by omega)
  replace b := zz_fVv b TK (rfl : zz_ent zP_124 196 = (0, za_callV 3 166 3 199)) hM1 rfl rfl (zB_12 hB) (zz_lb rfl)
  replace b := zz_fw b T9 (rfl : zz_ent zP_124 199 = (0, za_aload 0 200)) (ze_aload rfl)
  replace b := zz_fw b T9 (rfl : zz_ent zP_124 200 = (0, za_const (.int (Int32.ofNat 44)) 202)) (ze_const)
  replace b := zz_fw b T9 (rfl : zz_ent zP_124 202 = (0, za_const (.ref 2000001) 205)) (ze_const)
  replace b := zz_fw b T9 (rfl : zz_ent zP_124 205 = (0, za_iload 2 206)) (ze_iload rfl)
  replace b := zz_fw b T9 (rfl : zz_ent zP_124 206 = (0, za_kl (zz_ki zS2) 207)) (ze_kl (by rw [zz_nI_ofNat (by omega)]; exact q1) rfl)
  replace b := zz_fw b T9 (rfl : zz_ent zP_124 207 = (0, za_const (.int (Int32.ofNat 8)) 209)) (ze_const)
  replace b := zz_fw b T9 (rfl : zz_ent zP_124 209 = (0, za_icmp_ne 216 212)) (ze_icmp_ne_t (by decide))
  replace b := zz_fw b T9 (rfl : zz_ent zP_124 216 = (0, za_iload 3 217)) (ze_iload rfl)
  replace b := zz_fw b T9 (rfl : zz_ent zP_124 217 = (0, za_const (.int (Int32.ofNat 65535)) 219)) (ze_const)
  replace b := zz_fw b T9 (rfl : zz_ent zP_124 219 = (0, za_iand 220)) (ze_iand rfl)
  obtain ⟨w2, hM2, hB2⟩ := zL_amt (d := d + 3) (l := l) (D := D) (cy := cy) (sp := sp) hG hP hB1 (p0 := (p0.toInt16.toInt32 &&& Int32.ofNat 65535)) (a := 44) (by decide) (by have g16 := zRg_5 p0 16; have g21 := zRg_5 p0 21; (try simp only [List.length_append, List.length_singleton, List.length_cons, List.length_nil]); omega)
  replace b := zz_fVv b TK (rfl : zz_ent zP_124 220 = (0, za_callV 3 167 2 223)) hM2 rfl rfl (zB_12 hB1) (zz_lb rfl)
  replace b := zz_fw b T9 (rfl : zz_ent zP_124 223 = (0, za_goto 337)) (ze_goto)
  have m := zz_M_B (yn := zYN) (cn := zCN) (ml := zMQ) (rt := zRT) (y := 124) (as := [.ref 12, .int p0, .int (Int32.ofNat f)]) rfl rfl rfl rfl rfl (by decide +kernel) (zz_lb rfl) (zz_lb rfl) (zz_end_v (zr_124.1 337 rfl).1) b
  exact ⟨_, m, by show zB (T ++ ([32] ++ (zRg p0 16 ++ ([44] ++ (zRg p0 21 ++ ([44] ++ zdc (p0.toInt16.toInt32 &&& Int32.ofNat 65535))))))) _; simp only [List.append_assoc] at hB2 ⊢; exact hB2⟩
theorem zL_op_10 {l : Launch} {D : va_G} {cy : Nat → ClassId} {z0 : Nat} {sp : Nat → Nat} {G : State → Prop} {d : Nat} (hG : zz_GF z0 G) (hP : ∀ U, G U → zz_GD zS zS2 zLg z0 sp U) {T : List Nat} {w : zz_W} (hB : zB T w) {p0 : Int32} {f : Nat} (h51 : f < 51) (q1 : zz_ki zS2 2000001 f = some 10) (hT : T.length ≤ 7) : ∃ w', zz_M l zTs D zcl zFK cy z0 sp (zTys cy) G zYN zCN zMQ zRT (d + 11) 124 [.ref 12, .int p0, .int (Int32.ofNat f)] w [] w' ∧ zB (T ++ zOp 10 p0) w' := by
  have T9 := zt_124 (l := l) (D := D) (cy := cy) (z0 := z0) (sp := sp) (G := G) (d := (d + 10)) zz_k0_KS hG hP
  have TK := fun (K : zz_K) (h : zz_KS l D zcl zFK cy z0 sp (zTys cy) G zYN (fun y => Cond.code (zYN y) (zCN y) (zMQ y) (zRT y) :: zTs) (d + 10) K) => zt_124 h hG hP
  have b := zz_B_rf (l := l) (Ts := zTs) (D := D) (cl := zcl) (fk := zFK) (cy := cy) (z0 := z0) (sp := sp) (tys := zTys cy) (G := G) (own := "ToolMill$Codes") (mn := "operands") (nL := 4) (cc := prog_3_method_9_code) (d := (d + 10)) ((0, [(0, .ref 12), (1, .int p0), (2, .int (Int32.ofNat f))], [], w) : zz_F)
  replace b := zz_fw b T9 (rfl : zz_ent zP_124 0 = (0, za_iload 1 1)) (ze_iload rfl)
  replace b := zz_fw b T9 (rfl : zz_ent zP_124 1 = (0, za_i2s 2)) (ze_i2s rfl)
  replace b := zz_fw b T9 (rfl : zz_ent zP_124 2 = (0, za_istore 3 3)) (ze_istore (lv' := [(0, _), (1, _), (2, _)]) rfl)
  replace b := zz_fw b T9 (rfl : zz_ent zP_124 3 = (0, za_const (.ref 2000001) 6)) (ze_const)
  replace b := zz_fw b T9 (rfl : zz_ent zP_124 6 = (0, za_iload 2 7)) (ze_iload rfl)
  replace b := zz_fw b T9 (rfl : zz_ent zP_124 7 = (0, za_kl (zz_ki zS2) 8)) (ze_kl (by rw [zz_nI_ofNat (by omega)]; exact q1) rfl)
  replace b := zz_fw b T9 (rfl : zz_ent zP_124 8 = (0, za_tsw (0) (14) 337 [84, 98, 123, 137, 149, 161, 337, 173, 190, 190, 226, 248, 286, 305, 324])) (ze_tsw_k (t := 226) (by decide) (by decide))
  replace b := zz_fw b T9 (rfl : zz_ent zP_124 226 = (0, za_aload 0 227)) (ze_aload rfl)
  replace b := zz_fw b T9 (rfl : zz_ent zP_124 227 = (0, za_const (.int (Int32.ofNat 32)) 229)) (ze_const)
  replace b := zz_fw b T9 (rfl : zz_ent zP_124 229 = (0, za_iload 1 230)) (ze_iload rfl)
  replace b := zz_fw b T9 (rfl : zz_ent zP_124 230 = (0, za_const (.int (Int32.ofNat 16)) 232)) (ze_const)
  obtain ⟨w1, hM1, hB1⟩ := zL_one_16 (d := d + 2) (l := l) (D := D) (cy := cy) (sp := sp) hG hP hB (p0 := p0) (a := 32) (by decide) (by (try simp only [List.length_append, List.length_singleton, List.length_cons, List.length_nil]); omega)
  replace b := zz_fVv b TK (rfl : zz_ent zP_124 232 = (0, za_callV 3 168 3 235)) hM1 rfl rfl (zB_12 hB) (zz_lb rfl)
  replace b := zz_fw b T9 (rfl : zz_ent zP_124 235 = (0, za_aload 0 236)) (ze_aload rfl)
  replace b := zz_fw b T9 (rfl : zz_ent zP_124 236 = (0, za_const (.int (Int32.ofNat 44)) 238)) (ze_const)
  replace b := zz_fw b T9 (rfl : zz_ent zP_124 238 = (0, za_iload 3 239)) (ze_iload rfl)
  replace b := zz_fw b T9 (rfl : zz_ent zP_124 239 = (0, za_const (.int (Int32.ofNat 65535)) 241)) (ze_const)
  replace b := zz_fw b T9 (rfl : zz_ent zP_124 241 = (0, za_iand 242)) (ze_iand rfl)
  obtain ⟨w2, hM2, hB2⟩ := zL_amt (d := d + 3) (l := l) (D := D) (cy := cy) (sp := sp) hG hP hB1 (p0 := (p0.toInt16.toInt32 &&& Int32.ofNat 65535)) (a := 44) (by decide) (by have g16 := zRg_5 p0 16; (try simp only [List.length_append, List.length_singleton, List.length_cons, List.length_nil]); omega)
  replace b := zz_fVv b TK (rfl : zz_ent zP_124 242 = (0, za_callV 3 167 2 245)) hM2 rfl rfl (zB_12 hB1) (zz_lb rfl)
  replace b := zz_fw b T9 (rfl : zz_ent zP_124 245 = (0, za_goto 337)) (ze_goto)
  have m := zz_M_B (yn := zYN) (cn := zCN) (ml := zMQ) (rt := zRT) (y := 124) (as := [.ref 12, .int p0, .int (Int32.ofNat f)]) rfl rfl rfl rfl rfl (by decide +kernel) (zz_lb rfl) (zz_lb rfl) (zz_end_v (zr_124.1 337 rfl).1) b
  exact ⟨_, m, by show zB (T ++ ([32] ++ (zRg p0 16 ++ ([44] ++ zdc (p0.toInt16.toInt32 &&& Int32.ofNat 65535))))) _; simp only [List.append_assoc] at hB2 ⊢; exact hB2⟩
theorem zL_op_11 {l : Launch} {D : va_G} {cy : Nat → ClassId} {z0 : Nat} {sp : Nat → Nat} {G : State → Prop} {d : Nat} (hG : zz_GF z0 G) (hP : ∀ U, G U → zz_GD zS zS2 zLg z0 sp U) {T : List Nat} {w : zz_W} (hB : zB T w) {p0 : Int32} {f : Nat} (h51 : f < 51) (q1 : zz_ki zS2 2000001 f = some 11) (hT : T.length ≤ 7) : ∃ w', zz_M l zTs D zcl zFK cy z0 sp (zTys cy) G zYN zCN zMQ zRT (d + 11) 124 [.ref 12, .int p0, .int (Int32.ofNat f)] w [] w' ∧ zB (T ++ zOp 11 p0) w' := by
  have T9 := zt_124 (l := l) (D := D) (cy := cy) (z0 := z0) (sp := sp) (G := G) (d := (d + 10)) zz_k0_KS hG hP
  have TK := fun (K : zz_K) (h : zz_KS l D zcl zFK cy z0 sp (zTys cy) G zYN (fun y => Cond.code (zYN y) (zCN y) (zMQ y) (zRT y) :: zTs) (d + 10) K) => zt_124 h hG hP
  have b := zz_B_rf (l := l) (Ts := zTs) (D := D) (cl := zcl) (fk := zFK) (cy := cy) (z0 := z0) (sp := sp) (tys := zTys cy) (G := G) (own := "ToolMill$Codes") (mn := "operands") (nL := 4) (cc := prog_3_method_9_code) (d := (d + 10)) ((0, [(0, .ref 12), (1, .int p0), (2, .int (Int32.ofNat f))], [], w) : zz_F)
  replace b := zz_fw b T9 (rfl : zz_ent zP_124 0 = (0, za_iload 1 1)) (ze_iload rfl)
  replace b := zz_fw b T9 (rfl : zz_ent zP_124 1 = (0, za_i2s 2)) (ze_i2s rfl)
  replace b := zz_fw b T9 (rfl : zz_ent zP_124 2 = (0, za_istore 3 3)) (ze_istore (lv' := [(0, _), (1, _), (2, _)]) rfl)
  replace b := zz_fw b T9 (rfl : zz_ent zP_124 3 = (0, za_const (.ref 2000001) 6)) (ze_const)
  replace b := zz_fw b T9 (rfl : zz_ent zP_124 6 = (0, za_iload 2 7)) (ze_iload rfl)
  replace b := zz_fw b T9 (rfl : zz_ent zP_124 7 = (0, za_kl (zz_ki zS2) 8)) (ze_kl (by rw [zz_nI_ofNat (by omega)]; exact q1) rfl)
  replace b := zz_fw b T9 (rfl : zz_ent zP_124 8 = (0, za_tsw (0) (14) 337 [84, 98, 123, 137, 149, 161, 337, 173, 190, 190, 226, 248, 286, 305, 324])) (ze_tsw_k (t := 248) (by decide) (by decide))
  replace b := zz_fw b T9 (rfl : zz_ent zP_124 248 = (0, za_aload 0 249)) (ze_aload rfl)
  replace b := zz_fw b T9 (rfl : zz_ent zP_124 249 = (0, za_const (.int (Int32.ofNat 32)) 251)) (ze_const)
  replace b := zz_fw b T9 (rfl : zz_ent zP_124 251 = (0, za_iload 1 252)) (ze_iload rfl)
  replace b := zz_fw b T9 (rfl : zz_ent zP_124 252 = (0, za_const (.int (Int32.ofNat 16)) 254)) (ze_const)
  obtain ⟨w1, hM1, hB1⟩ := zL_one_16 (d := d + 2) (l := l) (D := D) (cy := cy) (sp := sp) hG hP hB (p0 := p0) (a := 32) (by decide) (by (try simp only [List.length_append, List.length_singleton, List.length_cons, List.length_nil]); omega)
  replace b := zz_fVv b TK (rfl : zz_ent zP_124 254 = (0, za_callV 3 168 3 257)) hM1 rfl rfl (zB_12 hB) (zz_lb rfl)
  replace b := zz_fw b T9 (rfl : zz_ent zP_124 257 = (0, za_aload 0 258)) (ze_aload rfl)
  replace b := zz_fw b T9 (rfl : zz_ent zP_124 258 = (0, za_const (.int (Int32.ofNat 44)) 260)) (ze_const)
  replace b := zz_fw b T9 (rfl : zz_ent zP_124 260 = (0, za_iload 3 261)) (ze_iload rfl)
  obtain ⟨w2, hM2, hB2⟩ := zL_amt (d := d + 3) (l := l) (D := D) (cy := cy) (sp := sp) hG hP hB1 (p0 := p0.toInt16.toInt32) (a := 44) (by decide) (by have g16 := zRg_5 p0 16; (try simp only [List.length_append, List.length_singleton, List.length_cons, List.length_nil]); omega)
  replace b := zz_fVv b TK (rfl : zz_ent zP_124 261 = (0, za_callV 3 167 2 264)) hM2 rfl rfl (zB_12 hB1) (zz_lb rfl)
  replace b := zz_fw b T9 (rfl : zz_ent zP_124 264 = (0, za_aload 0 265)) (ze_aload rfl)
  replace b := zz_fw b T9 (rfl : zz_ent zP_124 265 = (0, za_const (.int (Int32.ofNat 40)) 267)) (ze_const)
  replace b := zz_fw b T9 (rfl : zz_ent zP_124 267 = (0, za_iload 1 268)) (ze_iload rfl)
  replace b := zz_fw b T9 (rfl : zz_ent zP_124 268 = (0, za_const (.int (Int32.ofNat 21)) 270)) (ze_const)
  obtain ⟨w3, hM3, hB3⟩ := zL_one_21 (d := d + 2) (l := l) (D := D) (cy := cy) (sp := sp) hG hP hB2 (p0 := p0) (a := 40) (by decide) (by have g16 := zRg_5 p0 16; have h11 := zdc_11 p0.toInt16.toInt32; (try simp only [List.length_append, List.length_singleton, List.length_cons, List.length_nil]); omega)
  replace b := zz_fVv b TK (rfl : zz_ent zP_124 270 = (0, za_callV 3 168 3 273)) hM3 rfl rfl (zB_12 hB2) (zz_lb rfl)
  replace b := zz_fw b T9 (rfl : zz_ent zP_124 273 = (0, za_aload 0 274)) (ze_aload rfl)
  replace b := zz_fw b T9 (rfl : zz_ent zP_124 274 = (0, za_getA 3 4 277)) (ze_getA (zB_o hB3 zh_12 (by decide) (by decide) (by decide)) (by decide) zv_12_4)
  replace b := zz_fw b T9 (rfl : zz_ent zP_124 277 = (0, za_const (.int (Int32.ofNat 41)) 279)) (ze_const)
  obtain ⟨w4, hM4, hB4⟩ := zL_apc (d := d + 4) (l := l) (D := D) (cy := cy) (sp := sp) hG hP hB3 (x := 41) (by have g16 := zRg_5 p0 16; have g21 := zRg_5 p0 21; have h11 := zdc_11 p0.toInt16.toInt32; (try simp only [List.length_append, List.length_singleton, List.length_cons, List.length_nil]); omega) (by decide)
  replace b := zz_fVi b TK (rfl : zz_ent zP_124 279 = (0, za_callV 13 125 1 282)) hM4 rfl rfl (zB_ic hB3) (zz_lb rfl)
  replace b := zz_fw b T9 (rfl : zz_ent zP_124 282 = (0, za_pop 283)) (ze_pop rfl)
  replace b := zz_fw b T9 (rfl : zz_ent zP_124 283 = (0, za_goto 337)) (ze_goto)
  have m := zz_M_B (yn := zYN) (cn := zCN) (ml := zMQ) (rt := zRT) (y := 124) (as := [.ref 12, .int p0, .int (Int32.ofNat f)]) rfl rfl rfl rfl rfl (by decide +kernel) (zz_lb rfl) (zz_lb rfl) (zz_end_v (zr_124.1 337 rfl).1) b
  exact ⟨_, m, by show zB (T ++ ([32] ++ (zRg p0 16 ++ ([44] ++ (zdc p0.toInt16.toInt32 ++ ([40] ++ (zRg p0 21 ++ [41]))))))) _; simp only [List.append_assoc] at hB4 ⊢; exact hB4⟩
theorem zL_op_12 {l : Launch} {D : va_G} {cy : Nat → ClassId} {z0 : Nat} {sp : Nat → Nat} {G : State → Prop} {d : Nat} (hG : zz_GF z0 G) (hP : ∀ U, G U → zz_GD zS zS2 zLg z0 sp U) {T : List Nat} {w : zz_W} (hB : zB T w) {p0 : Int32} {f : Nat} (h51 : f < 51) (q1 : zz_ki zS2 2000001 f = some 12) (hT : T.length ≤ 7) : ∃ w', zz_M l zTs D zcl zFK cy z0 sp (zTys cy) G zYN zCN zMQ zRT (d + 11) 124 [.ref 12, .int p0, .int (Int32.ofNat f)] w [] w' ∧ zB (T ++ zOp 12 p0) w' := by
  have T9 := zt_124 (l := l) (D := D) (cy := cy) (z0 := z0) (sp := sp) (G := G) (d := (d + 10)) zz_k0_KS hG hP
  have TK := fun (K : zz_K) (h : zz_KS l D zcl zFK cy z0 sp (zTys cy) G zYN (fun y => Cond.code (zYN y) (zCN y) (zMQ y) (zRT y) :: zTs) (d + 10) K) => zt_124 h hG hP
  have b := zz_B_rf (l := l) (Ts := zTs) (D := D) (cl := zcl) (fk := zFK) (cy := cy) (z0 := z0) (sp := sp) (tys := zTys cy) (G := G) (own := "ToolMill$Codes") (mn := "operands") (nL := 4) (cc := prog_3_method_9_code) (d := (d + 10)) ((0, [(0, .ref 12), (1, .int p0), (2, .int (Int32.ofNat f))], [], w) : zz_F)
  replace b := zz_fw b T9 (rfl : zz_ent zP_124 0 = (0, za_iload 1 1)) (ze_iload rfl)
  replace b := zz_fw b T9 (rfl : zz_ent zP_124 1 = (0, za_i2s 2)) (ze_i2s rfl)
  replace b := zz_fw b T9 (rfl : zz_ent zP_124 2 = (0, za_istore 3 3)) (ze_istore (lv' := [(0, _), (1, _), (2, _)]) rfl)
  replace b := zz_fw b T9 (rfl : zz_ent zP_124 3 = (0, za_const (.ref 2000001) 6)) (ze_const)
  replace b := zz_fw b T9 (rfl : zz_ent zP_124 6 = (0, za_iload 2 7)) (ze_iload rfl)
  replace b := zz_fw b T9 (rfl : zz_ent zP_124 7 = (0, za_kl (zz_ki zS2) 8)) (ze_kl (by rw [zz_nI_ofNat (by omega)]; exact q1) rfl)
  replace b := zz_fw b T9 (rfl : zz_ent zP_124 8 = (0, za_tsw (0) (14) 337 [84, 98, 123, 137, 149, 161, 337, 173, 190, 190, 226, 248, 286, 305, 324])) (ze_tsw_k (t := 286) (by decide) (by decide))
  replace b := zz_fw b T9 (rfl : zz_ent zP_124 286 = (0, za_aload 0 287)) (ze_aload rfl)
  replace b := zz_fw b T9 (rfl : zz_ent zP_124 287 = (0, za_iload 1 288)) (ze_iload rfl)
  replace b := zz_fw b T9 (rfl : zz_ent zP_124 288 = (0, za_const (.int (Int32.ofNat 21)) 290)) (ze_const)
  replace b := zz_fw b T9 (rfl : zz_ent zP_124 290 = (0, za_const (.int (Int32.ofNat 16)) 292)) (ze_const)
  obtain ⟨w1, hM1, hB1⟩ := zL_two_21_16 (d := d + 1) (l := l) (D := D) (cy := cy) (sp := sp) hG hP hB (p0 := p0) (by omega)
  replace b := zz_fVv b TK (rfl : zz_ent zP_124 292 = (0, za_callV 3 166 3 295)) hM1 rfl rfl (zB_12 hB) (zz_lb rfl)
  replace b := zz_fw b T9 (rfl : zz_ent zP_124 295 = (0, za_aload 0 296)) (ze_aload rfl)
  replace b := zz_fw b T9 (rfl : zz_ent zP_124 296 = (0, za_const (.int (Int32.ofNat 44)) 298)) (ze_const)
  replace b := zz_fw b T9 (rfl : zz_ent zP_124 298 = (0, za_iload 3 299)) (ze_iload rfl)
  obtain ⟨w2, hM2, hB2⟩ := zL_amt (d := d + 3) (l := l) (D := D) (cy := cy) (sp := sp) hG hP hB1 (p0 := p0.toInt16.toInt32) (a := 44) (by decide) (by have g21 := zRg_5 p0 21; have g16 := zRg_5 p0 16; (try simp only [List.length_append, List.length_singleton, List.length_cons, List.length_nil]); omega)
  replace b := zz_fVv b TK (rfl : zz_ent zP_124 299 = (0, za_callV 3 167 2 302)) hM2 rfl rfl (zB_12 hB1) (zz_lb rfl)
  replace b := zz_fw b T9 (rfl : zz_ent zP_124 302 = (0, za_goto 337)) (ze_goto)
  have m := zz_M_B (yn := zYN) (cn := zCN) (ml := zMQ) (rt := zRT) (y := 124) (as := [.ref 12, .int p0, .int (Int32.ofNat f)]) rfl rfl rfl rfl rfl (by decide +kernel) (zz_lb rfl) (zz_lb rfl) (zz_end_v (zr_124.1 337 rfl).1) b
  exact ⟨_, m, by show zB (T ++ ([32] ++ (zRg p0 21 ++ ([44] ++ (zRg p0 16 ++ ([44] ++ zdc p0.toInt16.toInt32)))))) _; simp only [List.append_assoc] at hB2 ⊢; exact hB2⟩
theorem zL_op_13 {l : Launch} {D : va_G} {cy : Nat → ClassId} {z0 : Nat} {sp : Nat → Nat} {G : State → Prop} {d : Nat} (hG : zz_GF z0 G) (hP : ∀ U, G U → zz_GD zS zS2 zLg z0 sp U) {T : List Nat} {w : zz_W} (hB : zB T w) {p0 : Int32} {f : Nat} (h51 : f < 51) (q1 : zz_ki zS2 2000001 f = some 13) (hT : T.length ≤ 7) : ∃ w', zz_M l zTs D zcl zFK cy z0 sp (zTys cy) G zYN zCN zMQ zRT (d + 11) 124 [.ref 12, .int p0, .int (Int32.ofNat f)] w [] w' ∧ zB (T ++ zOp 13 p0) w' := by
  have T9 := zt_124 (l := l) (D := D) (cy := cy) (z0 := z0) (sp := sp) (G := G) (d := (d + 10)) zz_k0_KS hG hP
  have TK := fun (K : zz_K) (h : zz_KS l D zcl zFK cy z0 sp (zTys cy) G zYN (fun y => Cond.code (zYN y) (zCN y) (zMQ y) (zRT y) :: zTs) (d + 10) K) => zt_124 h hG hP
  have b := zz_B_rf (l := l) (Ts := zTs) (D := D) (cl := zcl) (fk := zFK) (cy := cy) (z0 := z0) (sp := sp) (tys := zTys cy) (G := G) (own := "ToolMill$Codes") (mn := "operands") (nL := 4) (cc := prog_3_method_9_code) (d := (d + 10)) ((0, [(0, .ref 12), (1, .int p0), (2, .int (Int32.ofNat f))], [], w) : zz_F)
  replace b := zz_fw b T9 (rfl : zz_ent zP_124 0 = (0, za_iload 1 1)) (ze_iload rfl)
  replace b := zz_fw b T9 (rfl : zz_ent zP_124 1 = (0, za_i2s 2)) (ze_i2s rfl)
  replace b := zz_fw b T9 (rfl : zz_ent zP_124 2 = (0, za_istore 3 3)) (ze_istore (lv' := [(0, _), (1, _), (2, _)]) rfl)
  replace b := zz_fw b T9 (rfl : zz_ent zP_124 3 = (0, za_const (.ref 2000001) 6)) (ze_const)
  replace b := zz_fw b T9 (rfl : zz_ent zP_124 6 = (0, za_iload 2 7)) (ze_iload rfl)
  replace b := zz_fw b T9 (rfl : zz_ent zP_124 7 = (0, za_kl (zz_ki zS2) 8)) (ze_kl (by rw [zz_nI_ofNat (by omega)]; exact q1) rfl)
  replace b := zz_fw b T9 (rfl : zz_ent zP_124 8 = (0, za_tsw (0) (14) 337 [84, 98, 123, 137, 149, 161, 337, 173, 190, 190, 226, 248, 286, 305, 324])) (ze_tsw_k (t := 305) (by decide) (by decide))
  replace b := zz_fw b T9 (rfl : zz_ent zP_124 305 = (0, za_aload 0 306)) (ze_aload rfl)
  replace b := zz_fw b T9 (rfl : zz_ent zP_124 306 = (0, za_const (.int (Int32.ofNat 32)) 308)) (ze_const)
  replace b := zz_fw b T9 (rfl : zz_ent zP_124 308 = (0, za_iload 1 309)) (ze_iload rfl)
  replace b := zz_fw b T9 (rfl : zz_ent zP_124 309 = (0, za_const (.int (Int32.ofNat 21)) 311)) (ze_const)
  obtain ⟨w1, hM1, hB1⟩ := zL_one_21 (d := d + 2) (l := l) (D := D) (cy := cy) (sp := sp) hG hP hB (p0 := p0) (a := 32) (by decide) (by (try simp only [List.length_append, List.length_singleton, List.length_cons, List.length_nil]); omega)
  replace b := zz_fVv b TK (rfl : zz_ent zP_124 311 = (0, za_callV 3 168 3 314)) hM1 rfl rfl (zB_12 hB) (zz_lb rfl)
  replace b := zz_fw b T9 (rfl : zz_ent zP_124 314 = (0, za_aload 0 315)) (ze_aload rfl)
  replace b := zz_fw b T9 (rfl : zz_ent zP_124 315 = (0, za_const (.int (Int32.ofNat 44)) 317)) (ze_const)
  replace b := zz_fw b T9 (rfl : zz_ent zP_124 317 = (0, za_iload 3 318)) (ze_iload rfl)
  obtain ⟨w2, hM2, hB2⟩ := zL_amt (d := d + 3) (l := l) (D := D) (cy := cy) (sp := sp) hG hP hB1 (p0 := p0.toInt16.toInt32) (a := 44) (by decide) (by have g21 := zRg_5 p0 21; (try simp only [List.length_append, List.length_singleton, List.length_cons, List.length_nil]); omega)
  replace b := zz_fVv b TK (rfl : zz_ent zP_124 318 = (0, za_callV 3 167 2 321)) hM2 rfl rfl (zB_12 hB1) (zz_lb rfl)
  replace b := zz_fw b T9 (rfl : zz_ent zP_124 321 = (0, za_goto 337)) (ze_goto)
  have m := zz_M_B (yn := zYN) (cn := zCN) (ml := zMQ) (rt := zRT) (y := 124) (as := [.ref 12, .int p0, .int (Int32.ofNat f)]) rfl rfl rfl rfl rfl (by decide +kernel) (zz_lb rfl) (zz_lb rfl) (zz_end_v (zr_124.1 337 rfl).1) b
  exact ⟨_, m, by show zB (T ++ ([32] ++ (zRg p0 21 ++ ([44] ++ zdc p0.toInt16.toInt32)))) _; simp only [List.append_assoc] at hB2 ⊢; exact hB2⟩
theorem zL_op_14 {l : Launch} {D : va_G} {cy : Nat → ClassId} {z0 : Nat} {sp : Nat → Nat} {G : State → Prop} {d : Nat} (hG : zz_GF z0 G) (hP : ∀ U, G U → zz_GD zS zS2 zLg z0 sp U) {T : List Nat} {w : zz_W} (hB : zB T w) {p0 : Int32} {f : Nat} (h51 : f < 51) (q1 : zz_ki zS2 2000001 f = some 14) (hT : T.length ≤ 7) : ∃ w', zz_M l zTs D zcl zFK cy z0 sp (zTys cy) G zYN zCN zMQ zRT (d + 11) 124 [.ref 12, .int p0, .int (Int32.ofNat f)] w [] w' ∧ zB (T ++ zOp 14 p0) w' := by
  have T9 := zt_124 (l := l) (D := D) (cy := cy) (z0 := z0) (sp := sp) (G := G) (d := (d + 10)) zz_k0_KS hG hP
  have TK := fun (K : zz_K) (h : zz_KS l D zcl zFK cy z0 sp (zTys cy) G zYN (fun y => Cond.code (zYN y) (zCN y) (zMQ y) (zRT y) :: zTs) (d + 10) K) => zt_124 h hG hP
  have b := zz_B_rf (l := l) (Ts := zTs) (D := D) (cl := zcl) (fk := zFK) (cy := cy) (z0 := z0) (sp := sp) (tys := zTys cy) (G := G) (own := "ToolMill$Codes") (mn := "operands") (nL := 4) (cc := prog_3_method_9_code) (d := (d + 10)) ((0, [(0, .ref 12), (1, .int p0), (2, .int (Int32.ofNat f))], [], w) : zz_F)
  replace b := zz_fw b T9 (rfl : zz_ent zP_124 0 = (0, za_iload 1 1)) (ze_iload rfl)
  replace b := zz_fw b T9 (rfl : zz_ent zP_124 1 = (0, za_i2s 2)) (ze_i2s rfl)
  replace b := zz_fw b T9 (rfl : zz_ent zP_124 2 = (0, za_istore 3 3)) (ze_istore (lv' := [(0, _), (1, _), (2, _)]) rfl)
  replace b := zz_fw b T9 (rfl : zz_ent zP_124 3 = (0, za_const (.ref 2000001) 6)) (ze_const)
  replace b := zz_fw b T9 (rfl : zz_ent zP_124 6 = (0, za_iload 2 7)) (ze_iload rfl)
  replace b := zz_fw b T9 (rfl : zz_ent zP_124 7 = (0, za_kl (zz_ki zS2) 8)) (ze_kl (by rw [zz_nI_ofNat (by omega)]; exact q1) rfl)
  replace b := zz_fw b T9 (rfl : zz_ent zP_124 8 = (0, za_tsw (0) (14) 337 [84, 98, 123, 137, 149, 161, 337, 173, 190, 190, 226, 248, 286, 305, 324])) (ze_tsw_k (t := 324) (by decide) (by decide))
  replace b := zz_fw b T9 (rfl : zz_ent zP_124 324 = (0, za_aload 0 325)) (ze_aload rfl)
  replace b := zz_fw b T9 (rfl : zz_ent zP_124 325 = (0, za_const (.int (Int32.ofNat 32)) 327)) (ze_const)
  replace b := zz_fw b T9 (rfl : zz_ent zP_124 327 = (0, za_iload 1 328)) (ze_iload rfl)
  replace b := zz_fw b T9 (rfl : zz_ent zP_124 328 = (0, za_const (.int (Int32.ofNat 67108863)) 330)) (ze_const)
  replace b := zz_fw b T9 (rfl : zz_ent zP_124 330 = (0, za_iand 331)) (ze_iand (zF_lo p0 26 67108863 (by decide) rfl))
  obtain ⟨w1, hM1, hB1⟩ := zL_amt (d := d + 3) (l := l) (D := D) (cy := cy) (sp := sp) hG hP hB (p0 := Int32.ofNat (zF p0 0 26)) (a := 32) (by decide) (by (try simp only [List.length_append, List.length_singleton, List.length_cons, List.length_nil]); omega)
  replace b := zz_fVv b TK (rfl : zz_ent zP_124 331 = (0, za_callV 3 167 2 334)) hM1 rfl rfl (zB_12 hB) (zz_lb rfl)
  replace b := zz_fw b T9 (rfl : zz_ent zP_124 334 = (0, za_goto 337)) (ze_goto)
  have m := zz_M_B (yn := zYN) (cn := zCN) (ml := zMQ) (rt := zRT) (y := 124) (as := [.ref 12, .int p0, .int (Int32.ofNat f)]) rfl rfl rfl rfl rfl (by decide +kernel) (zz_lb rfl) (zz_lb rfl) (zz_end_v (zr_124.1 337 rfl).1) b
  exact ⟨_, m, by show zB (T ++ ([32] ++ zdc (Int32.ofNat (zF p0 0 26)))) _; simp only [List.append_assoc] at hB1 ⊢; exact hB1⟩
theorem zL_op {l : Launch} {D : va_G} {cy : Nat → ClassId} {z0 : Nat} {sp : Nat → Nat} {G : State → Prop} {d : Nat} (hG : zz_GF z0 G) (hP : ∀ U, G U → zz_GD zS zS2 zLg z0 sp U) {T : List Nat} {w : zz_W} (hB : zB T w) {p0 : Int32} {f fo : Nat} (h51 : f < 51) (q1 : zz_ki zS2 2000001 f = some fo) (l1 : fo < 15) (hT : T.length ≤ 7) : ∃ w', zz_M l zTs D zcl zFK cy z0 sp (zTys cy) G zYN zCN zMQ zRT (d + 11) 124 [.ref 12, .int p0, .int (Int32.ofNat f)] w [] w' ∧ zB (T ++ zOp fo p0) w' := by
  match fo, l1, q1 with
  | 0, _, q1 => exact zL_op_0 hG hP hB h51 q1 hT
  | 1, _, q1 => exact zL_op_1 hG hP hB h51 q1 hT
  | 2, _, q1 => exact zL_op_2 hG hP hB h51 q1 hT
  | 3, _, q1 => exact zL_op_3 hG hP hB h51 q1 hT
  | 4, _, q1 => exact zL_op_4 hG hP hB h51 q1 hT
  | 5, _, q1 => exact zL_op_5 hG hP hB h51 q1 hT
  | 6, _, q1 => exact zL_op_6 hG hP hB h51 q1 hT
  | 7, _, q1 => exact zL_op_7 hG hP hB h51 q1 hT
  | 8, _, q1 => exact zL_op_8 hG hP hB h51 q1 hT
  | 9, _, q1 => exact zL_op_9 hG hP hB h51 q1 hT
  | 10, _, q1 => exact zL_op_10 hG hP hB h51 q1 hT
  | 11, _, q1 => exact zL_op_11 hG hP hB h51 q1 hT
  | 12, _, q1 => exact zL_op_12 hG hP hB h51 q1 hT
  | 13, _, q1 => exact zL_op_13 hG hP hB h51 q1 hT
  | 14, _, q1 => exact zL_op_14 hG hP hB h51 q1 hT
  | _ + 15, l1, _ => exact absurd l1 (by omega)
