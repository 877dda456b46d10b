section
/-! words as texts, the class, by program -/
/-- bits of a word: k bits from bit s on -/
def zF (p : Int32) (s k : Nat) : Nat := zz_nI p / 2 ^ s % 2 ^ k
theorem zF_lt (p : Int32) (s k : Nat) : zF p s k < 2 ^ k := Nat.mod_lt _ (Nat.two_pow_pos k)
theorem zI_eq {x y : Int32} (h : zz_nI x = zz_nI y) : x = y := by rw [← zz_nI_of x, ← zz_nI_of y, h]
theorem zI_and (x y : Int32) : zz_nI (x &&& y) = zz_nI x &&& zz_nI y := by
  unfold zz_nI
  rw [Int32.toBitVec_and, BitVec.toNat_and]
theorem zI_shr (x : Int32) (s : Nat) (h : s < 32) : zz_nI (x.toUInt32 >>> ((Int32.ofNat s).toUInt32 &&& Int32.toUInt32 31)).toInt32 = zz_nI x / 2 ^ s := by
  have e : ((Int32.ofNat s).toUInt32 &&& Int32.toUInt32 31).toNat = s := by
    revert s
    decide
  show (x.toUInt32 >>> ((Int32.ofNat s).toUInt32 &&& Int32.toUInt32 31)).toNat = _
  rw [UInt32.toNat_shiftRight, e, Nat.mod_eq_of_lt h, Nat.shiftRight_eq_div_pow]
  rfl
theorem zF_eq (p : Int32) (s k m : Nat) (h : s < 32) (hk : k ≤ 31) (hm : m = 2 ^ k - 1) : (p.toUInt32 >>> ((Int32.ofNat s).toUInt32 &&& Int32.toUInt32 31)).toInt32 &&& Int32.ofNat m = Int32.ofNat (zF p s k) := by
  have h2 : 2 ^ k ≤ 2 ^ 31 := Nat.pow_le_pow_right (by decide) hk
  have h3 := Nat.two_pow_pos k
  have h4 := zF_lt p s k
  apply zI_eq
  rw [zI_and, zI_shr p s h, zz_nI_ofNat (by omega), hm, Nat.and_two_pow_sub_one_eq_mod, zz_nI_ofNat (by omega)]
  rfl
theorem zF_lo (p : Int32) (k m : Nat) (hk : k ≤ 31) (hm : m = 2 ^ k - 1) : p &&& Int32.ofNat m = Int32.ofNat (zF p 0 k) := by
  have h2 : 2 ^ k ≤ 2 ^ 31 := Nat.pow_le_pow_right (by decide) hk
  have h3 := Nat.two_pow_pos k
  have h4 := zF_lt p 0 k
  apply zI_eq
  rw [zI_and, zz_nI_ofNat (by omega), hm, Nat.and_two_pow_sub_one_eq_mod, zz_nI_ofNat (by omega)]
  unfold zF
  rw [Nat.pow_zero, Nat.div_one]
theorem zF_hi (p : Int32) : (p.toUInt32 >>> ((Int32.ofNat 26).toUInt32 &&& Int32.toUInt32 31)).toInt32 = Int32.ofNat (zF p 26 6) := by
  have h4 := zF_lt p 26 6
  apply zI_eq
  rw [zI_shr p 26 (by decide), zz_nI_ofNat (by omega)]
  unfold zF
  have := zz_nI_lt p
  omega
/-- the instruction that the class finds by OP, FUNCTION or t, before it looks at what is fixed -/
noncomputable def zcf (p : Int32) : Nat := if zF p 26 6 = 0 then zz_at 32 zc_14 (zF p 0 6) else if zF p 26 6 = 1 then zz_at 32 zc_15 (zF p 16 5) else zz_at 32 zc_13 (zF p 26 6)
/-- the instruction that a word is to the class -/
def zcOk (p : Int32) (f : Nat) : Prop := ∃ fo fx ba, zz_ki zS2 2000002 f = some fo ∧ zz_ki zS2 2000003 fo = some fx ∧ zz_ki zS2 2000004 f = some ba ∧ p &&& Int32.ofNat fx = Int32.ofNat ba
theorem zl_n0 : ∀ n, n < 2 ^ 6 → ¬ n = 0 → ¬ Int32.ofNat n = 0 := by decide +kernel
theorem zl_n1 : ∀ n, n < 2 ^ 6 → ¬ n = 1 → ¬ Int32.ofNat n = Int32.ofNat 1 := by decide +kernel
theorem zl_51 : ∀ f, f < 51 → ¬ Int32.ofNat f < 0 := by decide +kernel
theorem zD_0k {W0 : zz_W} {l : Launch} {D : va_G} {cy : Nat → ClassId} {z0 : Nat} {sp : Nat → Nat} {G : State → Prop} {d : Nat} (hG : zz_GF z0 G) (hP : ∀ U, G U → zz_GD zS zS2 zLg z0 sp U) (hsp : sp 18446744073709551616 = 0) {v N M c : Nat} {w : zz_W} (r : zBr W0 v N M c w) {p0 : Int32} {f : Nat} (ho : zF p0 26 6 = 0) (hf : zz_at 32 zc_14 (zF p0 0 6) = f) (h51 : f < 51) {fo fx ba : Nat} (l1 : fo < 15) (q1 : zz_ki zS2 2000002 f = some fo) (q2 : zz_ki zS2 2000003 fo = some fx) (q3 : zz_ki zS2 2000004 f = some ba) (hq : p0 &&& Int32.ofNat fx = Int32.ofNat ba) : zz_M l zTs D zcl zFK cy z0 sp (zTys cy) G zYN zCN zMQ zRT (d + 1) 153 [.ref 12, .int p0] w [.int (Int32.ofNat f)] w := by
  have T := zt_153 (l := l) (D := D) (cy := cy) (z0 := z0) (sp := sp) (G := G) (d := d) zz_k0_KS hG hP
  have TK := fun (K : zz_K) (h : zz_KS l D zcl zFK cy z0 sp (zTys cy) G zYN (fun y => Cond.code (zYN y) (zCN y) (zMQ y) (zRT y) :: zTs) d K) => zt_153 h hG hP
  have b := zz_B_rf (l := l) (Ts := zTs) (D := D) (cl := zcl) (fk := zFK) (cy := cy) (z0 := z0) (sp := sp) (tys := zTys cy) (G := G) (own := "ToolMill$Codes") (mn := "decode") (nL := 4) (cc := prog_3_method_2_code) (d := d) ((0, [(0, .ref 12), (1, .int p0)], [], w) : zz_F)
  replace b := zz_fw b T (rfl : zz_ent zP_153 0 = (0, za_iload 1 1)) (ze_iload rfl)
  replace b := zz_fw b T (rfl : zz_ent zP_153 1 = (0, za_const (.int (Int32.ofNat 26)) 3)) (ze_const)
  replace b := zz_fw b T (rfl : zz_ent zP_153 3 = (0, za_iushr 4)) (ze_iushr (zF_hi p0))
  replace b := zz_fw b T (rfl : zz_ent zP_153 4 = (0, za_istore 2 5)) (ze_istore (lv' := [(0, _), (1, _)]) rfl)
  replace b := zz_fw b T (rfl : zz_ent zP_153 5 = (0, za_iload 2 6)) (ze_iload rfl)
  replace b := zz_fw b T (rfl : zz_ent zP_153 6 = (0, za_if_ne 21 9)) (ze_if_ne_f (not_not_intro (by rw [ho]; rfl)))
  replace b := zz_fw b T (rfl : zz_ent zP_153 9 = (0, za_aload 0 10)) (ze_aload rfl)
  replace b := zz_fw b T (rfl : zz_ent zP_153 10 = (0, za_getA 3 2 13)) (ze_getA (zBr_f12 r) (by decide) (zBr_v12_2 r))
  replace b := zz_fw b T (rfl : zz_ent zP_153 13 = (0, za_iload 1 14)) (ze_iload rfl)
  replace b := zz_fw b T (rfl : zz_ent zP_153 14 = (0, za_const (.int (Int32.ofNat 63)) 16)) (ze_const)
  replace b := zz_fw b T (rfl : zz_ent zP_153 16 = (0, za_iand 17)) (ze_iand (zF_lo p0 6 63 (by decide) rfl))
  replace b := zz_fw b T (rfl : zz_ent zP_153 17 = (0, za_aldI 0 18)) (ze_aldI (zBr_f14 r) (by have := zF_lt p0 0 6; rw [zz_nI_ofNat (by omega)]; omega) (by decide) (by rw [zz_nI_ofNat (by have := zF_lt p0 0 6; omega), hf]))
  replace b := zz_fw b T (rfl : zz_ent zP_153 18 = (0, za_goto 47)) (ze_goto)
  replace b := zz_fw b T (rfl : zz_ent zP_153 47 = (0, za_istore 3 48)) (ze_istore (lv' := [(2, _), (0, _), (1, _)]) rfl)
  replace b := zz_fw b T (rfl : zz_ent zP_153 48 = (0, za_iload 3 49)) (ze_iload rfl)
  replace b := zz_fw b T (rfl : zz_ent zP_153 49 = (0, za_if_lt 75 52)) (ze_if_lt_f (zl_51 f h51))
  replace b := zz_fw b T (rfl : zz_ent zP_153 52 = (0, za_iload 1 53)) (ze_iload rfl)
  replace b := zz_fw b T (rfl : zz_ent zP_153 53 = (0, za_const (.ref 2000003) 56)) (ze_const)
  replace b := zz_fw b T (rfl : zz_ent zP_153 56 = (0, za_const (.ref 2000002) 59)) (ze_const)
  replace b := zz_fw b T (rfl : zz_ent zP_153 59 = (0, za_iload 3 60)) (ze_iload rfl)
  replace b := zz_fw b T (rfl : zz_ent zP_153 60 = (0, za_kl (zz_ki zS2) 61)) (ze_kl (by rw [zz_nI_ofNat (by omega)]; exact q1) rfl)
  replace b := zz_fw b T (rfl : zz_ent zP_153 61 = (0, za_kl (zz_ki zS2) 62)) (ze_kl (by rw [zz_nI_ofNat (by omega)]; exact q2) rfl)
  replace b := zz_fw b T (rfl : zz_ent zP_153 62 = (0, za_iand 63)) (ze_iand rfl)
  replace b := zz_fw b T (rfl : zz_ent zP_153 63 = (0, za_const (.ref 2000004) 66)) (ze_const)
  replace b := zz_fw b T (rfl : zz_ent zP_153 66 = (0, za_iload 3 67)) (ze_iload rfl)
  replace b := zz_fw b T (rfl : zz_ent zP_153 67 = (0, za_kl (zz_ki zS2) 68)) (ze_kl (by rw [zz_nI_ofNat (by omega)]; exact q3) rfl)
  replace b := zz_fw b T (rfl : zz_ent zP_153 68 = (0, za_icmp_ne 75 71)) (ze_icmp_ne_f (not_not_intro hq))
  replace b := zz_fw b T (rfl : zz_ent zP_153 71 = (0, za_iload 3 72)) (ze_iload rfl)
  replace b := zz_fw b T (rfl : zz_ent zP_153 72 = (0, za_goto 76)) (ze_goto)
  have m := zz_M_B (yn := zYN) (cn := zCN) (ml := zMQ) (rt := zRT) (y := 153) (as := [.ref 12, .int p0]) rfl rfl rfl rfl rfl (by decide +kernel) (zz_lb rfl) (zz_lb rfl) (zz_end_i (zr_153.2.1 76 rfl).1) b
  exact m
theorem zD_0x {W0 : zz_W} {l : Launch} {D : va_G} {cy : Nat → ClassId} {z0 : Nat} {sp : Nat → Nat} {G : State → Prop} {d : Nat} (hG : zz_GF z0 G) (hP : ∀ U, G U → zz_GD zS zS2 zLg z0 sp U) (hsp : sp 18446744073709551616 = 0) {v N M c : Nat} {w : zz_W} (r : zBr W0 v N M c w) {p0 : Int32} {f : Nat} (ho : zF p0 26 6 = 0) (hf : zz_at 32 zc_14 (zF p0 0 6) = f) (h51 : f < 51) {fo fx ba : Nat} (l1 : fo < 15) (q1 : zz_ki zS2 2000002 f = some fo) (q2 : zz_ki zS2 2000003 fo = some fx) (q3 : zz_ki zS2 2000004 f = some ba) (hq : ¬ p0 &&& Int32.ofNat fx = Int32.ofNat ba) : zz_M l zTs D zcl zFK cy z0 sp (zTys cy) G zYN zCN zMQ zRT (d + 1) 153 [.ref 12, .int p0] w [.int (Int32.ofNat 4294967295)] w := by
  have T := zt_153 (l := l) (D := D) (cy := cy) (z0 := z0) (sp := sp) (G := G) (d := d) zz_k0_KS hG hP
  have TK := fun (K : zz_K) (h : zz_KS l D zcl zFK cy z0 sp (zTys cy) G zYN (fun y => Cond.code (zYN y) (zCN y) (zMQ y) (zRT y) :: zTs) d K) => zt_153 h hG hP
  have b := zz_B_rf (l := l) (Ts := zTs) (D := D) (cl := zcl) (fk := zFK) (cy := cy) (z0 := z0) (sp := sp) (tys := zTys cy) (G := G) (own := "ToolMill$Codes") (mn := "decode") (nL := 4) (cc := prog_3_method_2_code) (d := d) ((0, [(0, .ref 12), (1, .int p0)], [], w) : zz_F)
  replace b := zz_fw b T (rfl : zz_ent zP_153 0 = (0, za_iload 1 1)) (ze_iload rfl)
  replace b := zz_fw b T (rfl : zz_ent zP_153 1 = (0, za_const (.int (Int32.ofNat 26)) 3)) (ze_const)
  replace b := zz_fw b T (rfl : zz_ent zP_153 3 = (0, za_iushr 4)) (ze_iushr (zF_hi p0))
  replace b := zz_fw b T (rfl : zz_ent zP_153 4 = (0, za_istore 2 5)) (ze_istore (lv' := [(0, _), (1, _)]) rfl)
  replace b := zz_fw b T (rfl : zz_ent zP_153 5 = (0, za_iload 2 6)) (ze_iload rfl)
  replace b := zz_fw b T (rfl : zz_ent zP_153 6 = (0, za_if_ne 21 9)) (ze_if_ne_f (not_not_intro (by rw [ho]; rfl)))
  replace b := zz_fw b T (rfl : zz_ent zP_153 9 = (0, za_aload 0 10)) (ze_aload rfl)
  replace b := zz_fw b T (rfl : zz_ent zP_153 10 = (0, za_getA 3 2 13)) (ze_getA (zBr_f12 r) (by decide) (zBr_v12_2 r))
  replace b := zz_fw b T (rfl : zz_ent zP_153 13 = (0, za_iload 1 14)) (ze_iload rfl)
  replace b := zz_fw b T (rfl : zz_ent zP_153 14 = (0, za_const (.int (Int32.ofNat 63)) 16)) (ze_const)
  replace b := zz_fw b T (rfl : zz_ent zP_153 16 = (0, za_iand 17)) (ze_iand (zF_lo p0 6 63 (by decide) rfl))
  replace b := zz_fw b T (rfl : zz_ent zP_153 17 = (0, za_aldI 0 18)) (ze_aldI (zBr_f14 r) (by have := zF_lt p0 0 6; rw [zz_nI_ofNat (by omega)]; omega) (by decide) (by rw [zz_nI_ofNat (by have := zF_lt p0 0 6; omega), hf]))
  replace b := zz_fw b T (rfl : zz_ent zP_153 18 = (0, za_goto 47)) (ze_goto)
  replace b := zz_fw b T (rfl : zz_ent zP_153 47 = (0, za_istore 3 48)) (ze_istore (lv' := [(2, _), (0, _), (1, _)]) rfl)
  replace b := zz_fw b T (rfl : zz_ent zP_153 48 = (0, za_iload 3 49)) (ze_iload rfl)
  replace b := zz_fw b T (rfl : zz_ent zP_153 49 = (0, za_if_lt 75 52)) (ze_if_lt_f (zl_51 f h51))
  replace b := zz_fw b T (rfl : zz_ent zP_153 52 = (0, za_iload 1 53)) (ze_iload rfl)
  replace b := zz_fw b T (rfl : zz_ent zP_153 53 = (0, za_const (.ref 2000003) 56)) (ze_const)
  replace b := zz_fw b T (rfl : zz_ent zP_153 56 = (0, za_const (.ref 2000002) 59)) (ze_const)
  replace b := zz_fw b T (rfl : zz_ent zP_153 59 = (0, za_iload 3 60)) (ze_iload rfl)
  replace b := zz_fw b T (rfl : zz_ent zP_153 60 = (0, za_kl (zz_ki zS2) 61)) (ze_kl (by rw [zz_nI_ofNat (by omega)]; exact q1) rfl)
  replace b := zz_fw b T (rfl : zz_ent zP_153 61 = (0, za_kl (zz_ki zS2) 62)) (ze_kl (by rw [zz_nI_ofNat (by omega)]; exact q2) rfl)
  replace b := zz_fw b T (rfl : zz_ent zP_153 62 = (0, za_iand 63)) (ze_iand rfl)
  replace b := zz_fw b T (rfl : zz_ent zP_153 63 = (0, za_const (.ref 2000004) 66)) (ze_const)
  replace b := zz_fw b T (rfl : zz_ent zP_153 66 = (0, za_iload 3 67)) (ze_iload rfl)
  replace b := zz_fw b T (rfl : zz_ent zP_153 67 = (0, za_kl (zz_ki zS2) 68)) (ze_kl (by rw [zz_nI_ofNat (by omega)]; exact q3) rfl)
  replace b := zz_fw b T (rfl : zz_ent zP_153 68 = (0, za_icmp_ne 75 71)) (ze_icmp_ne_t hq)
  replace b := zz_fw b T (rfl : zz_ent zP_153 75 = (0, za_const (.int (Int32.ofNat 4294967295)) 76)) (ze_const)
  have m := zz_M_B (yn := zYN) (cn := zCN) (ml := zMQ) (rt := zRT) (y := 153) (as := [.ref 12, .int p0]) rfl rfl rfl rfl rfl (by decide +kernel) (zz_lb rfl) (zz_lb rfl) (zz_end_i (zr_153.2.1 76 rfl).1) b
  exact m
theorem zD_0n {W0 : zz_W} {l : Launch} {D : va_G} {cy : Nat → ClassId} {z0 : Nat} {sp : Nat → Nat} {G : State → Prop} {d : Nat} (hG : zz_GF z0 G) (hP : ∀ U, G U → zz_GD zS zS2 zLg z0 sp U) (hsp : sp 18446744073709551616 = 0) {v N M c : Nat} {w : zz_W} (r : zBr W0 v N M c w) {p0 : Int32} {f : Nat} (ho : zF p0 26 6 = 0) (hf : zz_at 32 zc_14 (zF p0 0 6) = f) (hn : f = 4294967295) : zz_M l zTs D zcl zFK cy z0 sp (zTys cy) G zYN zCN zMQ zRT (d + 1) 153 [.ref 12, .int p0] w [.int (Int32.ofNat 4294967295)] w := by
  have T := zt_153 (l := l) (D := D) (cy := cy) (z0 := z0) (sp := sp) (G := G) (d := d) zz_k0_KS hG hP
  have TK := fun (K : zz_K) (h : zz_KS l D zcl zFK cy z0 sp (zTys cy) G zYN (fun y => Cond.code (zYN y) (zCN y) (zMQ y) (zRT y) :: zTs) d K) => zt_153 h hG hP
  have b := zz_B_rf (l := l) (Ts := zTs) (D := D) (cl := zcl) (fk := zFK) (cy := cy) (z0 := z0) (sp := sp) (tys := zTys cy) (G := G) (own := "ToolMill$Codes") (mn := "decode") (nL := 4) (cc := prog_3_method_2_code) (d := d) ((0, [(0, .ref 12), (1, .int p0)], [], w) : zz_F)
  replace b := zz_fw b T (rfl : zz_ent zP_153 0 = (0, za_iload 1 1)) (ze_iload rfl)
  replace b := zz_fw b T (rfl : zz_ent zP_153 1 = (0, za_const (.int (Int32.ofNat 26)) 3)) (ze_const)
  replace b := zz_fw b T (rfl : zz_ent zP_153 3 = (0, za_iushr 4)) (ze_iushr (zF_hi p0))
  replace b := zz_fw b T (rfl : zz_ent zP_153 4 = (0, za_istore 2 5)) (ze_istore (lv' := [(0, _), (1, _)]) rfl)
  replace b := zz_fw b T (rfl : zz_ent zP_153 5 = (0, za_iload 2 6)) (ze_iload rfl)
  replace b := zz_fw b T (rfl : zz_ent zP_153 6 = (0, za_if_ne 21 9)) (ze_if_ne_f (not_not_intro (by rw [ho]; rfl)))
  replace b := zz_fw b T (rfl : zz_ent zP_153 9 = (0, za_aload 0 10)) (ze_aload rfl)
  replace b := zz_fw b T (rfl : zz_ent zP_153 10 = (0, za_getA 3 2 13)) (ze_getA (zBr_f12 r) (by decide) (zBr_v12_2 r))
  replace b := zz_fw b T (rfl : zz_ent zP_153 13 = (0, za_iload 1 14)) (ze_iload rfl)
  replace b := zz_fw b T (rfl : zz_ent zP_153 14 = (0, za_const (.int (Int32.ofNat 63)) 16)) (ze_const)
  replace b := zz_fw b T (rfl : zz_ent zP_153 16 = (0, za_iand 17)) (ze_iand (zF_lo p0 6 63 (by decide) rfl))
  replace b := zz_fw b T (rfl : zz_ent zP_153 17 = (0, za_aldI 0 18)) (ze_aldI (zBr_f14 r) (by have := zF_lt p0 0 6; rw [zz_nI_ofNat (by omega)]; omega) (by decide) (by rw [zz_nI_ofNat (by have := zF_lt p0 0 6; omega), hf]))
  replace b := zz_fw b T (rfl : zz_ent zP_153 18 = (0, za_goto 47)) (ze_goto)
  replace b := zz_fw b T (rfl : zz_ent zP_153 47 = (0, za_istore 3 48)) (ze_istore (lv' := [(2, _), (0, _), (1, _)]) rfl)
  replace b := zz_fw b T (rfl : zz_ent zP_153 48 = (0, za_iload 3 49)) (ze_iload rfl)
  replace b := zz_fw b T (rfl : zz_ent zP_153 49 = (0, za_if_lt 75 52)) (ze_if_lt_t (by rw [hn]; decide))
  replace b := zz_fw b T (rfl : zz_ent zP_153 75 = (0, za_const (.int (Int32.ofNat 4294967295)) 76)) (ze_const)
  have m := zz_M_B (yn := zYN) (cn := zCN) (ml := zMQ) (rt := zRT) (y := 153) (as := [.ref 12, .int p0]) rfl rfl rfl rfl rfl (by decide +kernel) (zz_lb rfl) (zz_lb rfl) (zz_end_i (zr_153.2.1 76 rfl).1) b
  exact m
theorem zD_1k {W0 : zz_W} {l : Launch} {D : va_G} {cy : Nat → ClassId} {z0 : Nat} {sp : Nat → Nat} {G : State → Prop} {d : Nat} (hG : zz_GF z0 G) (hP : ∀ U, G U → zz_GD zS zS2 zLg z0 sp U) (hsp : sp 18446744073709551616 = 0) {v N M c : Nat} {w : zz_W} (r : zBr W0 v N M c w) {p0 : Int32} {f : Nat} (ho : zF p0 26 6 = 1) (hf : zz_at 32 zc_15 (zF p0 16 5) = f) (h51 : f < 51) {fo fx ba : Nat} (l1 : fo < 15) (q1 : zz_ki zS2 2000002 f = some fo) (q2 : zz_ki zS2 2000003 fo = some fx) (q3 : zz_ki zS2 2000004 f = some ba) (hq : p0 &&& Int32.ofNat fx = Int32.ofNat ba) : zz_M l zTs D zcl zFK cy z0 sp (zTys cy) G zYN zCN zMQ zRT (d + 1) 153 [.ref 12, .int p0] w [.int (Int32.ofNat f)] w := by
  have T := zt_153 (l := l) (D := D) (cy := cy) (z0 := z0) (sp := sp) (G := G) (d := d) zz_k0_KS hG hP
  have TK := fun (K : zz_K) (h : zz_KS l D zcl zFK cy z0 sp (zTys cy) G zYN (fun y => Cond.code (zYN y) (zCN y) (zMQ y) (zRT y) :: zTs) d K) => zt_153 h hG hP
  have b := zz_B_rf (l := l) (Ts := zTs) (D := D) (cl := zcl) (fk := zFK) (cy := cy) (z0 := z0) (sp := sp) (tys := zTys cy) (G := G) (own := "ToolMill$Codes") (mn := "decode") (nL := 4) (cc := prog_3_method_2_code) (d := d) ((0, [(0, .ref 12), (1, .int p0)], [], w) : zz_F)
  replace b := zz_fw b T (rfl : zz_ent zP_153 0 = (0, za_iload 1 1)) (ze_iload rfl)
  replace b := zz_fw b T (rfl : zz_ent zP_153 1 = (0, za_const (.int (Int32.ofNat 26)) 3)) (ze_const)
  replace b := zz_fw b T (rfl : zz_ent zP_153 3 = (0, za_iushr 4)) (ze_iushr (zF_hi p0))
  replace b := zz_fw b T (rfl : zz_ent zP_153 4 = (0, za_istore 2 5)) (ze_istore (lv' := [(0, _), (1, _)]) rfl)
  replace b := zz_fw b T (rfl : zz_ent zP_153 5 = (0, za_iload 2 6)) (ze_iload rfl)
  replace b := zz_fw b T (rfl : zz_ent zP_153 6 = (0, za_if_ne 21 9)) (ze_if_ne_t (by rw [ho]; decide))
  replace b := zz_fw b T (rfl : zz_ent zP_153 21 = (0, za_iload 2 22)) (ze_iload rfl)
  replace b := zz_fw b T (rfl : zz_ent zP_153 22 = (0, za_const (.int (Int32.ofNat 1)) 23)) (ze_const)
  replace b := zz_fw b T (rfl : zz_ent zP_153 23 = (0, za_icmp_ne 41 26)) (ze_icmp_ne_f (not_not_intro (by rw [ho])))
  replace b := zz_fw b T (rfl : zz_ent zP_153 26 = (0, za_aload 0 27)) (ze_aload rfl)
  replace b := zz_fw b T (rfl : zz_ent zP_153 27 = (0, za_getA 3 3 30)) (ze_getA (zBr_f12 r) (by decide) (zBr_v12_3 r))
  replace b := zz_fw b T (rfl : zz_ent zP_153 30 = (0, za_iload 1 31)) (ze_iload rfl)
  replace b := zz_fw b T (rfl : zz_ent zP_153 31 = (0, za_const (.int (Int32.ofNat 16)) 33)) (ze_const)
  replace b := zz_fw b T (rfl : zz_ent zP_153 33 = (0, za_iushr 34)) (ze_iushr rfl)
  replace b := zz_fw b T (rfl : zz_ent zP_153 34 = (0, za_const (.int (Int32.ofNat 31)) 36)) (ze_const)
  replace b := zz_fw b T (rfl : zz_ent zP_153 36 = (0, za_iand 37)) (ze_iand (zF_eq p0 16 5 31 (by decide) (by decide) rfl))
  replace b := zz_fw b T (rfl : zz_ent zP_153 37 = (0, za_aldI 0 38)) (ze_aldI (zBr_f15 r) (by have := zF_lt p0 16 5; rw [zz_nI_ofNat (by omega)]; omega) (by decide) (by rw [zz_nI_ofNat (by have := zF_lt p0 16 5; omega), hf]))
  replace b := zz_fw b T (rfl : zz_ent zP_153 38 = (0, za_goto 47)) (ze_goto)
  replace b := zz_fw b T (rfl : zz_ent zP_153 47 = (0, za_istore 3 48)) (ze_istore (lv' := [(2, _), (0, _), (1, _)]) rfl)
  replace b := zz_fw b T (rfl : zz_ent zP_153 48 = (0, za_iload 3 49)) (ze_iload rfl)
  replace b := zz_fw b T (rfl : zz_ent zP_153 49 = (0, za_if_lt 75 52)) (ze_if_lt_f (zl_51 f h51))
  replace b := zz_fw b T (rfl : zz_ent zP_153 52 = (0, za_iload 1 53)) (ze_iload rfl)
  replace b := zz_fw b T (rfl : zz_ent zP_153 53 = (0, za_const (.ref 2000003) 56)) (ze_const)
  replace b := zz_fw b T (rfl : zz_ent zP_153 56 = (0, za_const (.ref 2000002) 59)) (ze_const)
  replace b := zz_fw b T (rfl : zz_ent zP_153 59 = (0, za_iload 3 60)) (ze_iload rfl)
  replace b := zz_fw b T (rfl : zz_ent zP_153 60 = (0, za_kl (zz_ki zS2) 61)) (ze_kl (by rw [zz_nI_ofNat (by omega)]; exact q1) rfl)
  replace b := zz_fw b T (rfl : zz_ent zP_153 61 = (0, za_kl (zz_ki zS2) 62)) (ze_kl (by rw [zz_nI_ofNat (by omega)]; exact q2) rfl)
  replace b := zz_fw b T (rfl : zz_ent zP_153 62 = (0, za_iand 63)) (ze_iand rfl)
  replace b := zz_fw b T (rfl : zz_ent zP_153 63 = (0, za_const (.ref 2000004) 66)) (ze_const)
  replace b := zz_fw b T (rfl : zz_ent zP_153 66 = (0, za_iload 3 67)) (ze_iload rfl)
  replace b := zz_fw b T (rfl : zz_ent zP_153 67 = (0, za_kl (zz_ki zS2) 68)) (ze_kl (by rw [zz_nI_ofNat (by omega)]; exact q3) rfl)
  replace b := zz_fw b T (rfl : zz_ent zP_153 68 = (0, za_icmp_ne 75 71)) (ze_icmp_ne_f (not_not_intro hq))
  replace b := zz_fw b T (rfl : zz_ent zP_153 71 = (0, za_iload 3 72)) (ze_iload rfl)
  replace b := zz_fw b T (rfl : zz_ent zP_153 72 = (0, za_goto 76)) (ze_goto)
  have m := zz_M_B (yn := zYN) (cn := zCN) (ml := zMQ) (rt := zRT) (y := 153) (as := [.ref 12, .int p0]) rfl rfl rfl rfl rfl (by decide +kernel) (zz_lb rfl) (zz_lb rfl) (zz_end_i (zr_153.2.1 76 rfl).1) b
  exact m
theorem zD_1n {W0 : zz_W} {l : Launch} {D : va_G} {cy : Nat → ClassId} {z0 : Nat} {sp : Nat → Nat} {G : State → Prop} {d : Nat} (hG : zz_GF z0 G) (hP : ∀ U, G U → zz_GD zS zS2 zLg z0 sp U) (hsp : sp 18446744073709551616 = 0) {v N M c : Nat} {w : zz_W} (r : zBr W0 v N M c w) {p0 : Int32} {f : Nat} (ho : zF p0 26 6 = 1) (hf : zz_at 32 zc_15 (zF p0 16 5) = f) (hn : f = 4294967295) : zz_M l zTs D zcl zFK cy z0 sp (zTys cy) G zYN zCN zMQ zRT (d + 1) 153 [.ref 12, .int p0] w [.int (Int32.ofNat 4294967295)] w := by
  have T := zt_153 (l := l) (D := D) (cy := cy) (z0 := z0) (sp := sp) (G := G) (d := d) zz_k0_KS hG hP
  have TK := fun (K : zz_K) (h : zz_KS l D zcl zFK cy z0 sp (zTys cy) G zYN (fun y => Cond.code (zYN y) (zCN y) (zMQ y) (zRT y) :: zTs) d K) => zt_153 h hG hP
  have b := zz_B_rf (l := l) (Ts := zTs) (D := D) (cl := zcl) (fk := zFK) (cy := cy) (z0 := z0) (sp := sp) (tys := zTys cy) (G := G) (own := "ToolMill$Codes") (mn := "decode") (nL := 4) (cc := prog_3_method_2_code) (d := d) ((0, [(0, .ref 12), (1, .int p0)], [], w) : zz_F)
  replace b := zz_fw b T (rfl : zz_ent zP_153 0 = (0, za_iload 1 1)) (ze_iload rfl)
  replace b := zz_fw b T (rfl : zz_ent zP_153 1 = (0, za_const (.int (Int32.ofNat 26)) 3)) (ze_const)
  replace b := zz_fw b T (rfl : zz_ent zP_153 3 = (0, za_iushr 4)) (ze_iushr (zF_hi p0))
  replace b := zz_fw b T (rfl : zz_ent zP_153 4 = (0, za_istore 2 5)) (ze_istore (lv' := [(0, _), (1, _)]) rfl)
  replace b := zz_fw b T (rfl : zz_ent zP_153 5 = (0, za_iload 2 6)) (ze_iload rfl)
  replace b := zz_fw b T (rfl : zz_ent zP_153 6 = (0, za_if_ne 21 9)) (ze_if_ne_t (by rw [ho]; decide))
  replace b := zz_fw b T (rfl : zz_ent zP_153 21 = (0, za_iload 2 22)) (ze_iload rfl)
  replace b := zz_fw b T (rfl : zz_ent zP_153 22 = (0, za_const (.int (Int32.ofNat 1)) 23)) (ze_const)
  replace b := zz_fw b T (rfl : zz_ent zP_153 23 = (0, za_icmp_ne 41 26)) (ze_icmp_ne_f (not_not_intro (by rw [ho])))
  replace b := zz_fw b T (rfl : zz_ent zP_153 26 = (0, za_aload 0 27)) (ze_aload rfl)
  replace b := zz_fw b T (rfl : zz_ent zP_153 27 = (0, za_getA 3 3 30)) (ze_getA (zBr_f12 r) (by decide) (zBr_v12_3 r))
  replace b := zz_fw b T (rfl : zz_ent zP_153 30 = (0, za_iload 1 31)) (ze_iload rfl)
  replace b := zz_fw b T (rfl : zz_ent zP_153 31 = (0, za_const (.int (Int32.ofNat 16)) 33)) (ze_const)
  replace b := zz_fw b T (rfl : zz_ent zP_153 33 = (0, za_iushr 34)) (ze_iushr rfl)
  replace b := zz_fw b T (rfl : zz_ent zP_153 34 = (0, za_const (.int (Int32.ofNat 31)) 36)) (ze_const)
  replace b := zz_fw b T (rfl : zz_ent zP_153 36 = (0, za_iand 37)) (ze_iand (zF_eq p0 16 5 31 (by decide) (by decide) rfl))
  replace b := zz_fw b T (rfl : zz_ent zP_153 37 = (0, za_aldI 0 38)) (ze_aldI (zBr_f15 r) (by have := zF_lt p0 16 5; rw [zz_nI_ofNat (by omega)]; omega) (by decide) (by rw [zz_nI_ofNat (by have := zF_lt p0 16 5; omega), hf]))
  replace b := zz_fw b T (rfl : zz_ent zP_153 38 = (0, za_goto 47)) (ze_goto)
  replace b := zz_fw b T (rfl : zz_ent zP_153 47 = (0, za_istore 3 48)) (ze_istore (lv' := [(2, _), (0, _), (1, _)]) rfl)
  replace b := zz_fw b T (rfl : zz_ent zP_153 48 = (0, za_iload 3 49)) (ze_iload rfl)
  replace b := zz_fw b T (rfl : zz_ent zP_153 49 = (0, za_if_lt 75 52)) (ze_if_lt_t (by rw [hn]; decide))
  replace b := zz_fw b T (rfl : zz_ent zP_153 75 = (0, za_const (.int (Int32.ofNat 4294967295)) 76)) (ze_const)
  have m := zz_M_B (yn := zYN) (cn := zCN) (ml := zMQ) (rt := zRT) (y := 153) (as := [.ref 12, .int p0]) rfl rfl rfl rfl rfl (by decide +kernel) (zz_lb rfl) (zz_lb rfl) (zz_end_i (zr_153.2.1 76 rfl).1) b
  exact m
theorem zD_2k {W0 : zz_W} {l : Launch} {D : va_G} {cy : Nat → ClassId} {z0 : Nat} {sp : Nat → Nat} {G : State → Prop} {d : Nat} (hG : zz_GF z0 G) (hP : ∀ U, G U → zz_GD zS zS2 zLg z0 sp U) (hsp : sp 18446744073709551616 = 0) {v N M c : Nat} {w : zz_W} (r : zBr W0 v N M c w) {p0 : Int32} {f : Nat} (h0 : ¬ zF p0 26 6 = 0) (h1 : ¬ zF p0 26 6 = 1) (hf : zz_at 32 zc_13 (zF p0 26 6) = f) (h51 : f < 51) {fo fx ba : Nat} (l1 : fo < 15) (q1 : zz_ki zS2 2000002 f = some fo) (q2 : zz_ki zS2 2000003 fo = some fx) (q3 : zz_ki zS2 2000004 f = some ba) (hq : p0 &&& Int32.ofNat fx = Int32.ofNat ba) : zz_M l zTs D zcl zFK cy z0 sp (zTys cy) G zYN zCN zMQ zRT (d + 1) 153 [.ref 12, .int p0] w [.int (Int32.ofNat f)] w := by
  have T := zt_153 (l := l) (D := D) (cy := cy) (z0 := z0) (sp := sp) (G := G) (d := d) zz_k0_KS hG hP
  have TK := fun (K : zz_K) (h : zz_KS l D zcl zFK cy z0 sp (zTys cy) G zYN (fun y => Cond.code (zYN y) (zCN y) (zMQ y) (zRT y) :: zTs) d K) => zt_153 h hG hP
  have b := zz_B_rf (l := l) (Ts := zTs) (D := D) (cl := zcl) (fk := zFK) (cy := cy) (z0 := z0) (sp := sp) (tys := zTys cy) (G := G) (own := "ToolMill$Codes") (mn := "decode") (nL := 4) (cc := prog_3_method_2_code) (d := d) ((0, [(0, .ref 12), (1, .int p0)], [], w) : zz_F)
  replace b := zz_fw b T (rfl : zz_ent zP_153 0 = (0, za_iload 1 1)) (ze_iload rfl)
  replace b := zz_fw b T (rfl : zz_ent zP_153 1 = (0, za_const (.int (Int32.ofNat 26)) 3)) (ze_const)
  replace b := zz_fw b T (rfl : zz_ent zP_153 3 = (0, za_iushr 4)) (ze_iushr (zF_hi p0))
  replace b := zz_fw b T (rfl : zz_ent zP_153 4 = (0, za_istore 2 5)) (ze_istore (lv' := [(0, _), (1, _)]) rfl)
  replace b := zz_fw b T (rfl : zz_ent zP_153 5 = (0, za_iload 2 6)) (ze_iload rfl)
  replace b := zz_fw b T (rfl : zz_ent zP_153 6 = (0, za_if_ne 21 9)) (ze_if_ne_t (zl_n0 _ (zF_lt p0 26 6) h0))
  replace b := zz_fw b T (rfl : zz_ent zP_153 21 = (0, za_iload 2 22)) (ze_iload rfl)
  replace b := zz_fw b T (rfl : zz_ent zP_153 22 = (0, za_const (.int (Int32.ofNat 1)) 23)) (ze_const)
  replace b := zz_fw b T (rfl : zz_ent zP_153 23 = (0, za_icmp_ne 41 26)) (ze_icmp_ne_t (zl_n1 _ (zF_lt p0 26 6) h1))
  replace b := zz_fw b T (rfl : zz_ent zP_153 41 = (0, za_aload 0 42)) (ze_aload rfl)
  replace b := zz_fw b T (rfl : zz_ent zP_153 42 = (0, za_getA 3 1 45)) (ze_getA (zBr_f12 r) (by decide) (zBr_v12_1 r))
  replace b := zz_fw b T (rfl : zz_ent zP_153 45 = (0, za_iload 2 46)) (ze_iload rfl)
  replace b := zz_fw b T (rfl : zz_ent zP_153 46 = (0, za_aldI 0 47)) (ze_aldI (zBr_f13 r) (by have := zF_lt p0 26 6; rw [zz_nI_ofNat (by omega)]; omega) (by decide) (by rw [zz_nI_ofNat (by have := zF_lt p0 26 6; omega), hf]))
  replace b := zz_fw b T (rfl : zz_ent zP_153 47 = (0, za_istore 3 48)) (ze_istore (lv' := [(2, _), (0, _), (1, _)]) rfl)
  replace b := zz_fw b T (rfl : zz_ent zP_153 48 = (0, za_iload 3 49)) (ze_iload rfl)
  replace b := zz_fw b T (rfl : zz_ent zP_153 49 = (0, za_if_lt 75 52)) (ze_if_lt_f (zl_51 f h51))
  replace b := zz_fw b T (rfl : zz_ent zP_153 52 = (0, za_iload 1 53)) (ze_iload rfl)
  replace b := zz_fw b T (rfl : zz_ent zP_153 53 = (0, za_const (.ref 2000003) 56)) (ze_const)
  replace b := zz_fw b T (rfl : zz_ent zP_153 56 = (0, za_const (.ref 2000002) 59)) (ze_const)
  replace b := zz_fw b T (rfl : zz_ent zP_153 59 = (0, za_iload 3 60)) (ze_iload rfl)
  replace b := zz_fw b T (rfl : zz_ent zP_153 60 = (0, za_kl (zz_ki zS2) 61)) (ze_kl (by rw [zz_nI_ofNat (by omega)]; exact q1) rfl)
  replace b := zz_fw b T (rfl : zz_ent zP_153 61 = (0, za_kl (zz_ki zS2) 62)) (ze_kl (by rw [zz_nI_ofNat (by omega)]; exact q2) rfl)
  replace b := zz_fw b T (rfl : zz_ent zP_153 62 = (0, za_iand 63)) (ze_iand rfl)
  replace b := zz_fw b T (rfl : zz_ent zP_153 63 = (0, za_const (.ref 2000004) 66)) (ze_const)
  replace b := zz_fw b T (rfl : zz_ent zP_153 66 = (0, za_iload 3 67)) (ze_iload rfl)
  replace b := zz_fw b T (rfl : zz_ent zP_153 67 = (0, za_kl (zz_ki zS2) 68)) (ze_kl (by rw [zz_nI_ofNat (by omega)]; exact q3) rfl)
  replace b := zz_fw b T (rfl : zz_ent zP_153 68 = (0, za_icmp_ne 75 71)) (ze_icmp_ne_f (not_not_intro hq))
  replace b := zz_fw b T (rfl : zz_ent zP_153 71 = (0, za_iload 3 72)) (ze_iload rfl)
  replace b := zz_fw b T (rfl : zz_ent zP_153 72 = (0, za_goto 76)) (ze_goto)
  have m := zz_M_B (yn := zYN) (cn := zCN) (ml := zMQ) (rt := zRT) (y := 153) (as := [.ref 12, .int p0]) rfl rfl rfl rfl rfl (by decide +kernel) (zz_lb rfl) (zz_lb rfl) (zz_end_i (zr_153.2.1 76 rfl).1) b
  exact m
theorem zD_2x {W0 : zz_W} {l : Launch} {D : va_G} {cy : Nat → ClassId} {z0 : Nat} {sp : Nat → Nat} {G : State → Prop} {d : Nat} (hG : zz_GF z0 G) (hP : ∀ U, G U → zz_GD zS zS2 zLg z0 sp U) (hsp : sp 18446744073709551616 = 0) {v N M c : Nat} {w : zz_W} (r : zBr W0 v N M c w) {p0 : Int32} {f : Nat} (h0 : ¬ zF p0 26 6 = 0) (h1 : ¬ zF p0 26 6 = 1) (hf : zz_at 32 zc_13 (zF p0 26 6) = f) (h51 : f < 51) {fo fx ba : Nat} (l1 : fo < 15) (q1 : zz_ki zS2 2000002 f = some fo) (q2 : zz_ki zS2 2000003 fo = some fx) (q3 : zz_ki zS2 2000004 f = some ba) (hq : ¬ p0 &&& Int32.ofNat fx = Int32.ofNat ba) : zz_M l zTs D zcl zFK cy z0 sp (zTys cy) G zYN zCN zMQ zRT (d + 1) 153 [.ref 12, .int p0] w [.int (Int32.ofNat 4294967295)] w := by
  have T := zt_153 (l := l) (D := D) (cy := cy) (z0 := z0) (sp := sp) (G := G) (d := d) zz_k0_KS hG hP
  have TK := fun (K : zz_K) (h : zz_KS l D zcl zFK cy z0 sp (zTys cy) G zYN (fun y => Cond.code (zYN y) (zCN y) (zMQ y) (zRT y) :: zTs) d K) => zt_153 h hG hP
  have b := zz_B_rf (l := l) (Ts := zTs) (D := D) (cl := zcl) (fk := zFK) (cy := cy) (z0 := z0) (sp := sp) (tys := zTys cy) (G := G) (own := "ToolMill$Codes") (mn := "decode") (nL := 4) (cc := prog_3_method_2_code) (d := d) ((0, [(0, .ref 12), (1, .int p0)], [], w) : zz_F)
  replace b := zz_fw b T (rfl : zz_ent zP_153 0 = (0, za_iload 1 1)) (ze_iload rfl)
  replace b := zz_fw b T (rfl : zz_ent zP_153 1 = (0, za_const (.int (Int32.ofNat 26)) 3)) (ze_const)
  replace b := zz_fw b T (rfl : zz_ent zP_153 3 = (0, za_iushr 4)) (ze_iushr (zF_hi p0))
  replace b := zz_fw b T (rfl : zz_ent zP_153 4 = (0, za_istore 2 5)) (ze_istore (lv' := [(0, _), (1, _)]) rfl)
  replace b := zz_fw b T (rfl : zz_ent zP_153 5 = (0, za_iload 2 6)) (ze_iload rfl)
  replace b := zz_fw b T (rfl : zz_ent zP_153 6 = (0, za_if_ne 21 9)) (ze_if_ne_t (zl_n0 _ (zF_lt p0 26 6) h0))
  replace b := zz_fw b T (rfl : zz_ent zP_153 21 = (0, za_iload 2 22)) (ze_iload rfl)
  replace b := zz_fw b T (rfl : zz_ent zP_153 22 = (0, za_const (.int (Int32.ofNat 1)) 23)) (ze_const)
  replace b := zz_fw b T (rfl : zz_ent zP_153 23 = (0, za_icmp_ne 41 26)) (ze_icmp_ne_t (zl_n1 _ (zF_lt p0 26 6) h1))
  replace b := zz_fw b T (rfl : zz_ent zP_153 41 = (0, za_aload 0 42)) (ze_aload rfl)
  replace b := zz_fw b T (rfl : zz_ent zP_153 42 = (0, za_getA 3 1 45)) (ze_getA (zBr_f12 r) (by decide) (zBr_v12_1 r))
  replace b := zz_fw b T (rfl : zz_ent zP_153 45 = (0, za_iload 2 46)) (ze_iload rfl)
  replace b := zz_fw b T (rfl : zz_ent zP_153 46 = (0, za_aldI 0 47)) (ze_aldI (zBr_f13 r) (by have := zF_lt p0 26 6; rw [zz_nI_ofNat (by omega)]; omega) (by decide) (by rw [zz_nI_ofNat (by have := zF_lt p0 26 6; omega), hf]))
  replace b := zz_fw b T (rfl : zz_ent zP_153 47 = (0, za_istore 3 48)) (ze_istore (lv' := [(2, _), (0, _), (1, _)]) rfl)
  replace b := zz_fw b T (rfl : zz_ent zP_153 48 = (0, za_iload 3 49)) (ze_iload rfl)
  replace b := zz_fw b T (rfl : zz_ent zP_153 49 = (0, za_if_lt 75 52)) (ze_if_lt_f (zl_51 f h51))
  replace b := zz_fw b T (rfl : zz_ent zP_153 52 = (0, za_iload 1 53)) (ze_iload rfl)
  replace b := zz_fw b T (rfl : zz_ent zP_153 53 = (0, za_const (.ref 2000003) 56)) (ze_const)
  replace b := zz_fw b T (rfl : zz_ent zP_153 56 = (0, za_const (.ref 2000002) 59)) (ze_const)
  replace b := zz_fw b T (rfl : zz_ent zP_153 59 = (0, za_iload 3 60)) (ze_iload rfl)
  replace b := zz_fw b T (rfl : zz_ent zP_153 60 = (0, za_kl (zz_ki zS2) 61)) (ze_kl (by rw [zz_nI_ofNat (by omega)]; exact q1) rfl)
  replace b := zz_fw b T (rfl : zz_ent zP_153 61 = (0, za_kl (zz_ki zS2) 62)) (ze_kl (by rw [zz_nI_ofNat (by omega)]; exact q2) rfl)
  replace b := zz_fw b T (rfl : zz_ent zP_153 62 = (0, za_iand 63)) (ze_iand rfl)
  replace b := zz_fw b T (rfl : zz_ent zP_153 63 = (0, za_const (.ref 2000004) 66)) (ze_const)
  replace b := zz_fw b T (rfl : zz_ent zP_153 66 = (0, za_iload 3 67)) (ze_iload rfl)
  replace b := zz_fw b T (rfl : zz_ent zP_153 67 = (0, za_kl (zz_ki zS2) 68)) (ze_kl (by rw [zz_nI_ofNat (by omega)]; exact q3) rfl)
  replace b := zz_fw b T (rfl : zz_ent zP_153 68 = (0, za_icmp_ne 75 71)) (ze_icmp_ne_t hq)
  replace b := zz_fw b T (rfl : zz_ent zP_153 75 = (0, za_const (.int (Int32.ofNat 4294967295)) 76)) (ze_const)
  have m := zz_M_B (yn := zYN) (cn := zCN) (ml := zMQ) (rt := zRT) (y := 153) (as := [.ref 12, .int p0]) rfl rfl rfl rfl rfl (by decide +kernel) (zz_lb rfl) (zz_lb rfl) (zz_end_i (zr_153.2.1 76 rfl).1) b
  exact m
theorem zD_2n {W0 : zz_W} {l : Launch} {D : va_G} {cy : Nat → ClassId} {z0 : Nat} {sp : Nat → Nat} {G : State → Prop} {d : Nat} (hG : zz_GF z0 G) (hP : ∀ U, G U → zz_GD zS zS2 zLg z0 sp U) (hsp : sp 18446744073709551616 = 0) {v N M c : Nat} {w : zz_W} (r : zBr W0 v N M c w) {p0 : Int32} {f : Nat} (h0 : ¬ zF p0 26 6 = 0) (h1 : ¬ zF p0 26 6 = 1) (hf : zz_at 32 zc_13 (zF p0 26 6) = f) (hn : f = 4294967295) : zz_M l zTs D zcl zFK cy z0 sp (zTys cy) G zYN zCN zMQ zRT (d + 1) 153 [.ref 12, .int p0] w [.int (Int32.ofNat 4294967295)] w := by
  have T := zt_153 (l := l) (D := D) (cy := cy) (z0 := z0) (sp := sp) (G := G) (d := d) zz_k0_KS hG hP
  have TK := fun (K : zz_K) (h : zz_KS l D zcl zFK cy z0 sp (zTys cy) G zYN (fun y => Cond.code (zYN y) (zCN y) (zMQ y) (zRT y) :: zTs) d K) => zt_153 h hG hP
  have b := zz_B_rf (l := l) (Ts := zTs) (D := D) (cl := zcl) (fk := zFK) (cy := cy) (z0 := z0) (sp := sp) (tys := zTys cy) (G := G) (own := "ToolMill$Codes") (mn := "decode") (nL := 4) (cc := prog_3_method_2_code) (d := d) ((0, [(0, .ref 12), (1, .int p0)], [], w) : zz_F)
  replace b := zz_fw b T (rfl : zz_ent zP_153 0 = (0, za_iload 1 1)) (ze_iload rfl)
  replace b := zz_fw b T (rfl : zz_ent zP_153 1 = (0, za_const (.int (Int32.ofNat 26)) 3)) (ze_const)
  replace b := zz_fw b T (rfl : zz_ent zP_153 3 = (0, za_iushr 4)) (ze_iushr (zF_hi p0))
  replace b := zz_fw b T (rfl : zz_ent zP_153 4 = (0, za_istore 2 5)) (ze_istore (lv' := [(0, _), (1, _)]) rfl)
  replace b := zz_fw b T (rfl : zz_ent zP_153 5 = (0, za_iload 2 6)) (ze_iload rfl)
  replace b := zz_fw b T (rfl : zz_ent zP_153 6 = (0, za_if_ne 21 9)) (ze_if_ne_t (zl_n0 _ (zF_lt p0 26 6) h0))
  replace b := zz_fw b T (rfl : zz_ent zP_153 21 = (0, za_iload 2 22)) (ze_iload rfl)
  replace b := zz_fw b T (rfl : zz_ent zP_153 22 = (0, za_const (.int (Int32.ofNat 1)) 23)) (ze_const)
  replace b := zz_fw b T (rfl : zz_ent zP_153 23 = (0, za_icmp_ne 41 26)) (ze_icmp_ne_t (zl_n1 _ (zF_lt p0 26 6) h1))
  replace b := zz_fw b T (rfl : zz_ent zP_153 41 = (0, za_aload 0 42)) (ze_aload rfl)
  replace b := zz_fw b T (rfl : zz_ent zP_153 42 = (0, za_getA 3 1 45)) (ze_getA (zBr_f12 r) (by decide) (zBr_v12_1 r))
  replace b := zz_fw b T (rfl : zz_ent zP_153 45 = (0, za_iload 2 46)) (ze_iload rfl)
  replace b := zz_fw b T (rfl : zz_ent zP_153 46 = (0, za_aldI 0 47)) (ze_aldI (zBr_f13 r) (by have := zF_lt p0 26 6; rw [zz_nI_ofNat (by omega)]; omega) (by decide) (by rw [zz_nI_ofNat (by have := zF_lt p0 26 6; omega), hf]))
  replace b := zz_fw b T (rfl : zz_ent zP_153 47 = (0, za_istore 3 48)) (ze_istore (lv' := [(2, _), (0, _), (1, _)]) rfl)
  replace b := zz_fw b T (rfl : zz_ent zP_153 48 = (0, za_iload 3 49)) (ze_iload rfl)
  replace b := zz_fw b T (rfl : zz_ent zP_153 49 = (0, za_if_lt 75 52)) (ze_if_lt_t (by rw [hn]; decide))
  replace b := zz_fw b T (rfl : zz_ent zP_153 75 = (0, za_const (.int (Int32.ofNat 4294967295)) 76)) (ze_const)
  have m := zz_M_B (yn := zYN) (cn := zCN) (ml := zMQ) (rt := zRT) (y := 153) (as := [.ref 12, .int p0]) rfl rfl rfl rfl rfl (by decide +kernel) (zz_lb rfl) (zz_lb rfl) (zz_end_i (zr_153.2.1 76 rfl).1) b
  exact m
/-- sign k of the class's name id, and the name -/
noncomputable def zcs (id k : Nat) : Int64 := ((Int64.ofNat (zz_at 64 zc_5 (zz_nI (Int32.ofNat id)))).toUInt64 >>> ((Int32.ofNat 8 * Int32.ofNat k).toInt64.toUInt64 &&& Int64.toUInt64 63)).toInt64 &&& Int64.ofNat 255
noncomputable def zNc (id : Nat) : List Nat := ((List.range 8).map fun k => zz_nI (zcs id k).toInt32).takeWhile fun x => !Nat.beq x 0
def zIds : List Nat := List.range 51 ++ (List.range 32).map (93 + ·)
theorem zNc_all : zIds.all (fun id => Nat.blt (zNc id).length 8 && (decide (lg_cmp (zcs id (zNc id).length) (Int64.ofNat 0) = 0) && (List.range (zNc id).length).all (fun k => !decide (lg_cmp (zcs id k) (Int64.ofNat 0) = 0) && (decide (((zcs id k).toInt32.toUInt32 % 65536).toInt32 = Int32.ofNat ((zNc id).getD k 0)) && Nat.blt ((zNc id).getD k 0) 128)))) = true := by decide +kernel
theorem zNc_ok {id : Nat} (h : id ∈ zIds) : (zNc id).length < 8 ∧ lg_cmp (zcs id (zNc id).length) (Int64.ofNat 0) = 0 ∧ ∀ k, k < (zNc id).length → ¬ lg_cmp (zcs id k) (Int64.ofNat 0) = 0 ∧ ((zcs id k).toInt32.toUInt32 % 65536).toInt32 = Int32.ofNat ((zNc id).getD k 0) ∧ (zNc id).getD k 0 < 128 := by
  have h1 := List.all_eq_true.mp zNc_all id h
  obtain ⟨a, h1⟩ := zz_and h1
  obtain ⟨b, h1⟩ := zz_and h1
  refine ⟨zz_blt a, of_decide_eq_true b, fun k hk => ?_⟩
  have h2 := List.all_eq_true.mp h1 k (List.mem_range.mpr hk)
  obtain ⟨c, h2⟩ := zz_and h2
  obtain ⟨e, f⟩ := zz_and h2
  refine ⟨fun q => ?_, of_decide_eq_true e, zz_blt f⟩
  rw [decide_eq_true q] at c
  cases c
theorem zIds_op {f : Nat} (h : f < 51) : f ∈ zIds := List.mem_append_left _ (List.mem_range.mpr h)
theorem zIds_rg {f : Nat} (h : f < 32) : 93 + f ∈ zIds := List.mem_append_right _ (List.mem_map.mpr ⟨f, List.mem_range.mpr h, rfl⟩)
theorem zIds_le {f : Nat} (h : f ∈ zIds) : f < 125 := by
  unfold zIds at h
  rcases List.mem_append.mp h with h | h
  · have := List.mem_range.mp h; omega
  · obtain ⟨x, h1, h2⟩ := List.mem_map.mp h
    have := List.mem_range.mp h1
    omega
theorem zls_8 : ∀ k, k < 8 → ¬ Int32.ofNat 8 ≤ Int32.ofNat k := by decide +kernel
theorem zB_r {W0 : zz_W} {T : List Nat} {w : zz_W} (hB : zB W0 T w) : ∃ v N M c, zBr W0 v N M c w := by
  obtain ⟨v, N, M, c, r, -⟩ := hB
  exact ⟨v, N, M, c, r⟩
theorem zB_12 {W0 : zz_W} {T : List Nat} {w : zz_W} (hB : zB W0 T w) : zz_ic w 12 3 = true := by
  obtain ⟨v, N, M, c, r, -⟩ := hB
  exact zz_has_c (zBr_f12 r)
theorem znm_s {W0 : zz_W} {l : Launch} {D : va_G} {cy : Nat → ClassId} {z0 : Nat} {sp : Nat → Nat} {G : State → Prop} {d : Nat} (hG : zz_GF z0 G) (hP : ∀ U, G U → zz_GD zS zS2 zLg z0 sp U) (hsp : sp 18446744073709551616 = 0) {T : List Nat} {w : zz_W} (hB : zB W0 T w) {id k : Nat} (hi : id < 125) (hk : k < 8) {x : Nat} (hT : T.length < 33) (h1 : ¬ lg_cmp (zcs id k) (Int64.ofNat 0) = 0) (h2 : ((zcs id k).toInt32.toUInt32 % 65536).toInt32 = Int32.ofNat x) (hx7 : x < 128) : ∃ w', zz_B l zTs D zcl zFK cy z0 sp (zTys cy) G "ToolMill$Codes" "nameOf" 3 prog_3_method_14_code (d + 6) (2, [(0, .ref 12), (1, .int (Int32.ofNat id)), (2, .int (Int32.ofNat k))], [], w) (2, [(0, .ref 12), (1, .int (Int32.ofNat id)), (2, .int (Int32.ofNat (k + 1)))], [], w') ∧ zB W0 (T ++ [x]) w' := by
  obtain ⟨v, N, M, c, r⟩ := zB_r hB
  have T9 := zt_156 (l := l) (D := D) (cy := cy) (z0 := z0) (sp := sp) (G := G) (d := (d + 6)) zz_k0_KS hG hP
  have TK := fun (K : zz_K) (h : zz_KS l D zcl zFK cy z0 sp (zTys cy) G zYN (fun y => Cond.code (zYN y) (zCN y) (zMQ y) (zRT y) :: zTs) (d + 6) K) => zt_156 h hG hP
  have b := zz_B_rf (l := l) (Ts := zTs) (D := D) (cl := zcl) (fk := zFK) (cy := cy) (z0 := z0) (sp := sp) (tys := zTys cy) (G := G) (own := "ToolMill$Codes") (mn := "nameOf") (nL := 3) (cc := prog_3_method_14_code) (d := (d + 6)) ((2, [(0, .ref 12), (1, .int (Int32.ofNat id)), (2, .int (Int32.ofNat k))], [], w) : zz_F)
  replace b := zz_fw b T9 (rfl : zz_ent zP_156 2 = (0, za_iload 2 3)) (ze_iload rfl)
  replace b := zz_fw b T9 (rfl : zz_ent zP_156 3 = (0, za_const (.int (Int32.ofNat 8)) 5)) (ze_const)
  replace b := zz_fw b T9 (rfl : zz_ent zP_156 5 = (0, za_icmp_ge 65 8)) (ze_icmp_ge_f (zls_8 k hk))
  replace b := zz_fw b T9 (rfl : zz_ent zP_156 8 = (0, za_aload 0 9)) (ze_aload rfl)
  replace b := zz_fw b T9 (rfl : zz_ent zP_156 9 = (0, za_getA 3 0 12)) (ze_getA (zBr_f12 r) (by decide) (zBr_v12_0 r))
  replace b := zz_fw b T9 (rfl : zz_ent zP_156 12 = (0, za_getA 9 0 15)) (ze_getA (zBr_f4 r) (by decide) (zBr_v4_0 r))
  replace b := zz_fw b T9 (rfl : zz_ent zP_156 15 = (0, za_iload 1 16)) (ze_iload rfl)
  replace b := zz_fw b T9 (rfl : zz_ent zP_156 16 = (0, za_aldL 3 17)) (ze_aldL (zBr_f5 r) (by rw [zz_nI_ofNat (by omega)]; omega) (by decide) (zBr_n5 r (by omega)))
  replace b := zz_fw b T9 (rfl : zz_ent zP_156 17 = (0, za_const (.int (Int32.ofNat 8)) 19)) (ze_const)
  replace b := zz_fw b T9 (rfl : zz_ent zP_156 19 = (0, za_iload 2 20)) (ze_iload rfl)
  replace b := zz_fw b T9 (rfl : zz_ent zP_156 20 = (0, za_imul 21)) (ze_imul rfl)
  replace b := zz_fw b T9 (rfl : zz_ent zP_156 21 = (0, za_lushr 22)) (ze_lushr rfl)
  replace b := zz_fw b T9 (rfl : zz_ent zP_156 22 = (0, za_const (.long (Int64.ofNat 255)) 25)) (ze_const)
  replace b := zz_fw b T9 (rfl : zz_ent zP_156 25 = (0, za_land 26)) (ze_land (rfl : _ = zcs id k))
  replace b := zz_fw b T9 (rfl : zz_ent zP_156 26 = (0, za_const (.long (Int64.ofNat 0)) 27)) (ze_const)
  replace b := zz_fw b T9 (rfl : zz_ent zP_156 27 = (0, za_lcmp 28)) (ze_lcmp rfl)
  replace b := zz_fw b T9 (rfl : zz_ent zP_156 28 = (0, za_if_eq 65 31)) (ze_if_eq_f h1)
  replace b := zz_fw b T9 (rfl : zz_ent zP_156 31 = (0, za_aload 0 32)) (ze_aload rfl)
  replace b := zz_fw b T9 (rfl : zz_ent zP_156 32 = (0, za_getA 3 4 35)) (ze_getA (zBr_f12 r) (by decide) (zBr_v12_4 r))
  replace b := zz_fw b T9 (rfl : zz_ent zP_156 35 = (0, za_aload 0 36)) (ze_aload rfl)
  replace b := zz_fw b T9 (rfl : zz_ent zP_156 36 = (0, za_getA 3 0 39)) (ze_getA (zBr_f12 r) (by decide) (zBr_v12_0 r))
  replace b := zz_fw b T9 (rfl : zz_ent zP_156 39 = (0, za_getA 9 0 42)) (ze_getA (zBr_f4 r) (by decide) (zBr_v4_0 r))
  replace b := zz_fw b T9 (rfl : zz_ent zP_156 42 = (0, za_iload 1 43)) (ze_iload rfl)
  replace b := zz_fw b T9 (rfl : zz_ent zP_156 43 = (0, za_aldL 3 44)) (ze_aldL (zBr_f5 r) (by rw [zz_nI_ofNat (by omega)]; omega) (by decide) (zBr_n5 r (by omega)))
  replace b := zz_fw b T9 (rfl : zz_ent zP_156 44 = (0, za_const (.int (Int32.ofNat 8)) 46)) (ze_const)
  replace b := zz_fw b T9 (rfl : zz_ent zP_156 46 = (0, za_iload 2 47)) (ze_iload rfl)
  replace b := zz_fw b T9 (rfl : zz_ent zP_156 47 = (0, za_imul 48)) (ze_imul rfl)
  replace b := zz_fw b T9 (rfl : zz_ent zP_156 48 = (0, za_lushr 49)) (ze_lushr rfl)
  replace b := zz_fw b T9 (rfl : zz_ent zP_156 49 = (0, za_const (.long (Int64.ofNat 255)) 52)) (ze_const)
  replace b := zz_fw b T9 (rfl : zz_ent zP_156 52 = (0, za_land 53)) (ze_land (rfl : _ = zcs id k))
  replace b := zz_fw b T9 (rfl : zz_ent zP_156 53 = (0, za_l2i 54)) (ze_l2i rfl)
  replace b := zz_fw b T9 (rfl : zz_ent zP_156 54 = (0, za_i2c 55)) (ze_i2c h2)
  obtain ⟨w1, hM1, hB1⟩ := zL_apc (d := d) (l := l) (D := D) (cy := cy) (sp := sp) hG hP hsp hB (x := x) (by omega) hx7
  replace b := zz_fVi b TK (rfl : zz_ent zP_156 55 = (0, za_callV 13 158 1 58)) hM1 rfl rfl (zB_ic hB) (zz_lb rfl)
  replace b := zz_fw b T9 (rfl : zz_ent zP_156 58 = (0, za_pop 59)) (ze_pop rfl)
  replace b := zz_fw b T9 (rfl : zz_ent zP_156 59 = (0, za_iinc 2 (Int32.ofNat 1) 62)) (ze_iinc (lv' := [(0, _), (1, _)]) rfl (Int32.ofNat_add k 1).symm rfl)
  replace b := zz_fw b T9 (rfl : zz_ent zP_156 62 = (0, za_goto 2)) (ze_goto)
  replace b := zz_fl (lv' := [(0, .ref 12), (1, .int (Int32.ofNat id)), (2, .int (Int32.ofNat (k + 1)))]) b (zz_mc (List.mem_cons_of_mem _ List.mem_cons_self) (zz_mc (List.mem_cons_of_mem _ (List.mem_cons_of_mem _ List.mem_cons_self)) (zz_mc List.mem_cons_self zz_mn)))
  exact ⟨_, b, hB1⟩
theorem znm_e {W0 : zz_W} {l : Launch} {D : va_G} {cy : Nat → ClassId} {z0 : Nat} {sp : Nat → Nat} {G : State → Prop} {d : Nat} (hG : zz_GF z0 G) (hP : ∀ U, G U → zz_GD zS zS2 zLg z0 sp U) (hsp : sp 18446744073709551616 = 0) {T : List Nat} {w : zz_W} (hB : zB W0 T w) {id k : Nat} (hi : id < 125) (hk : k < 8) (h1 : lg_cmp (zcs id k) (Int64.ofNat 0) = 0) : zz_B l zTs D zcl zFK cy z0 sp (zTys cy) G "ToolMill$Codes" "nameOf" 3 prog_3_method_14_code (d + 6) (2, [(0, .ref 12), (1, .int (Int32.ofNat id)), (2, .int (Int32.ofNat k))], [], w) (65, [(0, .ref 12), (1, .int (Int32.ofNat id)), (2, .int (Int32.ofNat k))], [], w) := by
  obtain ⟨v, N, M, c, r⟩ := zB_r hB
  have T9 := zt_156 (l := l) (D := D) (cy := cy) (z0 := z0) (sp := sp) (G := G) (d := (d + 6)) zz_k0_KS hG hP
  have TK := fun (K : zz_K) (h : zz_KS l D zcl zFK cy z0 sp (zTys cy) G zYN (fun y => Cond.code (zYN y) (zCN y) (zMQ y) (zRT y) :: zTs) (d + 6) K) => zt_156 h hG hP
  have b := zz_B_rf (l := l) (Ts := zTs) (D := D) (cl := zcl) (fk := zFK) (cy := cy) (z0 := z0) (sp := sp) (tys := zTys cy) (G := G) (own := "ToolMill$Codes") (mn := "nameOf") (nL := 3) (cc := prog_3_method_14_code) (d := (d + 6)) ((2, [(0, .ref 12), (1, .int (Int32.ofNat id)), (2, .int (Int32.ofNat k))], [], w) : zz_F)
  replace b := zz_fw b T9 (rfl : zz_ent zP_156 2 = (0, za_iload 2 3)) (ze_iload rfl)
  replace b := zz_fw b T9 (rfl : zz_ent zP_156 3 = (0, za_const (.int (Int32.ofNat 8)) 5)) (ze_const)
  replace b := zz_fw b T9 (rfl : zz_ent zP_156 5 = (0, za_icmp_ge 65 8)) (ze_icmp_ge_f (zls_8 k hk))
  replace b := zz_fw b T9 (rfl : zz_ent zP_156 8 = (0, za_aload 0 9)) (ze_aload rfl)
  replace b := zz_fw b T9 (rfl : zz_ent zP_156 9 = (0, za_getA 3 0 12)) (ze_getA (zBr_f12 r) (by decide) (zBr_v12_0 r))
  replace b := zz_fw b T9 (rfl : zz_ent zP_156 12 = (0, za_getA 9 0 15)) (ze_getA (zBr_f4 r) (by decide) (zBr_v4_0 r))
  replace b := zz_fw b T9 (rfl : zz_ent zP_156 15 = (0, za_iload 1 16)) (ze_iload rfl)
  replace b := zz_fw b T9 (rfl : zz_ent zP_156 16 = (0, za_aldL 3 17)) (ze_aldL (zBr_f5 r) (by rw [zz_nI_ofNat (by omega)]; omega) (by decide) (zBr_n5 r (by omega)))
  replace b := zz_fw b T9 (rfl : zz_ent zP_156 17 = (0, za_const (.int (Int32.ofNat 8)) 19)) (ze_const)
  replace b := zz_fw b T9 (rfl : zz_ent zP_156 19 = (0, za_iload 2 20)) (ze_iload rfl)
  replace b := zz_fw b T9 (rfl : zz_ent zP_156 20 = (0, za_imul 21)) (ze_imul rfl)
  replace b := zz_fw b T9 (rfl : zz_ent zP_156 21 = (0, za_lushr 22)) (ze_lushr rfl)
  replace b := zz_fw b T9 (rfl : zz_ent zP_156 22 = (0, za_const (.long (Int64.ofNat 255)) 25)) (ze_const)
  replace b := zz_fw b T9 (rfl : zz_ent zP_156 25 = (0, za_land 26)) (ze_land (rfl : _ = zcs id k))
  replace b := zz_fw b T9 (rfl : zz_ent zP_156 26 = (0, za_const (.long (Int64.ofNat 0)) 27)) (ze_const)
  replace b := zz_fw b T9 (rfl : zz_ent zP_156 27 = (0, za_lcmp 28)) (ze_lcmp rfl)
  replace b := zz_fw b T9 (rfl : zz_ent zP_156 28 = (0, za_if_eq 65 31)) (ze_if_eq_t h1)
  replace b := zz_fl (lv' := [(0, .ref 12), (1, .int (Int32.ofNat id)), (2, .int (Int32.ofNat k))]) b (zz_mc List.mem_cons_self (zz_mc (List.mem_cons_of_mem _ List.mem_cons_self) (zz_mc (List.mem_cons_of_mem _ (List.mem_cons_of_mem _ List.mem_cons_self)) zz_mn)))
  exact b
theorem znm_0 {l : Launch} {D : va_G} {cy : Nat → ClassId} {z0 : Nat} {sp : Nat → Nat} {G : State → Prop} {d : Nat} (hG : zz_GF z0 G) (hP : ∀ U, G U → zz_GD zS zS2 zLg z0 sp U) (hsp : sp 18446744073709551616 = 0) {w : zz_W} {id : Nat} : zz_B l zTs D zcl zFK cy z0 sp (zTys cy) G "ToolMill$Codes" "nameOf" 3 prog_3_method_14_code (d + 6) (0, [(0, .ref 12), (1, .int (Int32.ofNat id))], [], w) (2, [(0, .ref 12), (1, .int (Int32.ofNat id)), (2, .int (Int32.ofNat 0))], [], w) := by
  have T9 := zt_156 (l := l) (D := D) (cy := cy) (z0 := z0) (sp := sp) (G := G) (d := (d + 6)) zz_k0_KS hG hP
  have TK := fun (K : zz_K) (h : zz_KS l D zcl zFK cy z0 sp (zTys cy) G zYN (fun y => Cond.code (zYN y) (zCN y) (zMQ y) (zRT y) :: zTs) (d + 6) K) => zt_156 h hG hP
  have b := zz_B_rf (l := l) (Ts := zTs) (D := D) (cl := zcl) (fk := zFK) (cy := cy) (z0 := z0) (sp := sp) (tys := zTys cy) (G := G) (own := "ToolMill$Codes") (mn := "nameOf") (nL := 3) (cc := prog_3_method_14_code) (d := (d + 6)) ((0, [(0, .ref 12), (1, .int (Int32.ofNat id))], [], w) : zz_F)
  replace b := zz_fw b T9 (rfl : zz_ent zP_156 0 = (0, za_const (.int (Int32.ofNat 0)) 1)) (ze_const)
  replace b := zz_fw b T9 (rfl : zz_ent zP_156 1 = (0, za_istore 2 2)) (ze_istore (lv' := [(0, _), (1, _)]) rfl)
  replace b := zz_fl (lv' := [(0, .ref 12), (1, .int (Int32.ofNat id)), (2, .int (Int32.ofNat 0))]) b (zz_mc (List.mem_cons_of_mem _ List.mem_cons_self) (zz_mc (List.mem_cons_of_mem _ (List.mem_cons_of_mem _ List.mem_cons_self)) (zz_mc List.mem_cons_self zz_mn)))
  exact b
theorem znm_l {W0 : zz_W} {l : Launch} {D : va_G} {cy : Nat → ClassId} {z0 : Nat} {sp : Nat → Nat} {G : State → Prop} {d : Nat} (hG : zz_GF z0 G) (hP : ∀ U, G U → zz_GD zS zS2 zLg z0 sp U) (hsp : sp 18446744073709551616 = 0) {T : List Nat} {w : zz_W} (hB : zB W0 T w) {id : Nat} (hi : id ∈ zIds) (hT : T.length + (zNc id).length ≤ 33) : ∀ k, k ≤ (zNc id).length → ∃ w', zz_B l zTs D zcl zFK cy z0 sp (zTys cy) G "ToolMill$Codes" "nameOf" 3 prog_3_method_14_code (d + 6) (2, [(0, .ref 12), (1, .int (Int32.ofNat id)), (2, .int (Int32.ofNat 0))], [], w) (2, [(0, .ref 12), (1, .int (Int32.ofNat id)), (2, .int (Int32.ofNat k))], [], w') ∧ zB W0 (T ++ (zNc id).take k) w' := by
  obtain ⟨n8, he, hk⟩ := zNc_ok hi
  intro k
  induction k with
  | zero => exact fun _ => ⟨w, zz_B_rf _, by rw [List.take_zero, List.append_nil]; exact hB⟩
  | succ k ih =>
    intro h
    obtain ⟨w1, b1, hB1⟩ := ih (by omega)
    obtain ⟨q1, q2, q3⟩ := hk k (by omega)
    obtain ⟨w2, b2, hB2⟩ := znm_s (d := d) (l := l) (D := D) (cy := cy) (sp := sp) hG hP hsp hB1 (zIds_le hi) (k := k) (by omega) (by rw [List.length_append, List.length_take]; omega) q1 q2 q3
    refine ⟨w2, zz_B_tr b1 b2, ?_⟩
    rw [List.append_assoc, show (zNc id).take k ++ [(zNc id).getD k 0] = (zNc id).take (k + 1) from ?_] at hB2
    · exact hB2
    · rw [List.take_succ, List.getD_eq_getElem?_getD, List.getElem?_eq_getElem (by omega)]
      rfl
theorem zL_nam {W0 : zz_W} {l : Launch} {D : va_G} {cy : Nat → ClassId} {z0 : Nat} {sp : Nat → Nat} {G : State → Prop} {d : Nat} (hG : zz_GF z0 G) (hP : ∀ U, G U → zz_GD zS zS2 zLg z0 sp U) (hsp : sp 18446744073709551616 = 0) {T : List Nat} {w : zz_W} (hB : zB W0 T w) {id : Nat} (hi : id ∈ zIds) (hT : T.length + (zNc id).length ≤ 33) : ∃ w', zz_M l zTs D zcl zFK cy z0 sp (zTys cy) G zYN zCN zMQ zRT (d + 7) 156 [.ref 12, .int (Int32.ofNat id)] w [] w' ∧ zB W0 (T ++ zNc id) w' := by
  obtain ⟨n8, he, hk⟩ := zNc_ok hi
  obtain ⟨w1, b1, hB1⟩ := znm_l (d := d) (l := l) (D := D) (cy := cy) (sp := sp) hG hP hsp hB hi hT (zNc id).length (Nat.le_refl _)
  rw [List.take_length] at hB1
  have b0 := znm_0 (w := w) (id := id) (d := d) (l := l) (D := D) (cy := cy) (z0 := z0) (sp := sp) (G := G) hG hP hsp
  have b2 := znm_e (d := d) (l := l) (D := D) (cy := cy) (sp := sp) hG hP hsp hB1 (zIds_le hi) n8 he
  exact ⟨w1, zz_M_B (yn := zYN) (cn := zCN) (ml := zMQ) (rt := zRT) (y := 156) (as := [.ref 12, .int (Int32.ofNat id)]) rfl rfl rfl rfl rfl (by decide +kernel) (zz_lb rfl) (zz_lb rfl) (zz_end_v (zr_156.1 65 rfl).1) (zz_B_tr (zz_B_tr b0 b1) b2), hB1⟩
noncomputable def zRg (p : Int32) (s : Nat) : List Nat := zNc (93 + zF p s 5)
theorem zNc_5 : (List.range 32).all (fun r => Nat.ble (zNc (93 + r)).length 5) = true := by decide +kernel
theorem zRg_5 (p : Int32) (s : Nat) : (zRg p s).length ≤ 5 := zz_ble (List.all_eq_true.mp zNc_5 (zF p s 5) (List.mem_range.mpr (zF_lt p s 5)))
theorem zdc_11 (p : Int32) : (zdc p).length ≤ 11 := by
  unfold zdc
  have := zln_le p.toInt.natAbs
  split
  · rw [List.length_cons, zdg_len]; omega
  · rw [zdg_len]; omega
theorem zB_f12 {W0 : zz_W} {T : List Nat} {w : zz_W} (hB : zB W0 T w) : zz_has w 12 (3, 3, 5, (zz_g w 12).2.2.2) := by
  obtain ⟨v, N, M, c, r, -⟩ := hB
  exact zBr_f12 r
theorem zB_v12_0 {W0 : zz_W} {T : List Nat} {w : zz_W} (hB : zB W0 T w) : zz_at 64 (zz_g w 12).2.2.2 0 = 5 := by
  obtain ⟨v, N, M, c, r, -⟩ := hB
  exact zBr_v12_0 r
theorem zB_v12_1 {W0 : zz_W} {T : List Nat} {w : zz_W} (hB : zB W0 T w) : zz_at 64 (zz_g w 12).2.2.2 1 = 14 := by
  obtain ⟨v, N, M, c, r, -⟩ := hB
  exact zBr_v12_1 r
theorem zB_v12_2 {W0 : zz_W} {T : List Nat} {w : zz_W} (hB : zB W0 T w) : zz_at 64 (zz_g w 12).2.2.2 2 = 15 := by
  obtain ⟨v, N, M, c, r, -⟩ := hB
  exact zBr_v12_2 r
theorem zB_v12_3 {W0 : zz_W} {T : List Nat} {w : zz_W} (hB : zB W0 T w) : zz_at 64 (zz_g w 12).2.2.2 3 = 16 := by
  obtain ⟨v, N, M, c, r, -⟩ := hB
  exact zBr_v12_3 r
theorem zB_v12_4 {W0 : zz_W} {T : List Nat} {w : zz_W} (hB : zB W0 T w) : zz_at 64 (zz_g w 12).2.2.2 4 = 17 := by
  obtain ⟨v, N, M, c, r, -⟩ := hB
  exact zBr_v12_4 r
theorem zL_one_11 {W0 : zz_W} {l : Launch} {D : va_G} {cy : Nat → ClassId} {z0 : Nat} {sp : Nat → Nat} {G : State → Prop} {d : Nat} (hG : zz_GF z0 G) (hP : ∀ U, G U → zz_GD zS zS2 zLg z0 sp U) (hsp : sp 18446744073709551616 = 0) {T : List Nat} {w : zz_W} (hB : zB W0 T w) {p0 : Int32} {a : Nat} (ha : a < 128) (hT : T.length ≤ 27) : ∃ w', zz_M l zTs D zcl zFK cy z0 sp (zTys cy) G zYN zCN zMQ zRT (d + 8) 298 [.ref 12, .int (Int32.ofNat a), .int p0, .int (Int32.ofNat 11)] w [] w' ∧ zB W0 (T ++ [a] ++ zRg p0 11) w' := by
  have T9 := zt_298 (l := l) (D := D) (cy := cy) (z0 := z0) (sp := sp) (G := G) (d := (d + 7)) zz_k0_KS hG hP
  have TK := fun (K : zz_K) (h : zz_KS l D zcl zFK cy z0 sp (zTys cy) G zYN (fun y => Cond.code (zYN y) (zCN y) (zMQ y) (zRT y) :: zTs) (d + 7) K) => zt_298 h hG hP
  have b := zz_B_rf (l := l) (Ts := zTs) (D := D) (cl := zcl) (fk := zFK) (cy := cy) (z0 := z0) (sp := sp) (tys := zTys cy) (G := G) (own := "ToolMill$Codes") (mn := "one") (nL := 4) (cc := prog_3_method_12_code) (d := (d + 7)) ((0, [(0, .ref 12), (1, .int (Int32.ofNat a)), (2, .int p0), (3, .int (Int32.ofNat 11))], [], w) : zz_F)
  replace b := zz_fw b T9 (rfl : zz_ent zP_298 0 = (0, za_aload 0 1)) (ze_aload rfl)
  replace b := zz_fw b T9 (rfl : zz_ent zP_298 1 = (0, za_getA 3 4 4)) (ze_getA (zB_f12 hB) (by decide) (zB_v12_4 hB))
  replace b := zz_fw b T9 (rfl : zz_ent zP_298 4 = (0, za_iload 1 5)) (ze_iload rfl)
  obtain ⟨w1, hM1, hB1⟩ := zL_apc (d := d + 1) (l := l) (D := D) (cy := cy) (sp := sp) hG hP hsp hB (x := a) (by omega) ha
  replace b := zz_fVi b TK (rfl : zz_ent zP_298 5 = (0, za_callV 13 158 1 8)) hM1 rfl rfl (zB_ic hB) (zz_lb rfl)
  replace b := zz_fw b T9 (rfl : zz_ent zP_298 8 = (0, za_pop 9)) (ze_pop rfl)
  replace b := zz_fw b T9 (rfl : zz_ent zP_298 9 = (0, za_aload 0 10)) (ze_aload rfl)
  replace b := zz_fw b T9 (rfl : zz_ent zP_298 10 = (0, za_const (.int (Int32.ofNat 93)) 12)) (ze_const)
  replace b := zz_fw b T9 (rfl : zz_ent zP_298 12 = (0, za_iload 2 13)) (ze_iload rfl)
  replace b := zz_fw b T9 (rfl : zz_ent zP_298 13 = (0, za_iload 3 14)) (ze_iload rfl)
  replace b := zz_fw b T9 (rfl : zz_ent zP_298 14 = (0, za_iushr 15)) (ze_iushr rfl)
  replace b := zz_fw b T9 (rfl : zz_ent zP_298 15 = (0, za_const (.int (Int32.ofNat 31)) 17)) (ze_const)
  replace b := zz_fw b T9 (rfl : zz_ent zP_298 17 = (0, za_iand 18)) (ze_iand (zF_eq p0 11 5 31 (by decide) (by decide) rfl))
  replace b := zz_fw b T9 (rfl : zz_ent zP_298 18 = (0, za_iadd 19)) (ze_iadd (Int32.ofNat_add 93 _).symm)
  obtain ⟨w2, hM2, hB2⟩ := zL_nam (d := d) (l := l) (D := D) (cy := cy) (sp := sp) hG hP hsp hB1 (id := 93 + zF p0 11 5) (zIds_rg (zF_lt p0 11 5)) (by have g := zRg_5 p0 11; rw [List.length_append, List.length_singleton]; show _ + (zRg p0 11).length ≤ 33; omega)
  replace b := zz_fVv b TK (rfl : zz_ent zP_298 19 = (0, za_callV 3 156 1 22)) hM2 rfl rfl (zB_12 hB1) (zz_lb rfl)
  have m := zz_M_B (yn := zYN) (cn := zCN) (ml := zMQ) (rt := zRT) (y := 298) (as := [.ref 12, .int (Int32.ofNat a), .int p0, .int (Int32.ofNat 11)]) rfl rfl rfl rfl rfl (by decide +kernel) (zz_lb rfl) (zz_lb rfl) (zz_end_v (zr_298.1 22 rfl).1) b
  exact ⟨_, m, hB2⟩
theorem zL_one_16 {W0 : zz_W} {l : Launch} {D : va_G} {cy : Nat → ClassId} {z0 : Nat} {sp : Nat → Nat} {G : State → Prop} {d : Nat} (hG : zz_GF z0 G) (hP : ∀ U, G U → zz_GD zS zS2 zLg z0 sp U) (hsp : sp 18446744073709551616 = 0) {T : List Nat} {w : zz_W} (hB : zB W0 T w) {p0 : Int32} {a : Nat} (ha : a < 128) (hT : T.length ≤ 27) : ∃ w', zz_M l zTs D zcl zFK cy z0 sp (zTys cy) G zYN zCN zMQ zRT (d + 8) 298 [.ref 12, .int (Int32.ofNat a), .int p0, .int (Int32.ofNat 16)] w [] w' ∧ zB W0 (T ++ [a] ++ zRg p0 16) w' := by
  have T9 := zt_298 (l := l) (D := D) (cy := cy) (z0 := z0) (sp := sp) (G := G) (d := (d + 7)) zz_k0_KS hG hP
  have TK := fun (K : zz_K) (h : zz_KS l D zcl zFK cy z0 sp (zTys cy) G zYN (fun y => Cond.code (zYN y) (zCN y) (zMQ y) (zRT y) :: zTs) (d + 7) K) => zt_298 h hG hP
  have b := zz_B_rf (l := l) (Ts := zTs) (D := D) (cl := zcl) (fk := zFK) (cy := cy) (z0 := z0) (sp := sp) (tys := zTys cy) (G := G) (own := "ToolMill$Codes") (mn := "one") (nL := 4) (cc := prog_3_method_12_code) (d := (d + 7)) ((0, [(0, .ref 12), (1, .int (Int32.ofNat a)), (2, .int p0), (3, .int (Int32.ofNat 16))], [], w) : zz_F)
  replace b := zz_fw b T9 (rfl : zz_ent zP_298 0 = (0, za_aload 0 1)) (ze_aload rfl)
  replace b := zz_fw b T9 (rfl : zz_ent zP_298 1 = (0, za_getA 3 4 4)) (ze_getA (zB_f12 hB) (by decide) (zB_v12_4 hB))
  replace b := zz_fw b T9 (rfl : zz_ent zP_298 4 = (0, za_iload 1 5)) (ze_iload rfl)
  obtain ⟨w1, hM1, hB1⟩ := zL_apc (d := d + 1) (l := l) (D := D) (cy := cy) (sp := sp) hG hP hsp hB (x := a) (by omega) ha
  replace b := zz_fVi b TK (rfl : zz_ent zP_298 5 = (0, za_callV 13 158 1 8)) hM1 rfl rfl (zB_ic hB) (zz_lb rfl)
  replace b := zz_fw b T9 (rfl : zz_ent zP_298 8 = (0, za_pop 9)) (ze_pop rfl)
  replace b := zz_fw b T9 (rfl : zz_ent zP_298 9 = (0, za_aload 0 10)) (ze_aload rfl)
  replace b := zz_fw b T9 (rfl : zz_ent zP_298 10 = (0, za_const (.int (Int32.ofNat 93)) 12)) (ze_const)
  replace b := zz_fw b T9 (rfl : zz_ent zP_298 12 = (0, za_iload 2 13)) (ze_iload rfl)
  replace b := zz_fw b T9 (rfl : zz_ent zP_298 13 = (0, za_iload 3 14)) (ze_iload rfl)
  replace b := zz_fw b T9 (rfl : zz_ent zP_298 14 = (0, za_iushr 15)) (ze_iushr rfl)
  replace b := zz_fw b T9 (rfl : zz_ent zP_298 15 = (0, za_const (.int (Int32.ofNat 31)) 17)) (ze_const)
  replace b := zz_fw b T9 (rfl : zz_ent zP_298 17 = (0, za_iand 18)) (ze_iand (zF_eq p0 16 5 31 (by decide) (by decide) rfl))
  replace b := zz_fw b T9 (rfl : zz_ent zP_298 18 = (0, za_iadd 19)) (ze_iadd (Int32.ofNat_add 93 _).symm)
  obtain ⟨w2, hM2, hB2⟩ := zL_nam (d := d) (l := l) (D := D) (cy := cy) (sp := sp) hG hP hsp hB1 (id := 93 + zF p0 16 5) (zIds_rg (zF_lt p0 16 5)) (by have g := zRg_5 p0 16; rw [List.length_append, List.length_singleton]; show _ + (zRg p0 16).length ≤ 33; omega)
  replace b := zz_fVv b TK (rfl : zz_ent zP_298 19 = (0, za_callV 3 156 1 22)) hM2 rfl rfl (zB_12 hB1) (zz_lb rfl)
  have m := zz_M_B (yn := zYN) (cn := zCN) (ml := zMQ) (rt := zRT) (y := 298) (as := [.ref 12, .int (Int32.ofNat a), .int p0, .int (Int32.ofNat 16)]) rfl rfl rfl rfl rfl (by decide +kernel) (zz_lb rfl) (zz_lb rfl) (zz_end_v (zr_298.1 22 rfl).1) b
  exact ⟨_, m, hB2⟩
theorem zL_one_21 {W0 : zz_W} {l : Launch} {D : va_G} {cy : Nat → ClassId} {z0 : Nat} {sp : Nat → Nat} {G : State → Prop} {d : Nat} (hG : zz_GF z0 G) (hP : ∀ U, G U → zz_GD zS zS2 zLg z0 sp U) (hsp : sp 18446744073709551616 = 0) {T : List Nat} {w : zz_W} (hB : zB W0 T w) {p0 : Int32} {a : Nat} (ha : a < 128) (hT : T.length ≤ 27) : ∃ w', zz_M l zTs D zcl zFK cy z0 sp (zTys cy) G zYN zCN zMQ zRT (d + 8) 298 [.ref 12, .int (Int32.ofNat a), .int p0, .int (Int32.ofNat 21)] w [] w' ∧ zB W0 (T ++ [a] ++ zRg p0 21) w' := by
  have T9 := zt_298 (l := l) (D := D) (cy := cy) (z0 := z0) (sp := sp) (G := G) (d := (d + 7)) zz_k0_KS hG hP
  have TK := fun (K : zz_K) (h : zz_KS l D zcl zFK cy z0 sp (zTys cy) G zYN (fun y => Cond.code (zYN y) (zCN y) (zMQ y) (zRT y) :: zTs) (d + 7) K) => zt_298 h hG hP
  have b := zz_B_rf (l := l) (Ts := zTs) (D := D) (cl := zcl) (fk := zFK) (cy := cy) (z0 := z0) (sp := sp) (tys := zTys cy) (G := G) (own := "ToolMill$Codes") (mn := "one") (nL := 4) (cc := prog_3_method_12_code) (d := (d + 7)) ((0, [(0, .ref 12), (1, .int (Int32.ofNat a)), (2, .int p0), (3, .int (Int32.ofNat 21))], [], w) : zz_F)
  replace b := zz_fw b T9 (rfl : zz_ent zP_298 0 = (0, za_aload 0 1)) (ze_aload rfl)
  replace b := zz_fw b T9 (rfl : zz_ent zP_298 1 = (0, za_getA 3 4 4)) (ze_getA (zB_f12 hB) (by decide) (zB_v12_4 hB))
  replace b := zz_fw b T9 (rfl : zz_ent zP_298 4 = (0, za_iload 1 5)) (ze_iload rfl)
  obtain ⟨w1, hM1, hB1⟩ := zL_apc (d := d + 1) (l := l) (D := D) (cy := cy) (sp := sp) hG hP hsp hB (x := a) (by omega) ha
  replace b := zz_fVi b TK (rfl : zz_ent zP_298 5 = (0, za_callV 13 158 1 8)) hM1 rfl rfl (zB_ic hB) (zz_lb rfl)
  replace b := zz_fw b T9 (rfl : zz_ent zP_298 8 = (0, za_pop 9)) (ze_pop rfl)
  replace b := zz_fw b T9 (rfl : zz_ent zP_298 9 = (0, za_aload 0 10)) (ze_aload rfl)
  replace b := zz_fw b T9 (rfl : zz_ent zP_298 10 = (0, za_const (.int (Int32.ofNat 93)) 12)) (ze_const)
  replace b := zz_fw b T9 (rfl : zz_ent zP_298 12 = (0, za_iload 2 13)) (ze_iload rfl)
  replace b := zz_fw b T9 (rfl : zz_ent zP_298 13 = (0, za_iload 3 14)) (ze_iload rfl)
  replace b := zz_fw b T9 (rfl : zz_ent zP_298 14 = (0, za_iushr 15)) (ze_iushr rfl)
  replace b := zz_fw b T9 (rfl : zz_ent zP_298 15 = (0, za_const (.int (Int32.ofNat 31)) 17)) (ze_const)
  replace b := zz_fw b T9 (rfl : zz_ent zP_298 17 = (0, za_iand 18)) (ze_iand (zF_eq p0 21 5 31 (by decide) (by decide) rfl))
  replace b := zz_fw b T9 (rfl : zz_ent zP_298 18 = (0, za_iadd 19)) (ze_iadd (Int32.ofNat_add 93 _).symm)
  obtain ⟨w2, hM2, hB2⟩ := zL_nam (d := d) (l := l) (D := D) (cy := cy) (sp := sp) hG hP hsp hB1 (id := 93 + zF p0 21 5) (zIds_rg (zF_lt p0 21 5)) (by have g := zRg_5 p0 21; rw [List.length_append, List.length_singleton]; show _ + (zRg p0 21).length ≤ 33; omega)
  replace b := zz_fVv b TK (rfl : zz_ent zP_298 19 = (0, za_callV 3 156 1 22)) hM2 rfl rfl (zB_12 hB1) (zz_lb rfl)
  have m := zz_M_B (yn := zYN) (cn := zCN) (ml := zMQ) (rt := zRT) (y := 298) (as := [.ref 12, .int (Int32.ofNat a), .int p0, .int (Int32.ofNat 21)]) rfl rfl rfl rfl rfl (by decide +kernel) (zz_lb rfl) (zz_lb rfl) (zz_end_v (zr_298.1 22 rfl).1) b
  exact ⟨_, m, hB2⟩
theorem zL_two_11_16 {W0 : zz_W} {l : Launch} {D : va_G} {cy : Nat → ClassId} {z0 : Nat} {sp : Nat → Nat} {G : State → Prop} {d : Nat} (hG : zz_GF z0 G) (hP : ∀ U, G U → zz_GD zS zS2 zLg z0 sp U) (hsp : sp 18446744073709551616 = 0) {T : List Nat} {w : zz_W} (hB : zB W0 T w) {p0 : Int32} (hT : T.length ≤ 21) : ∃ w', zz_M l zTs D zcl zFK cy z0 sp (zTys cy) G zYN zCN zMQ zRT (d + 9) 296 [.ref 12, .int p0, .int (Int32.ofNat 11), .int (Int32.ofNat 16)] w [] w' ∧ zB W0 (T ++ [32] ++ zRg p0 11 ++ [44] ++ zRg p0 16) w' := by
  have T9 := zt_296 (l := l) (D := D) (cy := cy) (z0 := z0) (sp := sp) (G := G) (d := (d + 8)) zz_k0_KS hG hP
  have TK := fun (K : zz_K) (h : zz_KS l D zcl zFK cy z0 sp (zTys cy) G zYN (fun y => Cond.code (zYN y) (zCN y) (zMQ y) (zRT y) :: zTs) (d + 8) K) => zt_296 h hG hP
  have b := zz_B_rf (l := l) (Ts := zTs) (D := D) (cl := zcl) (fk := zFK) (cy := cy) (z0 := z0) (sp := sp) (tys := zTys cy) (G := G) (own := "ToolMill$Codes") (mn := "two") (nL := 4) (cc := prog_3_method_11_code) (d := (d + 8)) ((0, [(0, .ref 12), (1, .int p0), (2, .int (Int32.ofNat 11)), (3, .int (Int32.ofNat 16))], [], w) : zz_F)
  replace b := zz_fw b T9 (rfl : zz_ent zP_296 0 = (0, za_aload 0 1)) (ze_aload rfl)
  replace b := zz_fw b T9 (rfl : zz_ent zP_296 1 = (0, za_const (.int (Int32.ofNat 32)) 3)) (ze_const)
  replace b := zz_fw b T9 (rfl : zz_ent zP_296 3 = (0, za_iload 1 4)) (ze_iload rfl)
  replace b := zz_fw b T9 (rfl : zz_ent zP_296 4 = (0, za_iload 2 5)) (ze_iload rfl)
  obtain ⟨w1, hM1, hB1⟩ := zL_one_11 (d := d) (l := l) (D := D) (cy := cy) (sp := sp) hG hP hsp hB (p0 := p0) (a := 32) (by decide) (by omega)
  replace b := zz_fVv b TK (rfl : zz_ent zP_296 5 = (0, za_callV 3 298 3 8)) hM1 rfl rfl (zB_12 hB) (zz_lb rfl)
  replace b := zz_fw b T9 (rfl : zz_ent zP_296 8 = (0, za_aload 0 9)) (ze_aload rfl)
  replace b := zz_fw b T9 (rfl : zz_ent zP_296 9 = (0, za_const (.int (Int32.ofNat 44)) 11)) (ze_const)
  replace b := zz_fw b T9 (rfl : zz_ent zP_296 11 = (0, za_iload 1 12)) (ze_iload rfl)
  replace b := zz_fw b T9 (rfl : zz_ent zP_296 12 = (0, za_iload 3 13)) (ze_iload rfl)
  obtain ⟨w2, hM2, hB2⟩ := zL_one_16 (d := d) (l := l) (D := D) (cy := cy) (sp := sp) hG hP hsp hB1 (p0 := p0) (a := 44) (by decide) (by have g11 := zRg_5 p0 11; (try simp only [List.length_append, List.length_singleton, List.length_cons, List.length_nil]); omega)
  replace b := zz_fVv b TK (rfl : zz_ent zP_296 13 = (0, za_callV 3 298 3 16)) hM2 rfl rfl (zB_12 hB1) (zz_lb rfl)
  have m := zz_M_B (yn := zYN) (cn := zCN) (ml := zMQ) (rt := zRT) (y := 296) (as := [.ref 12, .int p0, .int (Int32.ofNat 11), .int (Int32.ofNat 16)]) rfl rfl rfl rfl rfl (by decide +kernel) (zz_lb rfl) (zz_lb rfl) (zz_end_v (zr_296.1 16 rfl).1) b
  exact ⟨_, m, hB2⟩
theorem zL_two_21_16 {W0 : zz_W} {l : Launch} {D : va_G} {cy : Nat → ClassId} {z0 : Nat} {sp : Nat → Nat} {G : State → Prop} {d : Nat} (hG : zz_GF z0 G) (hP : ∀ U, G U → zz_GD zS zS2 zLg z0 sp U) (hsp : sp 18446744073709551616 = 0) {T : List Nat} {w : zz_W} (hB : zB W0 T w) {p0 : Int32} (hT : T.length ≤ 21) : ∃ w', zz_M l zTs D zcl zFK cy z0 sp (zTys cy) G zYN zCN zMQ zRT (d + 9) 296 [.ref 12, .int p0, .int (Int32.ofNat 21), .int (Int32.ofNat 16)] w [] w' ∧ zB W0 (T ++ [32] ++ zRg p0 21 ++ [44] ++ zRg p0 16) w' := by
  have T9 := zt_296 (l := l) (D := D) (cy := cy) (z0 := z0) (sp := sp) (G := G) (d := (d + 8)) zz_k0_KS hG hP
  have TK := fun (K : zz_K) (h : zz_KS l D zcl zFK cy z0 sp (zTys cy) G zYN (fun y => Cond.code (zYN y) (zCN y) (zMQ y) (zRT y) :: zTs) (d + 8) K) => zt_296 h hG hP
  have b := zz_B_rf (l := l) (Ts := zTs) (D := D) (cl := zcl) (fk := zFK) (cy := cy) (z0 := z0) (sp := sp) (tys := zTys cy) (G := G) (own := "ToolMill$Codes") (mn := "two") (nL := 4) (cc := prog_3_method_11_code) (d := (d + 8)) ((0, [(0, .ref 12), (1, .int p0), (2, .int (Int32.ofNat 21)), (3, .int (Int32.ofNat 16))], [], w) : zz_F)
  replace b := zz_fw b T9 (rfl : zz_ent zP_296 0 = (0, za_aload 0 1)) (ze_aload rfl)
  replace b := zz_fw b T9 (rfl : zz_ent zP_296 1 = (0, za_const (.int (Int32.ofNat 32)) 3)) (ze_const)
  replace b := zz_fw b T9 (rfl : zz_ent zP_296 3 = (0, za_iload 1 4)) (ze_iload rfl)
  replace b := zz_fw b T9 (rfl : zz_ent zP_296 4 = (0, za_iload 2 5)) (ze_iload rfl)
  obtain ⟨w1, hM1, hB1⟩ := zL_one_21 (d := d) (l := l) (D := D) (cy := cy) (sp := sp) hG hP hsp hB (p0 := p0) (a := 32) (by decide) (by omega)
  replace b := zz_fVv b TK (rfl : zz_ent zP_296 5 = (0, za_callV 3 298 3 8)) hM1 rfl rfl (zB_12 hB) (zz_lb rfl)
  replace b := zz_fw b T9 (rfl : zz_ent zP_296 8 = (0, za_aload 0 9)) (ze_aload rfl)
  replace b := zz_fw b T9 (rfl : zz_ent zP_296 9 = (0, za_const (.int (Int32.ofNat 44)) 11)) (ze_const)
  replace b := zz_fw b T9 (rfl : zz_ent zP_296 11 = (0, za_iload 1 12)) (ze_iload rfl)
  replace b := zz_fw b T9 (rfl : zz_ent zP_296 12 = (0, za_iload 3 13)) (ze_iload rfl)
  obtain ⟨w2, hM2, hB2⟩ := zL_one_16 (d := d) (l := l) (D := D) (cy := cy) (sp := sp) hG hP hsp hB1 (p0 := p0) (a := 44) (by decide) (by have g21 := zRg_5 p0 21; (try simp only [List.length_append, List.length_singleton, List.length_cons, List.length_nil]); omega)
  replace b := zz_fVv b TK (rfl : zz_ent zP_296 13 = (0, za_callV 3 298 3 16)) hM2 rfl rfl (zB_12 hB1) (zz_lb rfl)
  have m := zz_M_B (yn := zYN) (cn := zCN) (ml := zMQ) (rt := zRT) (y := 296) (as := [.ref 12, .int p0, .int (Int32.ofNat 21), .int (Int32.ofNat 16)]) rfl rfl rfl rfl rfl (by decide +kernel) (zz_lb rfl) (zz_lb rfl) (zz_end_v (zr_296.1 16 rfl).1) b
  exact ⟨_, m, hB2⟩
theorem zL_two_16_21 {W0 : zz_W} {l : Launch} {D : va_G} {cy : Nat → ClassId} {z0 : Nat} {sp : Nat → Nat} {G : State → Prop} {d : Nat} (hG : zz_GF z0 G) (hP : ∀ U, G U → zz_GD zS zS2 zLg z0 sp U) (hsp : sp 18446744073709551616 = 0) {T : List Nat} {w : zz_W} (hB : zB W0 T w) {p0 : Int32} (hT : T.length ≤ 21) : ∃ w', zz_M l zTs D zcl zFK cy z0 sp (zTys cy) G zYN zCN zMQ zRT (d + 9) 296 [.ref 12, .int p0, .int (Int32.ofNat 16), .int (Int32.ofNat 21)] w [] w' ∧ zB W0 (T ++ [32] ++ zRg p0 16 ++ [44] ++ zRg p0 21) w' := by
  have T9 := zt_296 (l := l) (D := D) (cy := cy) (z0 := z0) (sp := sp) (G := G) (d := (d + 8)) zz_k0_KS hG hP
  have TK := fun (K : zz_K) (h : zz_KS l D zcl zFK cy z0 sp (zTys cy) G zYN (fun y => Cond.code (zYN y) (zCN y) (zMQ y) (zRT y) :: zTs) (d + 8) K) => zt_296 h hG hP
  have b := zz_B_rf (l := l) (Ts := zTs) (D := D) (cl := zcl) (fk := zFK) (cy := cy) (z0 := z0) (sp := sp) (tys := zTys cy) (G := G) (own := "ToolMill$Codes") (mn := "two") (nL := 4) (cc := prog_3_method_11_code) (d := (d + 8)) ((0, [(0, .ref 12), (1, .int p0), (2, .int (Int32.ofNat 16)), (3, .int (Int32.ofNat 21))], [], w) : zz_F)
  replace b := zz_fw b T9 (rfl : zz_ent zP_296 0 = (0, za_aload 0 1)) (ze_aload rfl)
  replace b := zz_fw b T9 (rfl : zz_ent zP_296 1 = (0, za_const (.int (Int32.ofNat 32)) 3)) (ze_const)
  replace b := zz_fw b T9 (rfl : zz_ent zP_296 3 = (0, za_iload 1 4)) (ze_iload rfl)
  replace b := zz_fw b T9 (rfl : zz_ent zP_296 4 = (0, za_iload 2 5)) (ze_iload rfl)
  obtain ⟨w1, hM1, hB1⟩ := zL_one_16 (d := d) (l := l) (D := D) (cy := cy) (sp := sp) hG hP hsp hB (p0 := p0) (a := 32) (by decide) (by omega)
  replace b := zz_fVv b TK (rfl : zz_ent zP_296 5 = (0, za_callV 3 298 3 8)) hM1 rfl rfl (zB_12 hB) (zz_lb rfl)
  replace b := zz_fw b T9 (rfl : zz_ent zP_296 8 = (0, za_aload 0 9)) (ze_aload rfl)
  replace b := zz_fw b T9 (rfl : zz_ent zP_296 9 = (0, za_const (.int (Int32.ofNat 44)) 11)) (ze_const)
  replace b := zz_fw b T9 (rfl : zz_ent zP_296 11 = (0, za_iload 1 12)) (ze_iload rfl)
  replace b := zz_fw b T9 (rfl : zz_ent zP_296 12 = (0, za_iload 3 13)) (ze_iload rfl)
  obtain ⟨w2, hM2, hB2⟩ := zL_one_21 (d := d) (l := l) (D := D) (cy := cy) (sp := sp) hG hP hsp hB1 (p0 := p0) (a := 44) (by decide) (by have g16 := zRg_5 p0 16; (try simp only [List.length_append, List.length_singleton, List.length_cons, List.length_nil]); omega)
  replace b := zz_fVv b TK (rfl : zz_ent zP_296 13 = (0, za_callV 3 298 3 16)) hM2 rfl rfl (zB_12 hB1) (zz_lb rfl)
  have m := zz_M_B (yn := zYN) (cn := zCN) (ml := zMQ) (rt := zRT) (y := 296) (as := [.ref 12, .int p0, .int (Int32.ofNat 16), .int (Int32.ofNat 21)]) rfl rfl rfl rfl rfl (by decide +kernel) (zz_lb rfl) (zz_lb rfl) (zz_end_v (zr_296.1 16 rfl).1) b
  exact ⟨_, m, hB2⟩
theorem zL_two_11_21 {W0 : zz_W} {l : Launch} {D : va_G} {cy : Nat → ClassId} {z0 : Nat} {sp : Nat → Nat} {G : State → Prop} {d : Nat} (hG : zz_GF z0 G) (hP : ∀ U, G U → zz_GD zS zS2 zLg z0 sp U) (hsp : sp 18446744073709551616 = 0) {T : List Nat} {w : zz_W} (hB : zB W0 T w) {p0 : Int32} (hT : T.length ≤ 21) : ∃ w', zz_M l zTs D zcl zFK cy z0 sp (zTys cy) G zYN zCN zMQ zRT (d + 9) 296 [.ref 12, .int p0, .int (Int32.ofNat 11), .int (Int32.ofNat 21)] w [] w' ∧ zB W0 (T ++ [32] ++ zRg p0 11 ++ [44] ++ zRg p0 21) w' := by
  have T9 := zt_296 (l := l) (D := D) (cy := cy) (z0 := z0) (sp := sp) (G := G) (d := (d + 8)) zz_k0_KS hG hP
  have TK := fun (K : zz_K) (h : zz_KS l D zcl zFK cy z0 sp (zTys cy) G zYN (fun y => Cond.code (zYN y) (zCN y) (zMQ y) (zRT y) :: zTs) (d + 8) K) => zt_296 h hG hP
  have b := zz_B_rf (l := l) (Ts := zTs) (D := D) (cl := zcl) (fk := zFK) (cy := cy) (z0 := z0) (sp := sp) (tys := zTys cy) (G := G) (own := "ToolMill$Codes") (mn := "two") (nL := 4) (cc := prog_3_method_11_code) (d := (d + 8)) ((0, [(0, .ref 12), (1, .int p0), (2, .int (Int32.ofNat 11)), (3, .int (Int32.ofNat 21))], [], w) : zz_F)
  replace b := zz_fw b T9 (rfl : zz_ent zP_296 0 = (0, za_aload 0 1)) (ze_aload rfl)
  replace b := zz_fw b T9 (rfl : zz_ent zP_296 1 = (0, za_const (.int (Int32.ofNat 32)) 3)) (ze_const)
  replace b := zz_fw b T9 (rfl : zz_ent zP_296 3 = (0, za_iload 1 4)) (ze_iload rfl)
  replace b := zz_fw b T9 (rfl : zz_ent zP_296 4 = (0, za_iload 2 5)) (ze_iload rfl)
  obtain ⟨w1, hM1, hB1⟩ := zL_one_11 (d := d) (l := l) (D := D) (cy := cy) (sp := sp) hG hP hsp hB (p0 := p0) (a := 32) (by decide) (by omega)
  replace b := zz_fVv b TK (rfl : zz_ent zP_296 5 = (0, za_callV 3 298 3 8)) hM1 rfl rfl (zB_12 hB) (zz_lb rfl)
  replace b := zz_fw b T9 (rfl : zz_ent zP_296 8 = (0, za_aload 0 9)) (ze_aload rfl)
  replace b := zz_fw b T9 (rfl : zz_ent zP_296 9 = (0, za_const (.int (Int32.ofNat 44)) 11)) (ze_const)
  replace b := zz_fw b T9 (rfl : zz_ent zP_296 11 = (0, za_iload 1 12)) (ze_iload rfl)
  replace b := zz_fw b T9 (rfl : zz_ent zP_296 12 = (0, za_iload 3 13)) (ze_iload rfl)
  obtain ⟨w2, hM2, hB2⟩ := zL_one_21 (d := d) (l := l) (D := D) (cy := cy) (sp := sp) hG hP hsp hB1 (p0 := p0) (a := 44) (by decide) (by have g11 := zRg_5 p0 11; (try simp only [List.length_append, List.length_singleton, List.length_cons, List.length_nil]); omega)
  replace b := zz_fVv b TK (rfl : zz_ent zP_296 13 = (0, za_callV 3 298 3 16)) hM2 rfl rfl (zB_12 hB1) (zz_lb rfl)
  have m := zz_M_B (yn := zYN) (cn := zCN) (ml := zMQ) (rt := zRT) (y := 296) (as := [.ref 12, .int p0, .int (Int32.ofNat 11), .int (Int32.ofNat 21)]) rfl rfl rfl rfl rfl (by decide +kernel) (zz_lb rfl) (zz_lb rfl) (zz_end_v (zr_296.1 16 rfl).1) b
  exact ⟨_, m, hB2⟩
theorem zL_three_11_21_16 {W0 : zz_W} {l : Launch} {D : va_G} {cy : Nat → ClassId} {z0 : Nat} {sp : Nat → Nat} {G : State → Prop} {d : Nat} (hG : zz_GF z0 G) (hP : ∀ U, G U → zz_GD zS zS2 zLg z0 sp U) (hsp : sp 18446744073709551616 = 0) {T : List Nat} {w : zz_W} (hB : zB W0 T w) {p0 : Int32} (hT : T.length ≤ 15) : ∃ w', zz_M l zTs D zcl zFK cy z0 sp (zTys cy) G zYN zCN zMQ zRT (d + 10) 295 [.ref 12, .int p0, .int (Int32.ofNat 11), .int (Int32.ofNat 21), .int (Int32.ofNat 16)] w [] w' ∧ zB W0 (T ++ [32] ++ zRg p0 11 ++ [44] ++ zRg p0 21 ++ [44] ++ zRg p0 16) w' := by
  have T9 := zt_295 (l := l) (D := D) (cy := cy) (z0 := z0) (sp := sp) (G := G) (d := (d + 9)) zz_k0_KS hG hP
  have TK := fun (K : zz_K) (h : zz_KS l D zcl zFK cy z0 sp (zTys cy) G zYN (fun y => Cond.code (zYN y) (zCN y) (zMQ y) (zRT y) :: zTs) (d + 9) K) => zt_295 h hG hP
  have b := zz_B_rf (l := l) (Ts := zTs) (D := D) (cl := zcl) (fk := zFK) (cy := cy) (z0 := z0) (sp := sp) (tys := zTys cy) (G := G) (own := "ToolMill$Codes") (mn := "three") (nL := 5) (cc := prog_3_method_10_code) (d := (d + 9)) ((0, [(0, .ref 12), (1, .int p0), (2, .int (Int32.ofNat 11)), (3, .int (Int32.ofNat 21)), (4, .int (Int32.ofNat 16))], [], w) : zz_F)
  replace b := zz_fw b T9 (rfl : zz_ent zP_295 0 = (0, za_aload 0 1)) (ze_aload rfl)
  replace b := zz_fw b T9 (rfl : zz_ent zP_295 1 = (0, za_iload 1 2)) (ze_iload rfl)
  replace b := zz_fw b T9 (rfl : zz_ent zP_295 2 = (0, za_iload 2 3)) (ze_iload rfl)
  replace b := zz_fw b T9 (rfl : zz_ent zP_295 3 = (0, za_iload 3 4)) (ze_iload rfl)
  obtain ⟨w1, hM1, hB1⟩ := zL_two_11_21 (d := d) (l := l) (D := D) (cy := cy) (sp := sp) hG hP hsp hB (p0 := p0) (by omega)
  replace b := zz_fVv b TK (rfl : zz_ent zP_295 4 = (0, za_callV 3 296 3 7)) hM1 rfl rfl (zB_12 hB) (zz_lb rfl)
  replace b := zz_fw b T9 (rfl : zz_ent zP_295 7 = (0, za_aload 0 8)) (ze_aload rfl)
  replace b := zz_fw b T9 (rfl : zz_ent zP_295 8 = (0, za_const (.int (Int32.ofNat 44)) 10)) (ze_const)
  replace b := zz_fw b T9 (rfl : zz_ent zP_295 10 = (0, za_iload 1 11)) (ze_iload rfl)
  replace b := zz_fw b T9 (rfl : zz_ent zP_295 11 = (0, za_iload 4 13)) (ze_iload rfl)
  obtain ⟨w2, hM2, hB2⟩ := zL_one_16 (d := d + 1) (l := l) (D := D) (cy := cy) (sp := sp) hG hP hsp hB1 (p0 := p0) (a := 44) (by decide) (by have g11 := zRg_5 p0 11; have g21 := zRg_5 p0 21; (try simp only [List.length_append, List.length_singleton, List.length_cons, List.length_nil]); omega)
  replace b := zz_fVv b TK (rfl : zz_ent zP_295 13 = (0, za_callV 3 298 3 16)) hM2 rfl rfl (zB_12 hB1) (zz_lb rfl)
  have m := zz_M_B (yn := zYN) (cn := zCN) (ml := zMQ) (rt := zRT) (y := 295) (as := [.ref 12, .int p0, .int (Int32.ofNat 11), .int (Int32.ofNat 21), .int (Int32.ofNat 16)]) rfl rfl rfl rfl rfl (by decide +kernel) (zz_lb rfl) (zz_lb rfl) (zz_end_v (zr_295.1 16 rfl).1) b
  exact ⟨_, m, hB2⟩
theorem zL_three_11_16_21 {W0 : zz_W} {l : Launch} {D : va_G} {cy : Nat → ClassId} {z0 : Nat} {sp : Nat → Nat} {G : State → Prop} {d : Nat} (hG : zz_GF z0 G) (hP : ∀ U, G U → zz_GD zS zS2 zLg z0 sp U) (hsp : sp 18446744073709551616 = 0) {T : List Nat} {w : zz_W} (hB : zB W0 T w) {p0 : Int32} (hT : T.length ≤ 15) : ∃ w', zz_M l zTs D zcl zFK cy z0 sp (zTys cy) G zYN zCN zMQ zRT (d + 10) 295 [.ref 12, .int p0, .int (Int32.ofNat 11), .int (Int32.ofNat 16), .int (Int32.ofNat 21)] w [] w' ∧ zB W0 (T ++ [32] ++ zRg p0 11 ++ [44] ++ zRg p0 16 ++ [44] ++ zRg p0 21) w' := by
  have T9 := zt_295 (l := l) (D := D) (cy := cy) (z0 := z0) (sp := sp) (G := G) (d := (d + 9)) zz_k0_KS hG hP
  have TK := fun (K : zz_K) (h : zz_KS l D zcl zFK cy z0 sp (zTys cy) G zYN (fun y => Cond.code (zYN y) (zCN y) (zMQ y) (zRT y) :: zTs) (d + 9) K) => zt_295 h hG hP
  have b := zz_B_rf (l := l) (Ts := zTs) (D := D) (cl := zcl) (fk := zFK) (cy := cy) (z0 := z0) (sp := sp) (tys := zTys cy) (G := G) (own := "ToolMill$Codes") (mn := "three") (nL := 5) (cc := prog_3_method_10_code) (d := (d + 9)) ((0, [(0, .ref 12), (1, .int p0), (2, .int (Int32.ofNat 11)), (3, .int (Int32.ofNat 16)), (4, .int (Int32.ofNat 21))], [], w) : zz_F)
  replace b := zz_fw b T9 (rfl : zz_ent zP_295 0 = (0, za_aload 0 1)) (ze_aload rfl)
  replace b := zz_fw b T9 (rfl : zz_ent zP_295 1 = (0, za_iload 1 2)) (ze_iload rfl)
  replace b := zz_fw b T9 (rfl : zz_ent zP_295 2 = (0, za_iload 2 3)) (ze_iload rfl)
  replace b := zz_fw b T9 (rfl : zz_ent zP_295 3 = (0, za_iload 3 4)) (ze_iload rfl)
  obtain ⟨w1, hM1, hB1⟩ := zL_two_11_16 (d := d) (l := l) (D := D) (cy := cy) (sp := sp) hG hP hsp hB (p0 := p0) (by omega)
  replace b := zz_fVv b TK (rfl : zz_ent zP_295 4 = (0, za_callV 3 296 3 7)) hM1 rfl rfl (zB_12 hB) (zz_lb rfl)
  replace b := zz_fw b T9 (rfl : zz_ent zP_295 7 = (0, za_aload 0 8)) (ze_aload rfl)
  replace b := zz_fw b T9 (rfl : zz_ent zP_295 8 = (0, za_const (.int (Int32.ofNat 44)) 10)) (ze_const)
  replace b := zz_fw b T9 (rfl : zz_ent zP_295 10 = (0, za_iload 1 11)) (ze_iload rfl)
  replace b := zz_fw b T9 (rfl : zz_ent zP_295 11 = (0, za_iload 4 13)) (ze_iload rfl)
  obtain ⟨w2, hM2, hB2⟩ := zL_one_21 (d := d + 1) (l := l) (D := D) (cy := cy) (sp := sp) hG hP hsp hB1 (p0 := p0) (a := 44) (by decide) (by have g11 := zRg_5 p0 11; have g16 := zRg_5 p0 16; (try simp only [List.length_append, List.length_singleton, List.length_cons, List.length_nil]); omega)
  replace b := zz_fVv b TK (rfl : zz_ent zP_295 13 = (0, za_callV 3 298 3 16)) hM2 rfl rfl (zB_12 hB1) (zz_lb rfl)
  have m := zz_M_B (yn := zYN) (cn := zCN) (ml := zMQ) (rt := zRT) (y := 295) (as := [.ref 12, .int p0, .int (Int32.ofNat 11), .int (Int32.ofNat 16), .int (Int32.ofNat 21)]) rfl rfl rfl rfl rfl (by decide +kernel) (zz_lb rfl) (zz_lb rfl) (zz_end_v (zr_295.1 16 rfl).1) b
  exact ⟨_, m, hB2⟩
theorem zL_amt {W0 : zz_W} {l : Launch} {D : va_G} {cy : Nat → ClassId} {z0 : Nat} {sp : Nat → Nat} {G : State → Prop} {d : Nat} (hG : zz_GF z0 G) (hP : ∀ U, G U → zz_GD zS zS2 zLg z0 sp U) (hsp : sp 18446744073709551616 = 0) {T : List Nat} {w : zz_W} (hB : zB W0 T w) {p0 : Int32} {a : Nat} (ha : a < 128) (hT : T.length ≤ 21) : ∃ w', zz_M l zTs D zcl zFK cy z0 sp (zTys cy) G zYN zCN zMQ zRT (d + 7) 297 [.ref 12, .int (Int32.ofNat a), .int p0] w [] w' ∧ zB W0 (T ++ [a] ++ zdc p0) w' := by
  have T9 := zt_297 (l := l) (D := D) (cy := cy) (z0 := z0) (sp := sp) (G := G) (d := (d + 6)) zz_k0_KS hG hP
  have TK := fun (K : zz_K) (h : zz_KS l D zcl zFK cy z0 sp (zTys cy) G zYN (fun y => Cond.code (zYN y) (zCN y) (zMQ y) (zRT y) :: zTs) (d + 6) K) => zt_297 h hG hP
  have b := zz_B_rf (l := l) (Ts := zTs) (D := D) (cl := zcl) (fk := zFK) (cy := cy) (z0 := z0) (sp := sp) (tys := zTys cy) (G := G) (own := "ToolMill$Codes") (mn := "amount") (nL := 3) (cc := prog_3_method_13_code) (d := (d + 6)) ((0, [(0, .ref 12), (1, .int (Int32.ofNat a)), (2, .int p0)], [], w) : zz_F)
  replace b := zz_fw b T9 (rfl : zz_ent zP_297 0 = (0, za_aload 0 1)) (ze_aload rfl)
  replace b := zz_fw b T9 (rfl : zz_ent zP_297 1 = (0, za_getA 3 4 4)) (ze_getA (zB_f12 hB) (by decide) (zB_v12_4 hB))
  replace b := zz_fw b T9 (rfl : zz_ent zP_297 4 = (0, za_iload 1 5)) (ze_iload rfl)
  obtain ⟨w1, hM1, hB1⟩ := zL_apc (d := d) (l := l) (D := D) (cy := cy) (sp := sp) hG hP hsp hB (x := a) (by omega) ha
  replace b := zz_fVi b TK (rfl : zz_ent zP_297 5 = (0, za_callV 13 158 1 8)) hM1 rfl rfl (zB_ic hB) (zz_lb rfl)
  replace b := zz_fw b T9 (rfl : zz_ent zP_297 8 = (0, za_pop 9)) (ze_pop rfl)
  replace b := zz_fw b T9 (rfl : zz_ent zP_297 9 = (0, za_aload 0 10)) (ze_aload rfl)
  replace b := zz_fw b T9 (rfl : zz_ent zP_297 10 = (0, za_getA 3 4 13)) (ze_getA (zB_f12 hB1) (by decide) (zB_v12_4 hB1))
  replace b := zz_fw b T9 (rfl : zz_ent zP_297 13 = (0, za_iload 2 14)) (ze_iload rfl)
  obtain ⟨w2, hM2, hB2⟩ := zL_api (d := d) (l := l) (D := D) (cy := cy) (sp := sp) hG hP hsp hB1 (p0 := p0) (by have g := zdc_11 p0; rw [List.length_append, List.length_singleton]; omega)
  replace b := zz_fVi b TK (rfl : zz_ent zP_297 14 = (0, za_callV 13 155 1 17)) hM2 rfl rfl (zB_ic hB1) (zz_lb rfl)
  replace b := zz_fw b T9 (rfl : zz_ent zP_297 17 = (0, za_pop 18)) (ze_pop rfl)
  have m := zz_M_B (yn := zYN) (cn := zCN) (ml := zMQ) (rt := zRT) (y := 297) (as := [.ref 12, .int (Int32.ofNat a), .int p0]) rfl rfl rfl rfl rfl (by decide +kernel) (zz_lb rfl) (zz_lb rfl) (zz_end_v (zr_297.1 18 rfl).1) b
  exact ⟨_, m, hB2⟩
/-- what stands behind a name, by form -/
noncomputable def zOp (fo : Nat) (p : Int32) : List Nat := match fo with
  | 0 => [32] ++ (zRg p 11 ++ ([44] ++ (zRg p 21 ++ ([44] ++ zRg p 16))))
  | 1 => [32] ++ (zRg p 11 ++ ([44] ++ (zRg p 16 ++ ([44] ++ zdc (Int32.ofNat (zF p 6 5))))))
  | 2 => [32] ++ (zRg p 11 ++ ([44] ++ (zRg p 16 ++ ([44] ++ zRg p 21))))
  | 3 => [32] ++ (zRg p 21 ++ ([44] ++ zRg p 16))
  | 4 => [32] ++ zRg p 11
  | 5 => [32] ++ zRg p 21
  | 6 => []
  | 7 => [32] ++ zdc (Int32.ofNat (zF p 16 10))
  | 8 => [32] ++ (zRg p 16 ++ ([44] ++ (zRg p 21 ++ ([44] ++ zdc p.toInt16.toInt32))))
  | 9 => [32] ++ (zRg p 16 ++ ([44] ++ (zRg p 21 ++ ([44] ++ zdc (p.toInt16.toInt32 &&& Int32.ofNat 65535)))))
  | 10 => [32] ++ (zRg p 16 ++ ([44] ++ zdc (p.toInt16.toInt32 &&& Int32.ofNat 65535)))
  | 11 => [32] ++ (zRg p 16 ++ ([44] ++ (zdc p.toInt16.toInt32 ++ ([40] ++ (zRg p 21 ++ [41])))))
  | 12 => [32] ++ (zRg p 21 ++ ([44] ++ (zRg p 16 ++ ([44] ++ zdc p.toInt16.toInt32))))
  | 13 => [32] ++ (zRg p 21 ++ ([44] ++ zdc p.toInt16.toInt32))
  | 14 => [32] ++ zdc (Int32.ofNat (zF p 0 26))
  | _ => []
theorem zL_op_0 {W0 : zz_W} {l : Launch} {D : va_G} {cy : Nat → ClassId} {z0 : Nat} {sp : Nat → Nat} {G : State → Prop} {d : Nat} (hG : zz_GF z0 G) (hP : ∀ U, G U → zz_GD zS zS2 zLg z0 sp U) (hsp : sp 18446744073709551616 = 0) {T : List Nat} {w : zz_W} (hB : zB W0 T w) {p0 : Int32} {f : Nat} (h51 : f < 51) (q1 : zz_ki zS2 2000002 f = some 0) (hT : T.length ≤ 7) : ∃ w', zz_M l zTs D zcl zFK cy z0 sp (zTys cy) G zYN zCN zMQ zRT (d + 11) 157 [.ref 12, .int p0, .int (Int32.ofNat f)] w [] w' ∧ zB W0 (T ++ zOp 0 p0) w' := by
  have T9 := zt_157 (l := l) (D := D) (cy := cy) (z0 := z0) (sp := sp) (G := G) (d := (d + 10)) zz_k0_KS hG hP
  have TK := fun (K : zz_K) (h : zz_KS l D zcl zFK cy z0 sp (zTys cy) G zYN (fun y => Cond.code (zYN y) (zCN y) (zMQ y) (zRT y) :: zTs) (d + 10) K) => zt_157 h hG hP
  have b := zz_B_rf (l := l) (Ts := zTs) (D := D) (cl := zcl) (fk := zFK) (cy := cy) (z0 := z0) (sp := sp) (tys := zTys cy) (G := G) (own := "ToolMill$Codes") (mn := "operands") (nL := 4) (cc := prog_3_method_9_code) (d := (d + 10)) ((0, [(0, .ref 12), (1, .int p0), (2, .int (Int32.ofNat f))], [], w) : zz_F)
  replace b := zz_fw b T9 (rfl : zz_ent zP_157 0 = (0, za_iload 1 1)) (ze_iload rfl)
  replace b := zz_fw b T9 (rfl : zz_ent zP_157 1 = (0, za_i2s 2)) (ze_i2s rfl)
  replace b := zz_fw b T9 (rfl : zz_ent zP_157 2 = (0, za_istore 3 3)) (ze_istore (lv' := [(0, _), (1, _), (2, _)]) rfl)
  replace b := zz_fw b T9 (rfl : zz_ent zP_157 3 = (0, za_const (.ref 2000002) 6)) (ze_const)
  replace b := zz_fw b T9 (rfl : zz_ent zP_157 6 = (0, za_iload 2 7)) (ze_iload rfl)
  replace b := zz_fw b T9 (rfl : zz_ent zP_157 7 = (0, za_kl (zz_ki zS2) 8)) (ze_kl (by rw [zz_nI_ofNat (by omega)]; exact q1) rfl)
  replace b := zz_fw b T9 (rfl : zz_ent zP_157 8 = (0, za_tsw (0) (14) 337 [84, 98, 123, 137, 149, 161, 337, 173, 190, 190, 226, 248, 286, 305, 324])) (ze_tsw_k (t := 84) (by decide) (by decide))
  replace b := zz_fw b T9 (rfl : zz_ent zP_157 84 = (0, za_aload 0 85)) (ze_aload rfl)
  replace b := zz_fw b T9 (rfl : zz_ent zP_157 85 = (0, za_iload 1 86)) (ze_iload rfl)
  replace b := zz_fw b T9 (rfl : zz_ent zP_157 86 = (0, za_const (.int (Int32.ofNat 11)) 88)) (ze_const)
  replace b := zz_fw b T9 (rfl : zz_ent zP_157 88 = (0, za_const (.int (Int32.ofNat 21)) 90)) (ze_const)
  replace b := zz_fw b T9 (rfl : zz_ent zP_157 90 = (0, za_const (.int (Int32.ofNat 16)) 92)) (ze_const)
  obtain ⟨w1, hM1, hB1⟩ := zL_three_11_21_16 (d := d) (l := l) (D := D) (cy := cy) (sp := sp) hG hP hsp hB (p0 := p0) (by omega)
  replace b := zz_fVv b TK (rfl : zz_ent zP_157 92 = (0, za_callV 3 295 4 95)) hM1 rfl rfl (zB_12 hB) (zz_lb rfl)
  replace b := zz_fw b T9 (rfl : zz_ent zP_157 95 = (0, za_goto 337)) (ze_goto)
  have m := zz_M_B (yn := zYN) (cn := zCN) (ml := zMQ) (rt := zRT) (y := 157) (as := [.ref 12, .int p0, .int (Int32.ofNat f)]) rfl rfl rfl rfl rfl (by decide +kernel) (zz_lb rfl) (zz_lb rfl) (zz_end_v (zr_157.1 337 rfl).1) b
  exact ⟨_, m, by show zB W0 (T ++ ([32] ++ (zRg p0 11 ++ ([44] ++ (zRg p0 21 ++ ([44] ++ zRg p0 16)))))) _; simp only [List.append_assoc] at hB1 ⊢; exact hB1⟩
theorem zL_op_1 {W0 : zz_W} {l : Launch} {D : va_G} {cy : Nat → ClassId} {z0 : Nat} {sp : Nat → Nat} {G : State → Prop} {d : Nat} (hG : zz_GF z0 G) (hP : ∀ U, G U → zz_GD zS zS2 zLg z0 sp U) (hsp : sp 18446744073709551616 = 0) {T : List Nat} {w : zz_W} (hB : zB W0 T w) {p0 : Int32} {f : Nat} (h51 : f < 51) (q1 : zz_ki zS2 2000002 f = some 1) (hT : T.length ≤ 7) : ∃ w', zz_M l zTs D zcl zFK cy z0 sp (zTys cy) G zYN zCN zMQ zRT (d + 11) 157 [.ref 12, .int p0, .int (Int32.ofNat f)] w [] w' ∧ zB W0 (T ++ zOp 1 p0) w' := by
  have T9 := zt_157 (l := l) (D := D) (cy := cy) (z0 := z0) (sp := sp) (G := G) (d := (d + 10)) zz_k0_KS hG hP
  have TK := fun (K : zz_K) (h : zz_KS l D zcl zFK cy z0 sp (zTys cy) G zYN (fun y => Cond.code (zYN y) (zCN y) (zMQ y) (zRT y) :: zTs) (d + 10) K) => zt_157 h hG hP
  have b := zz_B_rf (l := l) (Ts := zTs) (D := D) (cl := zcl) (fk := zFK) (cy := cy) (z0 := z0) (sp := sp) (tys := zTys cy) (G := G) (own := "ToolMill$Codes") (mn := "operands") (nL := 4) (cc := prog_3_method_9_code) (d := (d + 10)) ((0, [(0, .ref 12), (1, .int p0), (2, .int (Int32.ofNat f))], [], w) : zz_F)
  replace b := zz_fw b T9 (rfl : zz_ent zP_157 0 = (0, za_iload 1 1)) (ze_iload rfl)
  replace b := zz_fw b T9 (rfl : zz_ent zP_157 1 = (0, za_i2s 2)) (ze_i2s rfl)
  replace b := zz_fw b T9 (rfl : zz_ent zP_157 2 = (0, za_istore 3 3)) (ze_istore (lv' := [(0, _), (1, _), (2, _)]) rfl)
  replace b := zz_fw b T9 (rfl : zz_ent zP_157 3 = (0, za_const (.ref 2000002) 6)) (ze_const)
  replace b := zz_fw b T9 (rfl : zz_ent zP_157 6 = (0, za_iload 2 7)) (ze_iload rfl)
  replace b := zz_fw b T9 (rfl : zz_ent zP_157 7 = (0, za_kl (zz_ki zS2) 8)) (ze_kl (by rw [zz_nI_ofNat (by omega)]; exact q1) rfl)
  replace b := zz_fw b T9 (rfl : zz_ent zP_157 8 = (0, za_tsw (0) (14) 337 [84, 98, 123, 137, 149, 161, 337, 173, 190, 190, 226, 248, 286, 305, 324])) (ze_tsw_k (t := 98) (by decide) (by decide))
  replace b := zz_fw b T9 (rfl : zz_ent zP_157 98 = (0, za_aload 0 99)) (ze_aload rfl)
  replace b := zz_fw b T9 (rfl : zz_ent zP_157 99 = (0, za_iload 1 100)) (ze_iload rfl)
  replace b := zz_fw b T9 (rfl : zz_ent zP_157 100 = (0, za_const (.int (Int32.ofNat 11)) 102)) (ze_const)
  replace b := zz_fw b T9 (rfl : zz_ent zP_157 102 = (0, za_const (.int (Int32.ofNat 16)) 104)) (ze_const)
  obtain ⟨w1, hM1, hB1⟩ := zL_two_11_16 (d := d + 1) (l := l) (D := D) (cy := cy) (sp := sp) hG hP hsp hB (p0 := p0) (by omega)
  replace b := zz_fVv b TK (rfl : zz_ent zP_157 104 = (0, za_callV 3 296 3 107)) hM1 rfl rfl (zB_12 hB) (zz_lb rfl)
  replace b := zz_fw b T9 (rfl : zz_ent zP_157 107 = (0, za_aload 0 108)) (ze_aload rfl)
  replace b := zz_fw b T9 (rfl : zz_ent zP_157 108 = (0, za_const (.int (Int32.ofNat 44)) 110)) (ze_const)
  replace b := zz_fw b T9 (rfl : zz_ent zP_157 110 = (0, za_iload 1 111)) (ze_iload rfl)
  replace b := zz_fw b T9 (rfl : zz_ent zP_157 111 = (0, za_const (.int (Int32.ofNat 6)) 113)) (ze_const)
  replace b := zz_fw b T9 (rfl : zz_ent zP_157 113 = (0, za_iushr 114)) (ze_iushr rfl)
  replace b := zz_fw b T9 (rfl : zz_ent zP_157 114 = (0, za_const (.int (Int32.ofNat 31)) 116)) (ze_const)
  replace b := zz_fw b T9 (rfl : zz_ent zP_157 116 = (0, za_iand 117)) (ze_iand (zF_eq p0 6 5 31 (by decide) (by decide) rfl))
  obtain ⟨w2, hM2, hB2⟩ := zL_amt (d := d + 3) (l := l) (D := D) (cy := cy) (sp := sp) hG hP hsp hB1 (p0 := Int32.ofNat (zF p0 6 5)) (a := 44) (by decide) (by have g11 := zRg_5 p0 11; have g16 := zRg_5 p0 16; (try simp only [List.length_append, List.length_singleton, List.length_cons, List.length_nil]); omega)
  replace b := zz_fVv b TK (rfl : zz_ent zP_157 117 = (0, za_callV 3 297 2 120)) hM2 rfl rfl (zB_12 hB1) (zz_lb rfl)
  replace b := zz_fw b T9 (rfl : zz_ent zP_157 120 = (0, za_goto 337)) (ze_goto)
  have m := zz_M_B (yn := zYN) (cn := zCN) (ml := zMQ) (rt := zRT) (y := 157) (as := [.ref 12, .int p0, .int (Int32.ofNat f)]) rfl rfl rfl rfl rfl (by decide +kernel) (zz_lb rfl) (zz_lb rfl) (zz_end_v (zr_157.1 337 rfl).1) b
  exact ⟨_, m, by show zB W0 (T ++ ([32] ++ (zRg p0 11 ++ ([44] ++ (zRg p0 16 ++ ([44] ++ zdc (Int32.ofNat (zF p0 6 5)))))))) _; simp only [List.append_assoc] at hB2 ⊢; exact hB2⟩
theorem zL_op_2 {W0 : zz_W} {l : Launch} {D : va_G} {cy : Nat → ClassId} {z0 : Nat} {sp : Nat → Nat} {G : State → Prop} {d : Nat} (hG : zz_GF z0 G) (hP : ∀ U, G U → zz_GD zS zS2 zLg z0 sp U) (hsp : sp 18446744073709551616 = 0) {T : List Nat} {w : zz_W} (hB : zB W0 T w) {p0 : Int32} {f : Nat} (h51 : f < 51) (q1 : zz_ki zS2 2000002 f = some 2) (hT : T.length ≤ 7) : ∃ w', zz_M l zTs D zcl zFK cy z0 sp (zTys cy) G zYN zCN zMQ zRT (d + 11) 157 [.ref 12, .int p0, .int (Int32.ofNat f)] w [] w' ∧ zB W0 (T ++ zOp 2 p0) w' := by
  have T9 := zt_157 (l := l) (D := D) (cy := cy) (z0 := z0) (sp := sp) (G := G) (d := (d + 10)) zz_k0_KS hG hP
  have TK := fun (K : zz_K) (h : zz_KS l D zcl zFK cy z0 sp (zTys cy) G zYN (fun y => Cond.code (zYN y) (zCN y) (zMQ y) (zRT y) :: zTs) (d + 10) K) => zt_157 h hG hP
  have b := zz_B_rf (l := l) (Ts := zTs) (D := D) (cl := zcl) (fk := zFK) (cy := cy) (z0 := z0) (sp := sp) (tys := zTys cy) (G := G) (own := "ToolMill$Codes") (mn := "operands") (nL := 4) (cc := prog_3_method_9_code) (d := (d + 10)) ((0, [(0, .ref 12), (1, .int p0), (2, .int (Int32.ofNat f))], [], w) : zz_F)
  replace b := zz_fw b T9 (rfl : zz_ent zP_157 0 = (0, za_iload 1 1)) (ze_iload rfl)
  replace b := zz_fw b T9 (rfl : zz_ent zP_157 1 = (0, za_i2s 2)) (ze_i2s rfl)
  replace b := zz_fw b T9 (rfl : zz_ent zP_157 2 = (0, za_istore 3 3)) (ze_istore (lv' := [(0, _), (1, _), (2, _)]) rfl)
  replace b := zz_fw b T9 (rfl : zz_ent zP_157 3 = (0, za_const (.ref 2000002) 6)) (ze_const)
  replace b := zz_fw b T9 (rfl : zz_ent zP_157 6 = (0, za_iload 2 7)) (ze_iload rfl)
  replace b := zz_fw b T9 (rfl : zz_ent zP_157 7 = (0, za_kl (zz_ki zS2) 8)) (ze_kl (by rw [zz_nI_ofNat (by omega)]; exact q1) rfl)
  replace b := zz_fw b T9 (rfl : zz_ent zP_157 8 = (0, za_tsw (0) (14) 337 [84, 98, 123, 137, 149, 161, 337, 173, 190, 190, 226, 248, 286, 305, 324])) (ze_tsw_k (t := 123) (by decide) (by decide))
  replace b := zz_fw b T9 (rfl : zz_ent zP_157 123 = (0, za_aload 0 124)) (ze_aload rfl)
  replace b := zz_fw b T9 (rfl : zz_ent zP_157 124 = (0, za_iload 1 125)) (ze_iload rfl)
  replace b := zz_fw b T9 (rfl : zz_ent zP_157 125 = (0, za_const (.int (Int32.ofNat 11)) 127)) (ze_const)
  replace b := zz_fw b T9 (rfl : zz_ent zP_157 127 = (0, za_const (.int (Int32.ofNat 16)) 129)) (ze_const)
  replace b := zz_fw b T9 (rfl : zz_ent zP_157 129 = (0, za_const (.int (Int32.ofNat 21)) 131)) (ze_const)
  obtain ⟨w1, hM1, hB1⟩ := zL_three_11_16_21 (d := d) (l := l) (D := D) (cy := cy) (sp := sp) hG hP hsp hB (p0 := p0) (by omega)
  replace b := zz_fVv b TK (rfl : zz_ent zP_157 131 = (0, za_callV 3 295 4 134)) hM1 rfl rfl (zB_12 hB) (zz_lb rfl)
  replace b := zz_fw b T9 (rfl : zz_ent zP_157 134 = (0, za_goto 337)) (ze_goto)
  have m := zz_M_B (yn := zYN) (cn := zCN) (ml := zMQ) (rt := zRT) (y := 157) (as := [.ref 12, .int p0, .int (Int32.ofNat f)]) rfl rfl rfl rfl rfl (by decide +kernel) (zz_lb rfl) (zz_lb rfl) (zz_end_v (zr_157.1 337 rfl).1) b
  exact ⟨_, m, by show zB W0 (T ++ ([32] ++ (zRg p0 11 ++ ([44] ++ (zRg p0 16 ++ ([44] ++ zRg p0 21)))))) _; simp only [List.append_assoc] at hB1 ⊢; exact hB1⟩
theorem zL_op_3 {W0 : zz_W} {l : Launch} {D : va_G} {cy : Nat → ClassId} {z0 : Nat} {sp : Nat → Nat} {G : State → Prop} {d : Nat} (hG : zz_GF z0 G) (hP : ∀ U, G U → zz_GD zS zS2 zLg z0 sp U) (hsp : sp 18446744073709551616 = 0) {T : List Nat} {w : zz_W} (hB : zB W0 T w) {p0 : Int32} {f : Nat} (h51 : f < 51) (q1 : zz_ki zS2 2000002 f = some 3) (hT : T.length ≤ 7) : ∃ w', zz_M l zTs D zcl zFK cy z0 sp (zTys cy) G zYN zCN zMQ zRT (d + 11) 157 [.ref 12, .int p0, .int (Int32.ofNat f)] w [] w' ∧ zB W0 (T ++ zOp 3 p0) w' := by
  have T9 := zt_157 (l := l) (D := D) (cy := cy) (z0 := z0) (sp := sp) (G := G) (d := (d + 10)) zz_k0_KS hG hP
  have TK := fun (K : zz_K) (h : zz_KS l D zcl zFK cy z0 sp (zTys cy) G zYN (fun y => Cond.code (zYN y) (zCN y) (zMQ y) (zRT y) :: zTs) (d + 10) K) => zt_157 h hG hP
  have b := zz_B_rf (l := l) (Ts := zTs) (D := D) (cl := zcl) (fk := zFK) (cy := cy) (z0 := z0) (sp := sp) (tys := zTys cy) (G := G) (own := "ToolMill$Codes") (mn := "operands") (nL := 4) (cc := prog_3_method_9_code) (d := (d + 10)) ((0, [(0, .ref 12), (1, .int p0), (2, .int (Int32.ofNat f))], [], w) : zz_F)
  replace b := zz_fw b T9 (rfl : zz_ent zP_157 0 = (0, za_iload 1 1)) (ze_iload rfl)
  replace b := zz_fw b T9 (rfl : zz_ent zP_157 1 = (0, za_i2s 2)) (ze_i2s rfl)
  replace b := zz_fw b T9 (rfl : zz_ent zP_157 2 = (0, za_istore 3 3)) (ze_istore (lv' := [(0, _), (1, _), (2, _)]) rfl)
  replace b := zz_fw b T9 (rfl : zz_ent zP_157 3 = (0, za_const (.ref 2000002) 6)) (ze_const)
  replace b := zz_fw b T9 (rfl : zz_ent zP_157 6 = (0, za_iload 2 7)) (ze_iload rfl)
  replace b := zz_fw b T9 (rfl : zz_ent zP_157 7 = (0, za_kl (zz_ki zS2) 8)) (ze_kl (by rw [zz_nI_ofNat (by omega)]; exact q1) rfl)
  replace b := zz_fw b T9 (rfl : zz_ent zP_157 8 = (0, za_tsw (0) (14) 337 [84, 98, 123, 137, 149, 161, 337, 173, 190, 190, 226, 248, 286, 305, 324])) (ze_tsw_k (t := 137) (by decide) (by decide))
  replace b := zz_fw b T9 (rfl : zz_ent zP_157 137 = (0, za_aload 0 138)) (ze_aload rfl)
  replace b := zz_fw b T9 (rfl : zz_ent zP_157 138 = (0, za_iload 1 139)) (ze_iload rfl)
  replace b := zz_fw b T9 (rfl : zz_ent zP_157 139 = (0, za_const (.int (Int32.ofNat 21)) 141)) (ze_const)
  replace b := zz_fw b T9 (rfl : zz_ent zP_157 141 = (0, za_const (.int (Int32.ofNat 16)) 143)) (ze_const)
  obtain ⟨w1, hM1, hB1⟩ := zL_two_21_16 (d := d + 1) (l := l) (D := D) (cy := cy) (sp := sp) hG hP hsp hB (p0 := p0) (by omega)
  replace b := zz_fVv b TK (rfl : zz_ent zP_157 143 = (0, za_callV 3 296 3 146)) hM1 rfl rfl (zB_12 hB) (zz_lb rfl)
  replace b := zz_fw b T9 (rfl : zz_ent zP_157 146 = (0, za_goto 337)) (ze_goto)
  have m := zz_M_B (yn := zYN) (cn := zCN) (ml := zMQ) (rt := zRT) (y := 157) (as := [.ref 12, .int p0, .int (Int32.ofNat f)]) rfl rfl rfl rfl rfl (by decide +kernel) (zz_lb rfl) (zz_lb rfl) (zz_end_v (zr_157.1 337 rfl).1) b
  exact ⟨_, m, by show zB W0 (T ++ ([32] ++ (zRg p0 21 ++ ([44] ++ zRg p0 16)))) _; simp only [List.append_assoc] at hB1 ⊢; exact hB1⟩
theorem zL_op_4 {W0 : zz_W} {l : Launch} {D : va_G} {cy : Nat → ClassId} {z0 : Nat} {sp : Nat → Nat} {G : State → Prop} {d : Nat} (hG : zz_GF z0 G) (hP : ∀ U, G U → zz_GD zS zS2 zLg z0 sp U) (hsp : sp 18446744073709551616 = 0) {T : List Nat} {w : zz_W} (hB : zB W0 T w) {p0 : Int32} {f : Nat} (h51 : f < 51) (q1 : zz_ki zS2 2000002 f = some 4) (hT : T.length ≤ 7) : ∃ w', zz_M l zTs D zcl zFK cy z0 sp (zTys cy) G zYN zCN zMQ zRT (d + 11) 157 [.ref 12, .int p0, .int (Int32.ofNat f)] w [] w' ∧ zB W0 (T ++ zOp 4 p0) w' := by
  have T9 := zt_157 (l := l) (D := D) (cy := cy) (z0 := z0) (sp := sp) (G := G) (d := (d + 10)) zz_k0_KS hG hP
  have TK := fun (K : zz_K) (h : zz_KS l D zcl zFK cy z0 sp (zTys cy) G zYN (fun y => Cond.code (zYN y) (zCN y) (zMQ y) (zRT y) :: zTs) (d + 10) K) => zt_157 h hG hP
  have b := zz_B_rf (l := l) (Ts := zTs) (D := D) (cl := zcl) (fk := zFK) (cy := cy) (z0 := z0) (sp := sp) (tys := zTys cy) (G := G) (own := "ToolMill$Codes") (mn := "operands") (nL := 4) (cc := prog_3_method_9_code) (d := (d + 10)) ((0, [(0, .ref 12), (1, .int p0), (2, .int (Int32.ofNat f))], [], w) : zz_F)
  replace b := zz_fw b T9 (rfl : zz_ent zP_157 0 = (0, za_iload 1 1)) (ze_iload rfl)
  replace b := zz_fw b T9 (rfl : zz_ent zP_157 1 = (0, za_i2s 2)) (ze_i2s rfl)
  replace b := zz_fw b T9 (rfl : zz_ent zP_157 2 = (0, za_istore 3 3)) (ze_istore (lv' := [(0, _), (1, _), (2, _)]) rfl)
  replace b := zz_fw b T9 (rfl : zz_ent zP_157 3 = (0, za_const (.ref 2000002) 6)) (ze_const)
  replace b := zz_fw b T9 (rfl : zz_ent zP_157 6 = (0, za_iload 2 7)) (ze_iload rfl)
  replace b := zz_fw b T9 (rfl : zz_ent zP_157 7 = (0, za_kl (zz_ki zS2) 8)) (ze_kl (by rw [zz_nI_ofNat (by omega)]; exact q1) rfl)
  replace b := zz_fw b T9 (rfl : zz_ent zP_157 8 = (0, za_tsw (0) (14) 337 [84, 98, 123, 137, 149, 161, 337, 173, 190, 190, 226, 248, 286, 305, 324])) (ze_tsw_k (t := 149) (by decide) (by decide))
  replace b := zz_fw b T9 (rfl : zz_ent zP_157 149 = (0, za_aload 0 150)) (ze_aload rfl)
  replace b := zz_fw b T9 (rfl : zz_ent zP_157 150 = (0, za_const (.int (Int32.ofNat 32)) 152)) (ze_const)
  replace b := zz_fw b T9 (rfl : zz_ent zP_157 152 = (0, za_iload 1 153)) (ze_iload rfl)
  replace b := zz_fw b T9 (rfl : zz_ent zP_157 153 = (0, za_const (.int (Int32.ofNat 11)) 155)) (ze_const)
  obtain ⟨w1, hM1, hB1⟩ := zL_one_11 (d := d + 2) (l := l) (D := D) (cy := cy) (sp := sp) hG hP hsp hB (p0 := p0) (a := 32) (by decide) (by (try simp only [List.length_append, List.length_singleton, List.length_cons, List.length_nil]); omega)
  replace b := zz_fVv b TK (rfl : zz_ent zP_157 155 = (0, za_callV 3 298 3 158)) hM1 rfl rfl (zB_12 hB) (zz_lb rfl)
  replace b := zz_fw b T9 (rfl : zz_ent zP_157 158 = (0, za_goto 337)) (ze_goto)
  have m := zz_M_B (yn := zYN) (cn := zCN) (ml := zMQ) (rt := zRT) (y := 157) (as := [.ref 12, .int p0, .int (Int32.ofNat f)]) rfl rfl rfl rfl rfl (by decide +kernel) (zz_lb rfl) (zz_lb rfl) (zz_end_v (zr_157.1 337 rfl).1) b
  exact ⟨_, m, by show zB W0 (T ++ ([32] ++ zRg p0 11)) _; simp only [List.append_assoc] at hB1 ⊢; exact hB1⟩
theorem zL_op_5 {W0 : zz_W} {l : Launch} {D : va_G} {cy : Nat → ClassId} {z0 : Nat} {sp : Nat → Nat} {G : State → Prop} {d : Nat} (hG : zz_GF z0 G) (hP : ∀ U, G U → zz_GD zS zS2 zLg z0 sp U) (hsp : sp 18446744073709551616 = 0) {T : List Nat} {w : zz_W} (hB : zB W0 T w) {p0 : Int32} {f : Nat} (h51 : f < 51) (q1 : zz_ki zS2 2000002 f = some 5) (hT : T.length ≤ 7) : ∃ w', zz_M l zTs D zcl zFK cy z0 sp (zTys cy) G zYN zCN zMQ zRT (d + 11) 157 [.ref 12, .int p0, .int (Int32.ofNat f)] w [] w' ∧ zB W0 (T ++ zOp 5 p0) w' := by
  have T9 := zt_157 (l := l) (D := D) (cy := cy) (z0 := z0) (sp := sp) (G := G) (d := (d + 10)) zz_k0_KS hG hP
  have TK := fun (K : zz_K) (h : zz_KS l D zcl zFK cy z0 sp (zTys cy) G zYN (fun y => Cond.code (zYN y) (zCN y) (zMQ y) (zRT y) :: zTs) (d + 10) K) => zt_157 h hG hP
  have b := zz_B_rf (l := l) (Ts := zTs) (D := D) (cl := zcl) (fk := zFK) (cy := cy) (z0 := z0) (sp := sp) (tys := zTys cy) (G := G) (own := "ToolMill$Codes") (mn := "operands") (nL := 4) (cc := prog_3_method_9_code) (d := (d + 10)) ((0, [(0, .ref 12), (1, .int p0), (2, .int (Int32.ofNat f))], [], w) : zz_F)
  replace b := zz_fw b T9 (rfl : zz_ent zP_157 0 = (0, za_iload 1 1)) (ze_iload rfl)
  replace b := zz_fw b T9 (rfl : zz_ent zP_157 1 = (0, za_i2s 2)) (ze_i2s rfl)
  replace b := zz_fw b T9 (rfl : zz_ent zP_157 2 = (0, za_istore 3 3)) (ze_istore (lv' := [(0, _), (1, _), (2, _)]) rfl)
  replace b := zz_fw b T9 (rfl : zz_ent zP_157 3 = (0, za_const (.ref 2000002) 6)) (ze_const)
  replace b := zz_fw b T9 (rfl : zz_ent zP_157 6 = (0, za_iload 2 7)) (ze_iload rfl)
  replace b := zz_fw b T9 (rfl : zz_ent zP_157 7 = (0, za_kl (zz_ki zS2) 8)) (ze_kl (by rw [zz_nI_ofNat (by omega)]; exact q1) rfl)
  replace b := zz_fw b T9 (rfl : zz_ent zP_157 8 = (0, za_tsw (0) (14) 337 [84, 98, 123, 137, 149, 161, 337, 173, 190, 190, 226, 248, 286, 305, 324])) (ze_tsw_k (t := 161) (by decide) (by decide))
  replace b := zz_fw b T9 (rfl : zz_ent zP_157 161 = (0, za_aload 0 162)) (ze_aload rfl)
  replace b := zz_fw b T9 (rfl : zz_ent zP_157 162 = (0, za_const (.int (Int32.ofNat 32)) 164)) (ze_const)
  replace b := zz_fw b T9 (rfl : zz_ent zP_157 164 = (0, za_iload 1 165)) (ze_iload rfl)
  replace b := zz_fw b T9 (rfl : zz_ent zP_157 165 = (0, za_const (.int (Int32.ofNat 21)) 167)) (ze_const)
  obtain ⟨w1, hM1, hB1⟩ := zL_one_21 (d := d + 2) (l := l) (D := D) (cy := cy) (sp := sp) hG hP hsp hB (p0 := p0) (a := 32) (by decide) (by (try simp only [List.length_append, List.length_singleton, List.length_cons, List.length_nil]); omega)
  replace b := zz_fVv b TK (rfl : zz_ent zP_157 167 = (0, za_callV 3 298 3 170)) hM1 rfl rfl (zB_12 hB) (zz_lb rfl)
  replace b := zz_fw b T9 (rfl : zz_ent zP_157 170 = (0, za_goto 337)) (ze_goto)
  have m := zz_M_B (yn := zYN) (cn := zCN) (ml := zMQ) (rt := zRT) (y := 157) (as := [.ref 12, .int p0, .int (Int32.ofNat f)]) rfl rfl rfl rfl rfl (by decide +kernel) (zz_lb rfl) (zz_lb rfl) (zz_end_v (zr_157.1 337 rfl).1) b
  exact ⟨_, m, by show zB W0 (T ++ ([32] ++ zRg p0 21)) _; simp only [List.append_assoc] at hB1 ⊢; exact hB1⟩
theorem zL_op_6 {W0 : zz_W} {l : Launch} {D : va_G} {cy : Nat → ClassId} {z0 : Nat} {sp : Nat → Nat} {G : State → Prop} {d : Nat} (hG : zz_GF z0 G) (hP : ∀ U, G U → zz_GD zS zS2 zLg z0 sp U) (hsp : sp 18446744073709551616 = 0) {T : List Nat} {w : zz_W} (hB : zB W0 T w) {p0 : Int32} {f : Nat} (h51 : f < 51) (q1 : zz_ki zS2 2000002 f = some 6) (hT : T.length ≤ 7) : ∃ w', zz_M l zTs D zcl zFK cy z0 sp (zTys cy) G zYN zCN zMQ zRT (d + 11) 157 [.ref 12, .int p0, .int (Int32.ofNat f)] w [] w' ∧ zB W0 (T ++ zOp 6 p0) w' := by
  have T9 := zt_157 (l := l) (D := D) (cy := cy) (z0 := z0) (sp := sp) (G := G) (d := (d + 10)) zz_k0_KS hG hP
  have TK := fun (K : zz_K) (h : zz_KS l D zcl zFK cy z0 sp (zTys cy) G zYN (fun y => Cond.code (zYN y) (zCN y) (zMQ y) (zRT y) :: zTs) (d + 10) K) => zt_157 h hG hP
  have b := zz_B_rf (l := l) (Ts := zTs) (D := D) (cl := zcl) (fk := zFK) (cy := cy) (z0 := z0) (sp := sp) (tys := zTys cy) (G := G) (own := "ToolMill$Codes") (mn := "operands") (nL := 4) (cc := prog_3_method_9_code) (d := (d + 10)) ((0, [(0, .ref 12), (1, .int p0), (2, .int (Int32.ofNat f))], [], w) : zz_F)
  replace b := zz_fw b T9 (rfl : zz_ent zP_157 0 = (0, za_iload 1 1)) (ze_iload rfl)
  replace b := zz_fw b T9 (rfl : zz_ent zP_157 1 = (0, za_i2s 2)) (ze_i2s rfl)
  replace b := zz_fw b T9 (rfl : zz_ent zP_157 2 = (0, za_istore 3 3)) (ze_istore (lv' := [(0, _), (1, _), (2, _)]) rfl)
  replace b := zz_fw b T9 (rfl : zz_ent zP_157 3 = (0, za_const (.ref 2000002) 6)) (ze_const)
  replace b := zz_fw b T9 (rfl : zz_ent zP_157 6 = (0, za_iload 2 7)) (ze_iload rfl)
  replace b := zz_fw b T9 (rfl : zz_ent zP_157 7 = (0, za_kl (zz_ki zS2) 8)) (ze_kl (by rw [zz_nI_ofNat (by omega)]; exact q1) rfl)
  replace b := zz_fw b T9 (rfl : zz_ent zP_157 8 = (0, za_tsw (0) (14) 337 [84, 98, 123, 137, 149, 161, 337, 173, 190, 190, 226, 248, 286, 305, 324])) (ze_tsw_k (t := 337) (by decide) (by decide))
  have m := zz_M_B (yn := zYN) (cn := zCN) (ml := zMQ) (rt := zRT) (y := 157) (as := [.ref 12, .int p0, .int (Int32.ofNat f)]) rfl rfl rfl rfl rfl (by decide +kernel) (zz_lb rfl) (zz_lb rfl) (zz_end_v (zr_157.1 337 rfl).1) b
  exact ⟨_, m, by show zB W0 (T ++ []) w; rw [List.append_nil]; exact hB⟩
theorem zL_op_7 {W0 : zz_W} {l : Launch} {D : va_G} {cy : Nat → ClassId} {z0 : Nat} {sp : Nat → Nat} {G : State → Prop} {d : Nat} (hG : zz_GF z0 G) (hP : ∀ U, G U → zz_GD zS zS2 zLg z0 sp U) (hsp : sp 18446744073709551616 = 0) {T : List Nat} {w : zz_W} (hB : zB W0 T w) {p0 : Int32} {f : Nat} (h51 : f < 51) (q1 : zz_ki zS2 2000002 f = some 7) (hT : T.length ≤ 7) : ∃ w', zz_M l zTs D zcl zFK cy z0 sp (zTys cy) G zYN zCN zMQ zRT (d + 11) 157 [.ref 12, .int p0, .int (Int32.ofNat f)] w [] w' ∧ zB W0 (T ++ zOp 7 p0) w' := by
  have T9 := zt_157 (l := l) (D := D) (cy := cy) (z0 := z0) (sp := sp) (G := G) (d := (d + 10)) zz_k0_KS hG hP
  have TK := fun (K : zz_K) (h : zz_KS l D zcl zFK cy z0 sp (zTys cy) G zYN (fun y => Cond.code (zYN y) (zCN y) (zMQ y) (zRT y) :: zTs) (d + 10) K) => zt_157 h hG hP
  have b := zz_B_rf (l := l) (Ts := zTs) (D := D) (cl := zcl) (fk := zFK) (cy := cy) (z0 := z0) (sp := sp) (tys := zTys cy) (G := G) (own := "ToolMill$Codes") (mn := "operands") (nL := 4) (cc := prog_3_method_9_code) (d := (d + 10)) ((0, [(0, .ref 12), (1, .int p0), (2, .int (Int32.ofNat f))], [], w) : zz_F)
  replace b := zz_fw b T9 (rfl : zz_ent zP_157 0 = (0, za_iload 1 1)) (ze_iload rfl)
  replace b := zz_fw b T9 (rfl : zz_ent zP_157 1 = (0, za_i2s 2)) (ze_i2s rfl)
  replace b := zz_fw b T9 (rfl : zz_ent zP_157 2 = (0, za_istore 3 3)) (ze_istore (lv' := [(0, _), (1, _), (2, _)]) rfl)
  replace b := zz_fw b T9 (rfl : zz_ent zP_157 3 = (0, za_const (.ref 2000002) 6)) (ze_const)
  replace b := zz_fw b T9 (rfl : zz_ent zP_157 6 = (0, za_iload 2 7)) (ze_iload rfl)
  replace b := zz_fw b T9 (rfl : zz_ent zP_157 7 = (0, za_kl (zz_ki zS2) 8)) (ze_kl (by rw [zz_nI_ofNat (by omega)]; exact q1) rfl)
  replace b := zz_fw b T9 (rfl : zz_ent zP_157 8 = (0, za_tsw (0) (14) 337 [84, 98, 123, 137, 149, 161, 337, 173, 190, 190, 226, 248, 286, 305, 324])) (ze_tsw_k (t := 173) (by decide) (by decide))
  replace b := zz_fw b T9 (rfl : zz_ent zP_157 173 = (0, za_aload 0 174)) (ze_aload rfl)
  replace b := zz_fw b T9 (rfl : zz_ent zP_157 174 = (0, za_const (.int (Int32.ofNat 32)) 176)) (ze_const)
  replace b := zz_fw b T9 (rfl : zz_ent zP_157 176 = (0, za_iload 1 177)) (ze_iload rfl)
  replace b := zz_fw b T9 (rfl : zz_ent zP_157 177 = (0, za_const (.int (Int32.ofNat 16)) 179)) (ze_const)
  replace b := zz_fw b T9 (rfl : zz_ent zP_157 179 = (0, za_iushr 180)) (ze_iushr rfl)
  replace b := zz_fw b T9 (rfl : zz_ent zP_157 180 = (0, za_const (.int (Int32.ofNat 1023)) 183)) (ze_const)
  replace b := zz_fw b T9 (rfl : zz_ent zP_157 183 = (0, za_iand 184)) (ze_iand (zF_eq p0 16 10 1023 (by decide) (by decide) rfl))
  obtain ⟨w1, hM1, hB1⟩ := zL_amt (d := d + 3) (l := l) (D := D) (cy := cy) (sp := sp) hG hP hsp hB (p0 := Int32.ofNat (zF p0 16 10)) (a := 32) (by decide) (by (try simp only [List.length_append, List.length_singleton, List.length_cons, List.length_nil]); omega)
  replace b := zz_fVv b TK (rfl : zz_ent zP_157 184 = (0, za_callV 3 297 2 187)) hM1 rfl rfl (zB_12 hB) (zz_lb rfl)
  replace b := zz_fw b T9 (rfl : zz_ent zP_157 187 = (0, za_goto 337)) (ze_goto)
  have m := zz_M_B (yn := zYN) (cn := zCN) (ml := zMQ) (rt := zRT) (y := 157) (as := [.ref 12, .int p0, .int (Int32.ofNat f)]) rfl rfl rfl rfl rfl (by decide +kernel) (zz_lb rfl) (zz_lb rfl) (zz_end_v (zr_157.1 337 rfl).1) b
  exact ⟨_, m, by show zB W0 (T ++ ([32] ++ zdc (Int32.ofNat (zF p0 16 10)))) _; simp only [List.append_assoc] at hB1 ⊢; exact hB1⟩
theorem zL_op_8 {W0 : zz_W} {l : Launch} {D : va_G} {cy : Nat → ClassId} {z0 : Nat} {sp : Nat → Nat} {G : State → Prop} {d : Nat} (hG : zz_GF z0 G) (hP : ∀ U, G U → zz_GD zS zS2 zLg z0 sp U) (hsp : sp 18446744073709551616 = 0) {T : List Nat} {w : zz_W} (hB : zB W0 T w) {p0 : Int32} {f : Nat} (h51 : f < 51) (q1 : zz_ki zS2 2000002 f = some 8) (hT : T.length ≤ 7) : ∃ w', zz_M l zTs D zcl zFK cy z0 sp (zTys cy) G zYN zCN zMQ zRT (d + 11) 157 [.ref 12, .int p0, .int (Int32.ofNat f)] w [] w' ∧ zB W0 (T ++ zOp 8 p0) w' := by
  have T9 := zt_157 (l := l) (D := D) (cy := cy) (z0 := z0) (sp := sp) (G := G) (d := (d + 10)) zz_k0_KS hG hP
  have TK := fun (K : zz_K) (h : zz_KS l D zcl zFK cy z0 sp (zTys cy) G zYN (fun y => Cond.code (zYN y) (zCN y) (zMQ y) (zRT y) :: zTs) (d + 10) K) => zt_157 h hG hP
  have b := zz_B_rf (l := l) (Ts := zTs) (D := D) (cl := zcl) (fk := zFK) (cy := cy) (z0 := z0) (sp := sp) (tys := zTys cy) (G := G) (own := "ToolMill$Codes") (mn := "operands") (nL := 4) (cc := prog_3_method_9_code) (d := (d + 10)) ((0, [(0, .ref 12), (1, .int p0), (2, .int (Int32.ofNat f))], [], w) : zz_F)
  replace b := zz_fw b T9 (rfl : zz_ent zP_157 0 = (0, za_iload 1 1)) (ze_iload rfl)
  replace b := zz_fw b T9 (rfl : zz_ent zP_157 1 = (0, za_i2s 2)) (ze_i2s rfl)
  replace b := zz_fw b T9 (rfl : zz_ent zP_157 2 = (0, za_istore 3 3)) (ze_istore (lv' := [(0, _), (1, _), (2, _)]) rfl)
  replace b := zz_fw b T9 (rfl : zz_ent zP_157 3 = (0, za_const (.ref 2000002) 6)) (ze_const)
  replace b := zz_fw b T9 (rfl : zz_ent zP_157 6 = (0, za_iload 2 7)) (ze_iload rfl)
  replace b := zz_fw b T9 (rfl : zz_ent zP_157 7 = (0, za_kl (zz_ki zS2) 8)) (ze_kl (by rw [zz_nI_ofNat (by omega)]; exact q1) rfl)
  replace b := zz_fw b T9 (rfl : zz_ent zP_157 8 = (0, za_tsw (0) (14) 337 [84, 98, 123, 137, 149, 161, 337, 173, 190, 190, 226, 248, 286, 305, 324])) (ze_tsw_k (t := 190) (by decide) (by decide))
  replace b := zz_fw b T9 (rfl : zz_ent zP_157 190 = (0, za_aload 0 191)) (ze_aload rfl)
  replace b := zz_fw b T9 (rfl : zz_ent zP_157 191 = (0, za_iload 1 192)) (ze_iload rfl)
  replace b := zz_fw b T9 (rfl : zz_ent zP_157 192 = (0, za_const (.int (Int32.ofNat 16)) 194)) (ze_const)
  replace b := zz_fw b T9 (rfl : zz_ent zP_157 194 = (0, za_const (.int (Int32.ofNat 21)) 196)) (ze_const)
  obtain ⟨w1, hM1, hB1⟩ := zL_two_16_21 (d := d + 1) (l := l) (D := D) (cy := cy) (sp := sp) hG hP hsp hB (p0 := p0) (by omega)
  replace b := zz_fVv b TK (rfl : zz_ent zP_157 196 = (0, za_callV 3 296 3 199)) hM1 rfl rfl (zB_12 hB) (zz_lb rfl)
  replace b := zz_fw b T9 (rfl : zz_ent zP_157 199 = (0, za_aload 0 200)) (ze_aload rfl)
  replace b := zz_fw b T9 (rfl : zz_ent zP_157 200 = (0, za_const (.int (Int32.ofNat 44)) 202)) (ze_const)
  replace b := zz_fw b T9 (rfl : zz_ent zP_157 202 = (0, za_const (.ref 2000002) 205)) (ze_const)
  replace b := zz_fw b T9 (rfl : zz_ent zP_157 205 = (0, za_iload 2 206)) (ze_iload rfl)
  replace b := zz_fw b T9 (rfl : zz_ent zP_157 206 = (0, za_kl (zz_ki zS2) 207)) (ze_kl (by rw [zz_nI_ofNat (by omega)]; exact q1) rfl)
  replace b := zz_fw b T9 (rfl : zz_ent zP_157 207 = (0, za_const (.int (Int32.ofNat 8)) 209)) (ze_const)
  replace b := zz_fw b T9 (rfl : zz_ent zP_157 209 = (0, za_icmp_ne 216 212)) (ze_icmp_ne_f (by decide))
  replace b := zz_fw b T9 (rfl : zz_ent zP_157 212 = (0, za_iload 3 213)) (ze_iload rfl)
  replace b := zz_fw b T9 (rfl : zz_ent zP_157 213 = (0, za_goto 220)) (ze_goto)
  obtain ⟨w2, hM2, hB2⟩ := zL_amt (d := d + 3) (l := l) (D := D) (cy := cy) (sp := sp) hG hP hsp hB1 (p0 := p0.toInt16.toInt32) (a := 44) (by decide) (by have g16 := zRg_5 p0 16; have g21 := zRg_5 p0 21; (try simp only [List.length_append, List.length_singleton, List.length_cons, List.length_nil]); omega)
  replace b := zz_fVv b TK (rfl : zz_ent zP_157 220 = (0, za_callV 3 297 2 223)) hM2 rfl rfl (zB_12 hB1) (zz_lb rfl)
  replace b := zz_fw b T9 (rfl : zz_ent zP_157 223 = (0, za_goto 337)) (ze_goto)
  have m := zz_M_B (yn := zYN) (cn := zCN) (ml := zMQ) (rt := zRT) (y := 157) (as := [.ref 12, .int p0, .int (Int32.ofNat f)]) rfl rfl rfl rfl rfl (by decide +kernel) (zz_lb rfl) (zz_lb rfl) (zz_end_v (zr_157.1 337 rfl).1) b
  exact ⟨_, m, by show zB W0 (T ++ ([32] ++ (zRg p0 16 ++ ([44] ++ (zRg p0 21 ++ ([44] ++ zdc p0.toInt16.toInt32)))))) _; simp only [List.append_assoc] at hB2 ⊢; exact hB2⟩
theorem zL_op_9 {W0 : zz_W} {l : Launch} {D : va_G} {cy : Nat → ClassId} {z0 : Nat} {sp : Nat → Nat} {G : State → Prop} {d : Nat} (hG : zz_GF z0 G) (hP : ∀ U, G U → zz_GD zS zS2 zLg z0 sp U) (hsp : sp 18446744073709551616 = 0) {T : List Nat} {w : zz_W} (hB : zB W0 T w) {p0 : Int32} {f : Nat} (h51 : f < 51) (q1 : zz_ki zS2 2000002 f = some 9) (hT : T.length ≤ 7) : ∃ w', zz_M l zTs D zcl zFK cy z0 sp (zTys cy) G zYN zCN zMQ zRT (d + 11) 157 [.ref 12, .int p0, .int (Int32.ofNat f)] w [] w' ∧ zB W0 (T ++ zOp 9 p0) w' := by
  have T9 := zt_157 (l := l) (D := D) (cy := cy) (z0 := z0) (sp := sp) (G := G) (d := (d + 10)) zz_k0_KS hG hP
  have TK := fun (K : zz_K) (h : zz_KS l D zcl zFK cy z0 sp (zTys cy) G zYN (fun y => Cond.code (zYN y) (zCN y) (zMQ y) (zRT y) :: zTs) (d + 10) K) => zt_157 h hG hP
  have b := zz_B_rf (l := l) (Ts := zTs) (D := D) (cl := zcl) (fk := zFK) (cy := cy) (z0 := z0) (sp := sp) (tys := zTys cy) (G := G) (own := "ToolMill$Codes") (mn := "operands") (nL := 4) (cc := prog_3_method_9_code) (d := (d + 10)) ((0, [(0, .ref 12), (1, .int p0), (2, .int (Int32.ofNat f))], [], w) : zz_F)
  replace b := zz_fw b T9 (rfl : zz_ent zP_157 0 = (0, za_iload 1 1)) (ze_iload rfl)
  replace b := zz_fw b T9 (rfl : zz_ent zP_157 1 = (0, za_i2s 2)) (ze_i2s rfl)
  replace b := zz_fw b T9 (rfl : zz_ent zP_157 2 = (0, za_istore 3 3)) (ze_istore (lv' := [(0, _), (1, _), (2, _)]) rfl)
  replace b := zz_fw b T9 (rfl : zz_ent zP_157 3 = (0, za_const (.ref 2000002) 6)) (ze_const)
  replace b := zz_fw b T9 (rfl : zz_ent zP_157 6 = (0, za_iload 2 7)) (ze_iload rfl)
  replace b := zz_fw b T9 (rfl : zz_ent zP_157 7 = (0, za_kl (zz_ki zS2) 8)) (ze_kl (by rw [zz_nI_ofNat (by omega)]; exact q1) rfl)
  replace b := zz_fw b T9 (rfl : zz_ent zP_157 8 = (0, za_tsw (0) (14) 337 [84, 98, 123, 137, 149, 161, 337, 173, 190, 190, 226, 248, 286, 305, 324])) (ze_tsw_k (t := 190) (by decide) (by decide))
  replace b := zz_fw b T9 (rfl : zz_ent zP_157 190 = (0, za_aload 0 191)) (ze_aload rfl)
  replace b := zz_fw b T9 (rfl : zz_ent zP_157 191 = (0, za_iload 1 192)) (ze_iload rfl)
  replace b := zz_fw b T9 (rfl : zz_ent zP_157 192 = (0, za_const (.int (Int32.ofNat 16)) 194)) (ze_const)
  replace b := zz_fw b T9 (rfl : zz_ent zP_157 194 = (0, za_const (.int (Int32.ofNat 21)) 196)) (ze_const)
  obtain ⟨w1, hM1, hB1⟩ := zL_two_16_21 (d := d + 1) (l := l) (D := D) (cy := cy) (sp := sp) hG hP hsp hB (p0 := p0) (by omega)
  replace b := zz_fVv b TK (rfl : zz_ent zP_157 196 = (0, za_callV 3 296 3 199)) hM1 rfl rfl (zB_12 hB) (zz_lb rfl)
  replace b := zz_fw b T9 (rfl : zz_ent zP_157 199 = (0, za_aload 0 200)) (ze_aload rfl)
  replace b := zz_fw b T9 (rfl : zz_ent zP_157 200 = (0, za_const (.int (Int32.ofNat 44)) 202)) (ze_const)
  replace b := zz_fw b T9 (rfl : zz_ent zP_157 202 = (0, za_const (.ref 2000002) 205)) (ze_const)
  replace b := zz_fw b T9 (rfl : zz_ent zP_157 205 = (0, za_iload 2 206)) (ze_iload rfl)
  replace b := zz_fw b T9 (rfl : zz_ent zP_157 206 = (0, za_kl (zz_ki zS2) 207)) (ze_kl (by rw [zz_nI_ofNat (by omega)]; exact q1) rfl)
  replace b := zz_fw b T9 (rfl : zz_ent zP_157 207 = (0, za_const (.int (Int32.ofNat 8)) 209)) (ze_const)
  replace b := zz_fw b T9 (rfl : zz_ent zP_157 209 = (0, za_icmp_ne 216 212)) (ze_icmp_ne_t (by decide))
  replace b := zz_fw b T9 (rfl : zz_ent zP_157 216 = (0, za_iload 3 217)) (ze_iload rfl)
  replace b := zz_fw b T9 (rfl : zz_ent zP_157 217 = (0, za_const (.int (Int32.ofNat 65535)) 219)) (ze_const)
  replace b := zz_fw b T9 (rfl : zz_ent zP_157 219 = (0, za_iand 220)) (ze_iand rfl)
  obtain ⟨w2, hM2, hB2⟩ := zL_amt (d := d + 3) (l := l) (D := D) (cy := cy) (sp := sp) hG hP hsp hB1 (p0 := (p0.toInt16.toInt32 &&& Int32.ofNat 65535)) (a := 44) (by decide) (by have g16 := zRg_5 p0 16; have g21 := zRg_5 p0 21; (try simp only [List.length_append, List.length_singleton, List.length_cons, List.length_nil]); omega)
  replace b := zz_fVv b TK (rfl : zz_ent zP_157 220 = (0, za_callV 3 297 2 223)) hM2 rfl rfl (zB_12 hB1) (zz_lb rfl)
  replace b := zz_fw b T9 (rfl : zz_ent zP_157 223 = (0, za_goto 337)) (ze_goto)
  have m := zz_M_B (yn := zYN) (cn := zCN) (ml := zMQ) (rt := zRT) (y := 157) (as := [.ref 12, .int p0, .int (Int32.ofNat f)]) rfl rfl rfl rfl rfl (by decide +kernel) (zz_lb rfl) (zz_lb rfl) (zz_end_v (zr_157.1 337 rfl).1) b
  exact ⟨_, m, by show zB W0 (T ++ ([32] ++ (zRg p0 16 ++ ([44] ++ (zRg p0 21 ++ ([44] ++ zdc (p0.toInt16.toInt32 &&& Int32.ofNat 65535))))))) _; simp only [List.append_assoc] at hB2 ⊢; exact hB2⟩
theorem zL_op_10 {W0 : zz_W} {l : Launch} {D : va_G} {cy : Nat → ClassId} {z0 : Nat} {sp : Nat → Nat} {G : State → Prop} {d : Nat} (hG : zz_GF z0 G) (hP : ∀ U, G U → zz_GD zS zS2 zLg z0 sp U) (hsp : sp 18446744073709551616 = 0) {T : List Nat} {w : zz_W} (hB : zB W0 T w) {p0 : Int32} {f : Nat} (h51 : f < 51) (q1 : zz_ki zS2 2000002 f = some 10) (hT : T.length ≤ 7) : ∃ w', zz_M l zTs D zcl zFK cy z0 sp (zTys cy) G zYN zCN zMQ zRT (d + 11) 157 [.ref 12, .int p0, .int (Int32.ofNat f)] w [] w' ∧ zB W0 (T ++ zOp 10 p0) w' := by
  have T9 := zt_157 (l := l) (D := D) (cy := cy) (z0 := z0) (sp := sp) (G := G) (d := (d + 10)) zz_k0_KS hG hP
  have TK := fun (K : zz_K) (h : zz_KS l D zcl zFK cy z0 sp (zTys cy) G zYN (fun y => Cond.code (zYN y) (zCN y) (zMQ y) (zRT y) :: zTs) (d + 10) K) => zt_157 h hG hP
  have b := zz_B_rf (l := l) (Ts := zTs) (D := D) (cl := zcl) (fk := zFK) (cy := cy) (z0 := z0) (sp := sp) (tys := zTys cy) (G := G) (own := "ToolMill$Codes") (mn := "operands") (nL := 4) (cc := prog_3_method_9_code) (d := (d + 10)) ((0, [(0, .ref 12), (1, .int p0), (2, .int (Int32.ofNat f))], [], w) : zz_F)
  replace b := zz_fw b T9 (rfl : zz_ent zP_157 0 = (0, za_iload 1 1)) (ze_iload rfl)
  replace b := zz_fw b T9 (rfl : zz_ent zP_157 1 = (0, za_i2s 2)) (ze_i2s rfl)
  replace b := zz_fw b T9 (rfl : zz_ent zP_157 2 = (0, za_istore 3 3)) (ze_istore (lv' := [(0, _), (1, _), (2, _)]) rfl)
  replace b := zz_fw b T9 (rfl : zz_ent zP_157 3 = (0, za_const (.ref 2000002) 6)) (ze_const)
  replace b := zz_fw b T9 (rfl : zz_ent zP_157 6 = (0, za_iload 2 7)) (ze_iload rfl)
  replace b := zz_fw b T9 (rfl : zz_ent zP_157 7 = (0, za_kl (zz_ki zS2) 8)) (ze_kl (by rw [zz_nI_ofNat (by omega)]; exact q1) rfl)
  replace b := zz_fw b T9 (rfl : zz_ent zP_157 8 = (0, za_tsw (0) (14) 337 [84, 98, 123, 137, 149, 161, 337, 173, 190, 190, 226, 248, 286, 305, 324])) (ze_tsw_k (t := 226) (by decide) (by decide))
  replace b := zz_fw b T9 (rfl : zz_ent zP_157 226 = (0, za_aload 0 227)) (ze_aload rfl)
  replace b := zz_fw b T9 (rfl : zz_ent zP_157 227 = (0, za_const (.int (Int32.ofNat 32)) 229)) (ze_const)
  replace b := zz_fw b T9 (rfl : zz_ent zP_157 229 = (0, za_iload 1 230)) (ze_iload rfl)
  replace b := zz_fw b T9 (rfl : zz_ent zP_157 230 = (0, za_const (.int (Int32.ofNat 16)) 232)) (ze_const)
  obtain ⟨w1, hM1, hB1⟩ := zL_one_16 (d := d + 2) (l := l) (D := D) (cy := cy) (sp := sp) hG hP hsp hB (p0 := p0) (a := 32) (by decide) (by (try simp only [List.length_append, List.length_singleton, List.length_cons, List.length_nil]); omega)
  replace b := zz_fVv b TK (rfl : zz_ent zP_157 232 = (0, za_callV 3 298 3 235)) hM1 rfl rfl (zB_12 hB) (zz_lb rfl)
  replace b := zz_fw b T9 (rfl : zz_ent zP_157 235 = (0, za_aload 0 236)) (ze_aload rfl)
  replace b := zz_fw b T9 (rfl : zz_ent zP_157 236 = (0, za_const (.int (Int32.ofNat 44)) 238)) (ze_const)
  replace b := zz_fw b T9 (rfl : zz_ent zP_157 238 = (0, za_iload 3 239)) (ze_iload rfl)
  replace b := zz_fw b T9 (rfl : zz_ent zP_157 239 = (0, za_const (.int (Int32.ofNat 65535)) 241)) (ze_const)
  replace b := zz_fw b T9 (rfl : zz_ent zP_157 241 = (0, za_iand 242)) (ze_iand rfl)
  obtain ⟨w2, hM2, hB2⟩ := zL_amt (d := d + 3) (l := l) (D := D) (cy := cy) (sp := sp) hG hP hsp hB1 (p0 := (p0.toInt16.toInt32 &&& Int32.ofNat 65535)) (a := 44) (by decide) (by have g16 := zRg_5 p0 16; (try simp only [List.length_append, List.length_singleton, List.length_cons, List.length_nil]); omega)
  replace b := zz_fVv b TK (rfl : zz_ent zP_157 242 = (0, za_callV 3 297 2 245)) hM2 rfl rfl (zB_12 hB1) (zz_lb rfl)
  replace b := zz_fw b T9 (rfl : zz_ent zP_157 245 = (0, za_goto 337)) (ze_goto)
  have m := zz_M_B (yn := zYN) (cn := zCN) (ml := zMQ) (rt := zRT) (y := 157) (as := [.ref 12, .int p0, .int (Int32.ofNat f)]) rfl rfl rfl rfl rfl (by decide +kernel) (zz_lb rfl) (zz_lb rfl) (zz_end_v (zr_157.1 337 rfl).1) b
  exact ⟨_, m, by show zB W0 (T ++ ([32] ++ (zRg p0 16 ++ ([44] ++ zdc (p0.toInt16.toInt32 &&& Int32.ofNat 65535))))) _; simp only [List.append_assoc] at hB2 ⊢; exact hB2⟩
theorem zL_op_11 {W0 : zz_W} {l : Launch} {D : va_G} {cy : Nat → ClassId} {z0 : Nat} {sp : Nat → Nat} {G : State → Prop} {d : Nat} (hG : zz_GF z0 G) (hP : ∀ U, G U → zz_GD zS zS2 zLg z0 sp U) (hsp : sp 18446744073709551616 = 0) {T : List Nat} {w : zz_W} (hB : zB W0 T w) {p0 : Int32} {f : Nat} (h51 : f < 51) (q1 : zz_ki zS2 2000002 f = some 11) (hT : T.length ≤ 7) : ∃ w', zz_M l zTs D zcl zFK cy z0 sp (zTys cy) G zYN zCN zMQ zRT (d + 11) 157 [.ref 12, .int p0, .int (Int32.ofNat f)] w [] w' ∧ zB W0 (T ++ zOp 11 p0) w' := by
  have T9 := zt_157 (l := l) (D := D) (cy := cy) (z0 := z0) (sp := sp) (G := G) (d := (d + 10)) zz_k0_KS hG hP
  have TK := fun (K : zz_K) (h : zz_KS l D zcl zFK cy z0 sp (zTys cy) G zYN (fun y => Cond.code (zYN y) (zCN y) (zMQ y) (zRT y) :: zTs) (d + 10) K) => zt_157 h hG hP
  have b := zz_B_rf (l := l) (Ts := zTs) (D := D) (cl := zcl) (fk := zFK) (cy := cy) (z0 := z0) (sp := sp) (tys := zTys cy) (G := G) (own := "ToolMill$Codes") (mn := "operands") (nL := 4) (cc := prog_3_method_9_code) (d := (d + 10)) ((0, [(0, .ref 12), (1, .int p0), (2, .int (Int32.ofNat f))], [], w) : zz_F)
  replace b := zz_fw b T9 (rfl : zz_ent zP_157 0 = (0, za_iload 1 1)) (ze_iload rfl)
  replace b := zz_fw b T9 (rfl : zz_ent zP_157 1 = (0, za_i2s 2)) (ze_i2s rfl)
  replace b := zz_fw b T9 (rfl : zz_ent zP_157 2 = (0, za_istore 3 3)) (ze_istore (lv' := [(0, _), (1, _), (2, _)]) rfl)
  replace b := zz_fw b T9 (rfl : zz_ent zP_157 3 = (0, za_const (.ref 2000002) 6)) (ze_const)
  replace b := zz_fw b T9 (rfl : zz_ent zP_157 6 = (0, za_iload 2 7)) (ze_iload rfl)
  replace b := zz_fw b T9 (rfl : zz_ent zP_157 7 = (0, za_kl (zz_ki zS2) 8)) (ze_kl (by rw [zz_nI_ofNat (by omega)]; exact q1) rfl)
  replace b := zz_fw b T9 (rfl : zz_ent zP_157 8 = (0, za_tsw (0) (14) 337 [84, 98, 123, 137, 149, 161, 337, 173, 190, 190, 226, 248, 286, 305, 324])) (ze_tsw_k (t := 248) (by decide) (by decide))
  replace b := zz_fw b T9 (rfl : zz_ent zP_157 248 = (0, za_aload 0 249)) (ze_aload rfl)
  replace b := zz_fw b T9 (rfl : zz_ent zP_157 249 = (0, za_const (.int (Int32.ofNat 32)) 251)) (ze_const)
  replace b := zz_fw b T9 (rfl : zz_ent zP_157 251 = (0, za_iload 1 252)) (ze_iload rfl)
  replace b := zz_fw b T9 (rfl : zz_ent zP_157 252 = (0, za_const (.int (Int32.ofNat 16)) 254)) (ze_const)
  obtain ⟨w1, hM1, hB1⟩ := zL_one_16 (d := d + 2) (l := l) (D := D) (cy := cy) (sp := sp) hG hP hsp hB (p0 := p0) (a := 32) (by decide) (by (try simp only [List.length_append, List.length_singleton, List.length_cons, List.length_nil]); omega)
  replace b := zz_fVv b TK (rfl : zz_ent zP_157 254 = (0, za_callV 3 298 3 257)) hM1 rfl rfl (zB_12 hB) (zz_lb rfl)
  replace b := zz_fw b T9 (rfl : zz_ent zP_157 257 = (0, za_aload 0 258)) (ze_aload rfl)
  replace b := zz_fw b T9 (rfl : zz_ent zP_157 258 = (0, za_const (.int (Int32.ofNat 44)) 260)) (ze_const)
  replace b := zz_fw b T9 (rfl : zz_ent zP_157 260 = (0, za_iload 3 261)) (ze_iload rfl)
  obtain ⟨w2, hM2, hB2⟩ := zL_amt (d := d + 3) (l := l) (D := D) (cy := cy) (sp := sp) hG hP hsp hB1 (p0 := p0.toInt16.toInt32) (a := 44) (by decide) (by have g16 := zRg_5 p0 16; (try simp only [List.length_append, List.length_singleton, List.length_cons, List.length_nil]); omega)
  replace b := zz_fVv b TK (rfl : zz_ent zP_157 261 = (0, za_callV 3 297 2 264)) hM2 rfl rfl (zB_12 hB1) (zz_lb rfl)
  replace b := zz_fw b T9 (rfl : zz_ent zP_157 264 = (0, za_aload 0 265)) (ze_aload rfl)
  replace b := zz_fw b T9 (rfl : zz_ent zP_157 265 = (0, za_const (.int (Int32.ofNat 40)) 267)) (ze_const)
  replace b := zz_fw b T9 (rfl : zz_ent zP_157 267 = (0, za_iload 1 268)) (ze_iload rfl)
  replace b := zz_fw b T9 (rfl : zz_ent zP_157 268 = (0, za_const (.int (Int32.ofNat 21)) 270)) (ze_const)
  obtain ⟨w3, hM3, hB3⟩ := zL_one_21 (d := d + 2) (l := l) (D := D) (cy := cy) (sp := sp) hG hP hsp hB2 (p0 := p0) (a := 40) (by decide) (by have g16 := zRg_5 p0 16; have h11 := zdc_11 p0.toInt16.toInt32; (try simp only [List.length_append, List.length_singleton, List.length_cons, List.length_nil]); omega)
  replace b := zz_fVv b TK (rfl : zz_ent zP_157 270 = (0, za_callV 3 298 3 273)) hM3 rfl rfl (zB_12 hB2) (zz_lb rfl)
  replace b := zz_fw b T9 (rfl : zz_ent zP_157 273 = (0, za_aload 0 274)) (ze_aload rfl)
  replace b := zz_fw b T9 (rfl : zz_ent zP_157 274 = (0, za_getA 3 4 277)) (ze_getA (zB_f12 hB3) (by decide) (zB_v12_4 hB3))
  replace b := zz_fw b T9 (rfl : zz_ent zP_157 277 = (0, za_const (.int (Int32.ofNat 41)) 279)) (ze_const)
  obtain ⟨w4, hM4, hB4⟩ := zL_apc (d := d + 4) (l := l) (D := D) (cy := cy) (sp := sp) hG hP hsp hB3 (x := 41) (by have g16 := zRg_5 p0 16; have g21 := zRg_5 p0 21; have h11 := zdc_11 p0.toInt16.toInt32; (try simp only [List.length_append, List.length_singleton, List.length_cons, List.length_nil]); omega) (by decide)
  replace b := zz_fVi b TK (rfl : zz_ent zP_157 279 = (0, za_callV 13 158 1 282)) hM4 rfl rfl (zB_ic hB3) (zz_lb rfl)
  replace b := zz_fw b T9 (rfl : zz_ent zP_157 282 = (0, za_pop 283)) (ze_pop rfl)
  replace b := zz_fw b T9 (rfl : zz_ent zP_157 283 = (0, za_goto 337)) (ze_goto)
  have m := zz_M_B (yn := zYN) (cn := zCN) (ml := zMQ) (rt := zRT) (y := 157) (as := [.ref 12, .int p0, .int (Int32.ofNat f)]) rfl rfl rfl rfl rfl (by decide +kernel) (zz_lb rfl) (zz_lb rfl) (zz_end_v (zr_157.1 337 rfl).1) b
  exact ⟨_, m, by show zB W0 (T ++ ([32] ++ (zRg p0 16 ++ ([44] ++ (zdc p0.toInt16.toInt32 ++ ([40] ++ (zRg p0 21 ++ [41]))))))) _; simp only [List.append_assoc] at hB4 ⊢; exact hB4⟩
theorem zL_op_12 {W0 : zz_W} {l : Launch} {D : va_G} {cy : Nat → ClassId} {z0 : Nat} {sp : Nat → Nat} {G : State → Prop} {d : Nat} (hG : zz_GF z0 G) (hP : ∀ U, G U → zz_GD zS zS2 zLg z0 sp U) (hsp : sp 18446744073709551616 = 0) {T : List Nat} {w : zz_W} (hB : zB W0 T w) {p0 : Int32} {f : Nat} (h51 : f < 51) (q1 : zz_ki zS2 2000002 f = some 12) (hT : T.length ≤ 7) : ∃ w', zz_M l zTs D zcl zFK cy z0 sp (zTys cy) G zYN zCN zMQ zRT (d + 11) 157 [.ref 12, .int p0, .int (Int32.ofNat f)] w [] w' ∧ zB W0 (T ++ zOp 12 p0) w' := by
  have T9 := zt_157 (l := l) (D := D) (cy := cy) (z0 := z0) (sp := sp) (G := G) (d := (d + 10)) zz_k0_KS hG hP
  have TK := fun (K : zz_K) (h : zz_KS l D zcl zFK cy z0 sp (zTys cy) G zYN (fun y => Cond.code (zYN y) (zCN y) (zMQ y) (zRT y) :: zTs) (d + 10) K) => zt_157 h hG hP
  have b := zz_B_rf (l := l) (Ts := zTs) (D := D) (cl := zcl) (fk := zFK) (cy := cy) (z0 := z0) (sp := sp) (tys := zTys cy) (G := G) (own := "ToolMill$Codes") (mn := "operands") (nL := 4) (cc := prog_3_method_9_code) (d := (d + 10)) ((0, [(0, .ref 12), (1, .int p0), (2, .int (Int32.ofNat f))], [], w) : zz_F)
  replace b := zz_fw b T9 (rfl : zz_ent zP_157 0 = (0, za_iload 1 1)) (ze_iload rfl)
  replace b := zz_fw b T9 (rfl : zz_ent zP_157 1 = (0, za_i2s 2)) (ze_i2s rfl)
  replace b := zz_fw b T9 (rfl : zz_ent zP_157 2 = (0, za_istore 3 3)) (ze_istore (lv' := [(0, _), (1, _), (2, _)]) rfl)
  replace b := zz_fw b T9 (rfl : zz_ent zP_157 3 = (0, za_const (.ref 2000002) 6)) (ze_const)
  replace b := zz_fw b T9 (rfl : zz_ent zP_157 6 = (0, za_iload 2 7)) (ze_iload rfl)
  replace b := zz_fw b T9 (rfl : zz_ent zP_157 7 = (0, za_kl (zz_ki zS2) 8)) (ze_kl (by rw [zz_nI_ofNat (by omega)]; exact q1) rfl)
  replace b := zz_fw b T9 (rfl : zz_ent zP_157 8 = (0, za_tsw (0) (14) 337 [84, 98, 123, 137, 149, 161, 337, 173, 190, 190, 226, 248, 286, 305, 324])) (ze_tsw_k (t := 286) (by decide) (by decide))
  replace b := zz_fw b T9 (rfl : zz_ent zP_157 286 = (0, za_aload 0 287)) (ze_aload rfl)
  replace b := zz_fw b T9 (rfl : zz_ent zP_157 287 = (0, za_iload 1 288)) (ze_iload rfl)
  replace b := zz_fw b T9 (rfl : zz_ent zP_157 288 = (0, za_const (.int (Int32.ofNat 21)) 290)) (ze_const)
  replace b := zz_fw b T9 (rfl : zz_ent zP_157 290 = (0, za_const (.int (Int32.ofNat 16)) 292)) (ze_const)
  obtain ⟨w1, hM1, hB1⟩ := zL_two_21_16 (d := d + 1) (l := l) (D := D) (cy := cy) (sp := sp) hG hP hsp hB (p0 := p0) (by omega)
  replace b := zz_fVv b TK (rfl : zz_ent zP_157 292 = (0, za_callV 3 296 3 295)) hM1 rfl rfl (zB_12 hB) (zz_lb rfl)
  replace b := zz_fw b T9 (rfl : zz_ent zP_157 295 = (0, za_aload 0 296)) (ze_aload rfl)
  replace b := zz_fw b T9 (rfl : zz_ent zP_157 296 = (0, za_const (.int (Int32.ofNat 44)) 298)) (ze_const)
  replace b := zz_fw b T9 (rfl : zz_ent zP_157 298 = (0, za_iload 3 299)) (ze_iload rfl)
  obtain ⟨w2, hM2, hB2⟩ := zL_amt (d := d + 3) (l := l) (D := D) (cy := cy) (sp := sp) hG hP hsp hB1 (p0 := p0.toInt16.toInt32) (a := 44) (by decide) (by have g21 := zRg_5 p0 21; have g16 := zRg_5 p0 16; (try simp only [List.length_append, List.length_singleton, List.length_cons, List.length_nil]); omega)
  replace b := zz_fVv b TK (rfl : zz_ent zP_157 299 = (0, za_callV 3 297 2 302)) hM2 rfl rfl (zB_12 hB1) (zz_lb rfl)
  replace b := zz_fw b T9 (rfl : zz_ent zP_157 302 = (0, za_goto 337)) (ze_goto)
  have m := zz_M_B (yn := zYN) (cn := zCN) (ml := zMQ) (rt := zRT) (y := 157) (as := [.ref 12, .int p0, .int (Int32.ofNat f)]) rfl rfl rfl rfl rfl (by decide +kernel) (zz_lb rfl) (zz_lb rfl) (zz_end_v (zr_157.1 337 rfl).1) b
  exact ⟨_, m, by show zB W0 (T ++ ([32] ++ (zRg p0 21 ++ ([44] ++ (zRg p0 16 ++ ([44] ++ zdc p0.toInt16.toInt32)))))) _; simp only [List.append_assoc] at hB2 ⊢; exact hB2⟩
theorem zL_op_13 {W0 : zz_W} {l : Launch} {D : va_G} {cy : Nat → ClassId} {z0 : Nat} {sp : Nat → Nat} {G : State → Prop} {d : Nat} (hG : zz_GF z0 G) (hP : ∀ U, G U → zz_GD zS zS2 zLg z0 sp U) (hsp : sp 18446744073709551616 = 0) {T : List Nat} {w : zz_W} (hB : zB W0 T w) {p0 : Int32} {f : Nat} (h51 : f < 51) (q1 : zz_ki zS2 2000002 f = some 13) (hT : T.length ≤ 7) : ∃ w', zz_M l zTs D zcl zFK cy z0 sp (zTys cy) G zYN zCN zMQ zRT (d + 11) 157 [.ref 12, .int p0, .int (Int32.ofNat f)] w [] w' ∧ zB W0 (T ++ zOp 13 p0) w' := by
  have T9 := zt_157 (l := l) (D := D) (cy := cy) (z0 := z0) (sp := sp) (G := G) (d := (d + 10)) zz_k0_KS hG hP
  have TK := fun (K : zz_K) (h : zz_KS l D zcl zFK cy z0 sp (zTys cy) G zYN (fun y => Cond.code (zYN y) (zCN y) (zMQ y) (zRT y) :: zTs) (d + 10) K) => zt_157 h hG hP
  have b := zz_B_rf (l := l) (Ts := zTs) (D := D) (cl := zcl) (fk := zFK) (cy := cy) (z0 := z0) (sp := sp) (tys := zTys cy) (G := G) (own := "ToolMill$Codes") (mn := "operands") (nL := 4) (cc := prog_3_method_9_code) (d := (d + 10)) ((0, [(0, .ref 12), (1, .int p0), (2, .int (Int32.ofNat f))], [], w) : zz_F)
  replace b := zz_fw b T9 (rfl : zz_ent zP_157 0 = (0, za_iload 1 1)) (ze_iload rfl)
  replace b := zz_fw b T9 (rfl : zz_ent zP_157 1 = (0, za_i2s 2)) (ze_i2s rfl)
  replace b := zz_fw b T9 (rfl : zz_ent zP_157 2 = (0, za_istore 3 3)) (ze_istore (lv' := [(0, _), (1, _), (2, _)]) rfl)
  replace b := zz_fw b T9 (rfl : zz_ent zP_157 3 = (0, za_const (.ref 2000002) 6)) (ze_const)
  replace b := zz_fw b T9 (rfl : zz_ent zP_157 6 = (0, za_iload 2 7)) (ze_iload rfl)
  replace b := zz_fw b T9 (rfl : zz_ent zP_157 7 = (0, za_kl (zz_ki zS2) 8)) (ze_kl (by rw [zz_nI_ofNat (by omega)]; exact q1) rfl)
  replace b := zz_fw b T9 (rfl : zz_ent zP_157 8 = (0, za_tsw (0) (14) 337 [84, 98, 123, 137, 149, 161, 337, 173, 190, 190, 226, 248, 286, 305, 324])) (ze_tsw_k (t := 305) (by decide) (by decide))
  replace b := zz_fw b T9 (rfl : zz_ent zP_157 305 = (0, za_aload 0 306)) (ze_aload rfl)
  replace b := zz_fw b T9 (rfl : zz_ent zP_157 306 = (0, za_const (.int (Int32.ofNat 32)) 308)) (ze_const)
  replace b := zz_fw b T9 (rfl : zz_ent zP_157 308 = (0, za_iload 1 309)) (ze_iload rfl)
  replace b := zz_fw b T9 (rfl : zz_ent zP_157 309 = (0, za_const (.int (Int32.ofNat 21)) 311)) (ze_const)
  obtain ⟨w1, hM1, hB1⟩ := zL_one_21 (d := d + 2) (l := l) (D := D) (cy := cy) (sp := sp) hG hP hsp hB (p0 := p0) (a := 32) (by decide) (by (try simp only [List.length_append, List.length_singleton, List.length_cons, List.length_nil]); omega)
  replace b := zz_fVv b TK (rfl : zz_ent zP_157 311 = (0, za_callV 3 298 3 314)) hM1 rfl rfl (zB_12 hB) (zz_lb rfl)
  replace b := zz_fw b T9 (rfl : zz_ent zP_157 314 = (0, za_aload 0 315)) (ze_aload rfl)
  replace b := zz_fw b T9 (rfl : zz_ent zP_157 315 = (0, za_const (.int (Int32.ofNat 44)) 317)) (ze_const)
  replace b := zz_fw b T9 (rfl : zz_ent zP_157 317 = (0, za_iload 3 318)) (ze_iload rfl)
  obtain ⟨w2, hM2, hB2⟩ := zL_amt (d := d + 3) (l := l) (D := D) (cy := cy) (sp := sp) hG hP hsp hB1 (p0 := p0.toInt16.toInt32) (a := 44) (by decide) (by have g21 := zRg_5 p0 21; (try simp only [List.length_append, List.length_singleton, List.length_cons, List.length_nil]); omega)
  replace b := zz_fVv b TK (rfl : zz_ent zP_157 318 = (0, za_callV 3 297 2 321)) hM2 rfl rfl (zB_12 hB1) (zz_lb rfl)
  replace b := zz_fw b T9 (rfl : zz_ent zP_157 321 = (0, za_goto 337)) (ze_goto)
  have m := zz_M_B (yn := zYN) (cn := zCN) (ml := zMQ) (rt := zRT) (y := 157) (as := [.ref 12, .int p0, .int (Int32.ofNat f)]) rfl rfl rfl rfl rfl (by decide +kernel) (zz_lb rfl) (zz_lb rfl) (zz_end_v (zr_157.1 337 rfl).1) b
  exact ⟨_, m, by show zB W0 (T ++ ([32] ++ (zRg p0 21 ++ ([44] ++ zdc p0.toInt16.toInt32)))) _; simp only [List.append_assoc] at hB2 ⊢; exact hB2⟩
theorem zL_op_14 {W0 : zz_W} {l : Launch} {D : va_G} {cy : Nat → ClassId} {z0 : Nat} {sp : Nat → Nat} {G : State → Prop} {d : Nat} (hG : zz_GF z0 G) (hP : ∀ U, G U → zz_GD zS zS2 zLg z0 sp U) (hsp : sp 18446744073709551616 = 0) {T : List Nat} {w : zz_W} (hB : zB W0 T w) {p0 : Int32} {f : Nat} (h51 : f < 51) (q1 : zz_ki zS2 2000002 f = some 14) (hT : T.length ≤ 7) : ∃ w', zz_M l zTs D zcl zFK cy z0 sp (zTys cy) G zYN zCN zMQ zRT (d + 11) 157 [.ref 12, .int p0, .int (Int32.ofNat f)] w [] w' ∧ zB W0 (T ++ zOp 14 p0) w' := by
  have T9 := zt_157 (l := l) (D := D) (cy := cy) (z0 := z0) (sp := sp) (G := G) (d := (d + 10)) zz_k0_KS hG hP
  have TK := fun (K : zz_K) (h : zz_KS l D zcl zFK cy z0 sp (zTys cy) G zYN (fun y => Cond.code (zYN y) (zCN y) (zMQ y) (zRT y) :: zTs) (d + 10) K) => zt_157 h hG hP
  have b := zz_B_rf (l := l) (Ts := zTs) (D := D) (cl := zcl) (fk := zFK) (cy := cy) (z0 := z0) (sp := sp) (tys := zTys cy) (G := G) (own := "ToolMill$Codes") (mn := "operands") (nL := 4) (cc := prog_3_method_9_code) (d := (d + 10)) ((0, [(0, .ref 12), (1, .int p0), (2, .int (Int32.ofNat f))], [], w) : zz_F)
  replace b := zz_fw b T9 (rfl : zz_ent zP_157 0 = (0, za_iload 1 1)) (ze_iload rfl)
  replace b := zz_fw b T9 (rfl : zz_ent zP_157 1 = (0, za_i2s 2)) (ze_i2s rfl)
  replace b := zz_fw b T9 (rfl : zz_ent zP_157 2 = (0, za_istore 3 3)) (ze_istore (lv' := [(0, _), (1, _), (2, _)]) rfl)
  replace b := zz_fw b T9 (rfl : zz_ent zP_157 3 = (0, za_const (.ref 2000002) 6)) (ze_const)
  replace b := zz_fw b T9 (rfl : zz_ent zP_157 6 = (0, za_iload 2 7)) (ze_iload rfl)
  replace b := zz_fw b T9 (rfl : zz_ent zP_157 7 = (0, za_kl (zz_ki zS2) 8)) (ze_kl (by rw [zz_nI_ofNat (by omega)]; exact q1) rfl)
  replace b := zz_fw b T9 (rfl : zz_ent zP_157 8 = (0, za_tsw (0) (14) 337 [84, 98, 123, 137, 149, 161, 337, 173, 190, 190, 226, 248, 286, 305, 324])) (ze_tsw_k (t := 324) (by decide) (by decide))
  replace b := zz_fw b T9 (rfl : zz_ent zP_157 324 = (0, za_aload 0 325)) (ze_aload rfl)
  replace b := zz_fw b T9 (rfl : zz_ent zP_157 325 = (0, za_const (.int (Int32.ofNat 32)) 327)) (ze_const)
  replace b := zz_fw b T9 (rfl : zz_ent zP_157 327 = (0, za_iload 1 328)) (ze_iload rfl)
  replace b := zz_fw b T9 (rfl : zz_ent zP_157 328 = (0, za_const (.int (Int32.ofNat 67108863)) 330)) (ze_const)
  replace b := zz_fw b T9 (rfl : zz_ent zP_157 330 = (0, za_iand 331)) (ze_iand (zF_lo p0 26 67108863 (by decide) rfl))
  obtain ⟨w1, hM1, hB1⟩ := zL_amt (d := d + 3) (l := l) (D := D) (cy := cy) (sp := sp) hG hP hsp hB (p0 := Int32.ofNat (zF p0 0 26)) (a := 32) (by decide) (by (try simp only [List.length_append, List.length_singleton, List.length_cons, List.length_nil]); omega)
  replace b := zz_fVv b TK (rfl : zz_ent zP_157 331 = (0, za_callV 3 297 2 334)) hM1 rfl rfl (zB_12 hB) (zz_lb rfl)
  replace b := zz_fw b T9 (rfl : zz_ent zP_157 334 = (0, za_goto 337)) (ze_goto)
  have m := zz_M_B (yn := zYN) (cn := zCN) (ml := zMQ) (rt := zRT) (y := 157) (as := [.ref 12, .int p0, .int (Int32.ofNat f)]) rfl rfl rfl rfl rfl (by decide +kernel) (zz_lb rfl) (zz_lb rfl) (zz_end_v (zr_157.1 337 rfl).1) b
  exact ⟨_, m, by show zB W0 (T ++ ([32] ++ zdc (Int32.ofNat (zF p0 0 26)))) _; simp only [List.append_assoc] at hB1 ⊢; exact hB1⟩
theorem zL_op {W0 : zz_W} {l : Launch} {D : va_G} {cy : Nat → ClassId} {z0 : Nat} {sp : Nat → Nat} {G : State → Prop} {d : Nat} (hG : zz_GF z0 G) (hP : ∀ U, G U → zz_GD zS zS2 zLg z0 sp U) (hsp : sp 18446744073709551616 = 0) {T : List Nat} {w : zz_W} (hB : zB W0 T w) {p0 : Int32} {f fo : Nat} (h51 : f < 51) (q1 : zz_ki zS2 2000002 f = some fo) (l1 : fo < 15) (hT : T.length ≤ 7) : ∃ w', zz_M l zTs D zcl zFK cy z0 sp (zTys cy) G zYN zCN zMQ zRT (d + 11) 157 [.ref 12, .int p0, .int (Int32.ofNat f)] w [] w' ∧ zB W0 (T ++ zOp fo p0) w' := by
  match fo, l1, q1 with
  | 0, _, q1 => exact zL_op_0 hG hP hsp hB h51 q1 hT
  | 1, _, q1 => exact zL_op_1 hG hP hsp hB h51 q1 hT
  | 2, _, q1 => exact zL_op_2 hG hP hsp hB h51 q1 hT
  | 3, _, q1 => exact zL_op_3 hG hP hsp hB h51 q1 hT
  | 4, _, q1 => exact zL_op_4 hG hP hsp hB h51 q1 hT
  | 5, _, q1 => exact zL_op_5 hG hP hsp hB h51 q1 hT
  | 6, _, q1 => exact zL_op_6 hG hP hsp hB h51 q1 hT
  | 7, _, q1 => exact zL_op_7 hG hP hsp hB h51 q1 hT
  | 8, _, q1 => exact zL_op_8 hG hP hsp hB h51 q1 hT
  | 9, _, q1 => exact zL_op_9 hG hP hsp hB h51 q1 hT
  | 10, _, q1 => exact zL_op_10 hG hP hsp hB h51 q1 hT
  | 11, _, q1 => exact zL_op_11 hG hP hsp hB h51 q1 hT
  | 12, _, q1 => exact zL_op_12 hG hP hsp hB h51 q1 hT
  | 13, _, q1 => exact zL_op_13 hG hP hsp hB h51 q1 hT
  | 14, _, q1 => exact zL_op_14 hG hP hsp hB h51 q1 hT
  | _ + 15, l1, _ => exact absurd l1 (by omega)
end
section
/-! listing of the class, by program -/
/-- form, fixed bits and base of the class's instruction f -/
def zFo (f : Nat) : Nat := (zz_ki zS2 2000002 f).getD 0
def zFx (f : Nat) : Nat := (zz_ki zS2 2000003 (zFo f)).getD 0
def zBa (f : Nat) : Nat := (zz_ki zS2 2000004 f).getD 0
theorem zFo_all : (List.range 51).all (fun f => decide (zz_ki zS2 2000002 f = some (zFo f)) && (decide (zz_ki zS2 2000003 (zFo f) = some (zFx f)) && (decide (zz_ki zS2 2000004 f = some (zBa f)) && Nat.blt (zFo f) 15))) = true := by decide +kernel
theorem zFo_ok {f : Nat} (h : f < 51) : zz_ki zS2 2000002 f = some (zFo f) ∧ zz_ki zS2 2000003 (zFo f) = some (zFx f) ∧ zz_ki zS2 2000004 f = some (zBa f) ∧ zFo f < 15 := by
  have h1 := List.all_eq_true.mp zFo_all f (List.mem_range.mpr h)
  obtain ⟨a, h1⟩ := zz_and h1
  obtain ⟨b, h1⟩ := zz_and h1
  obtain ⟨c, e⟩ := zz_and h1
  exact ⟨of_decide_eq_true a, of_decide_eq_true b, of_decide_eq_true c, zz_blt e⟩
/-- the class takes the word p for its instruction f -/
def zcK (p : Int32) (f : Nat) : Prop := zcf p = f ∧ f < 51 ∧ p &&& Int32.ofNat (zFx f) = Int32.ofNat (zBa f)
theorem zcf_14 : (List.range 64).all (fun i => Nat.blt (zz_at 32 zc_14 i) 51 || Nat.beq (zz_at 32 zc_14 i) 4294967295) = true := by decide +kernel
theorem zcf_13 : (List.range 64).all (fun i => Nat.blt (zz_at 32 zc_13 i) 51 || Nat.beq (zz_at 32 zc_13 i) 4294967295) = true := by decide +kernel
theorem zcf_15 : (List.range 32).all (fun i => Nat.blt (zz_at 32 zc_15 i) 51 || Nat.beq (zz_at 32 zc_15 i) 4294967295) = true := by decide +kernel
theorem zz_or51 {a : Nat} (h : (Nat.blt a 51 || Nat.beq a 4294967295) = true) : a < 51 ∨ a = 4294967295 := by
  rcases Bool.or_eq_true_iff.mp h with h | h
  · exact Or.inl (zz_blt h)
  · exact Or.inr (Nat.eq_of_beq_eq_true h)
theorem zcf_51 (p : Int32) : zcf p < 51 ∨ zcf p = 4294967295 := by
  unfold zcf
  split
  · exact zz_or51 (List.all_eq_true.mp zcf_14 _ (List.mem_range.mpr (zF_lt p 0 6)))
  · split
    · exact zz_or51 (List.all_eq_true.mp zcf_15 _ (List.mem_range.mpr (zF_lt p 16 5)))
    · exact zz_or51 (List.all_eq_true.mp zcf_13 _ (List.mem_range.mpr (zF_lt p 26 6)))
theorem zD_y {W0 : zz_W} {l : Launch} {D : va_G} {cy : Nat → ClassId} {z0 : Nat} {sp : Nat → Nat} {G : State → Prop} {d : Nat} (hG : zz_GF z0 G) (hP : ∀ U, G U → zz_GD zS zS2 zLg z0 sp U) (hsp : sp 18446744073709551616 = 0) {v N M c : Nat} {w : zz_W} (r : zBr W0 v N M c w) {p0 : Int32} {f : Nat} (h : zcK p0 f) : zz_M l zTs D zcl zFK cy z0 sp (zTys cy) G zYN zCN zMQ zRT (d + 1) 153 [.ref 12, .int p0] w [.int (Int32.ofNat f)] w := by
  obtain ⟨h1, h51, h2⟩ := h
  obtain ⟨q1, q2, q3, l1⟩ := zFo_ok h51
  unfold zcf at h1
  split at h1
  · rename_i ho
    exact zD_0k hG hP hsp r ho h1 h51 l1 q1 q2 q3 h2
  · rename_i h0
    split at h1
    · rename_i ho
      exact zD_1k hG hP hsp r ho h1 h51 l1 q1 q2 q3 h2
    · rename_i h9
      exact zD_2k hG hP hsp r h0 h9 h1 h51 l1 q1 q2 q3 h2
theorem zDs_15 : (List.range 32).all (fun i => Nat.beq (zz_at 32 zc_15 i) 4294967295 || (decide (zFx (zz_at 32 zc_15 i) = 4229890048) && decide (zBa (zz_at 32 zc_15 i) = 67108864 + 65536 * i))) = true := by decide +kernel
theorem zI_and2 {n a b : Nat} (ha : a < 2 ^ 32) : zz_nI (Int32.ofNat a) = a := zz_nI_ofNat ha
theorem zD_1a {p : Int32} (ho : zF p 26 6 = 1) : p &&& Int32.ofNat 4229890048 = Int32.ofNat (67108864 + 65536 * zF p 16 5) := by
  have h5 := zF_lt p 16 5
  have hp := zz_nI_lt p
  apply zI_eq
  rw [zI_and, zz_nI_ofNat (by decide), zz_nI_ofNat (by omega)]
  unfold zF at ho h5 ⊢
  generalize zz_nI p = n at *
  have e : n = 2 ^ 26 * 1 + (2 ^ 21 * (n / 2 ^ 21 % 2 ^ 5) + (2 ^ 16 * (n / 2 ^ 16 % 2 ^ 5) + n % 2 ^ 16)) := by omega
  apply Nat.eq_of_testBit_eq
  intro i
  rw [Nat.testBit_and]
  by_cases h16 : i < 16
  · have a1 : Nat.testBit 4229890048 i = false := by
      have : ∀ i, i < 16 → Nat.testBit 4229890048 i = false := by decide
      exact this i h16
    have a2 : Nat.testBit (67108864 + 65536 * (n / 2 ^ 16 % 2 ^ 5)) i = false := by
      rw [show 67108864 + 65536 * (n / 2 ^ 16 % 2 ^ 5) = 2 ^ 16 * (1024 + n / 2 ^ 16 % 2 ^ 5) by omega, Nat.testBit_two_pow_mul]
      simp
      omega
    rw [a1, a2, Bool.and_false]
  · obtain ⟨k, rfl⟩ : ∃ k, i = k + 16 := ⟨i - 16, by omega⟩
    rw [show 67108864 + 65536 * (n / 2 ^ 16 % 2 ^ 5) = 2 ^ 16 * (1024 + n / 2 ^ 16 % 2 ^ 5) by omega, Nat.testBit_two_pow_mul]
    have b1 : Nat.testBit n (k + 16) = Nat.testBit (n / 2 ^ 16) k := by rw [Nat.testBit_div_two_pow]
    have b2 : Nat.testBit 4229890048 (k + 16) = Nat.testBit 64543 k := by
      rw [show (64543 : Nat) = 4229890048 / 2 ^ 16 by decide, Nat.testBit_div_two_pow]
    rw [b1, b2, ← Nat.testBit_and]
    have c : ∀ a, a < 32 → ∀ b, b < 32 → (2 ^ 10 * 1 + (2 ^ 5 * a + b)) &&& 64543 = 1024 + b := by decide +kernel
    have d1 : n / 2 ^ 16 = 2 ^ 10 * 1 + (2 ^ 5 * (n / 2 ^ 21 % 2 ^ 5) + n / 2 ^ 16 % 2 ^ 5) := by omega
    have d2 := c (n / 2 ^ 21 % 2 ^ 5) (by omega) (n / 2 ^ 16 % 2 ^ 5) (by omega)
    rw [← d1] at d2
    rw [d2]
    simp
theorem zD_n {W0 : zz_W} {l : Launch} {D : va_G} {cy : Nat → ClassId} {z0 : Nat} {sp : Nat → Nat} {G : State → Prop} {d : Nat} (hG : zz_GF z0 G) (hP : ∀ U, G U → zz_GD zS zS2 zLg z0 sp U) (hsp : sp 18446744073709551616 = 0) {v N M c : Nat} {w : zz_W} (r : zBr W0 v N M c w) {p0 : Int32} (h : ∀ f, ¬ zcK p0 f) : zz_M l zTs D zcl zFK cy z0 sp (zTys cy) G zYN zCN zMQ zRT (d + 1) 153 [.ref 12, .int p0] w [.int (Int32.ofNat 4294967295)] w := by
  have h0 := h (zcf p0)
  have h51 := zcf_51 p0
  generalize e : zcf p0 = f at h0 h51
  have e2 := e
  unfold zcf at e
  rcases h51 with h51 | h51
  · have h2 : ¬ p0 &&& Int32.ofNat (zFx f) = Int32.ofNat (zBa f) := fun q => h0 ⟨e2, h51, q⟩
    obtain ⟨q1, q2, q3, l1⟩ := zFo_ok h51
    split at e
    · rename_i ho
      exact zD_0x hG hP hsp r ho e h51 l1 q1 q2 q3 h2
    · rename_i ha
      split at e
      · rename_i ho
        have h5 := zF_lt p0 16 5
        have h6 := List.all_eq_true.mp zDs_15 _ (List.mem_range.mpr h5)
        rw [e] at h6
        rcases Bool.or_eq_true_iff.mp h6 with h7 | h7
        · have := Nat.eq_of_beq_eq_true h7
          omega
        · obtain ⟨a, b⟩ := zz_and h7
          have a := of_decide_eq_true a
          have b := of_decide_eq_true b
          exact absurd (by rw [a, b]; exact zD_1a ho) h2
      · rename_i h9
        exact zD_2x hG hP hsp r ha h9 e h51 l1 q1 q2 q3 h2
  · split at e
    · rename_i ho
      exact zD_0n hG hP hsp r ho e h51
    · rename_i ha
      split at e
      · rename_i ho
        exact zD_1n hG hP hsp r ho e h51
      · rename_i h9
        exact zD_2n hG hP hsp r ha h9 e h51
theorem zls_callK {g : Nat → Bool} {y na b n p : Nat} {K : zz_K} {lv : List (Nat × Value)} {as st r rv : List Value} {w w' : zz_W} (hst : st = as.reverse ++ .ref b :: r) (hna : as.length = na) (hb : g b = true) (hr : zz_cs r ≤ 8) (hrv : rv.length ≤ 1) (hK : K y (.ref b :: as) w = some (rv, w')) : za_callK g y na n K (p, lv, st, w) = some (n, lv, rv ++ r, w') := by
  subst hst
  unfold za_callK
  show zz_tk na (as.reverse ++ .ref b :: r) [] _ = _
  rw [zz_tk_eq hna]
  show cond (g b && Nat.ble (zz_cs r) 8) (zz_cr n lv r (K y (.ref b :: (as ++ [])) w)) none = _
  rw [List.append_nil, hb, Nat.ble_eq.mpr hr, hK]
  exact zz_cr_eq hrv
theorem zls_copyK {ge : Nat → Nat → Option Nat} {t a b lb Nb N' n p : Nat} {K : zz_K} {lv : List (Nat × Value)} {st : List Value} {w : zz_W} {i j k : Int32} (hs : zz_sh w) (hb : zz_has w b (0, t, lb, Nb)) (h7 : zz_k7 ge a (zz_nI i) (zz_nI k) = true) (h2 : zz_nI j + zz_nI k ≤ lb) (h4 : lb < 2147483648) (h5 : 0 < zz_nI k) (h6 : zz_nI i = 0) (hr : zz_cs st ≤ 8) (hN : zz_cp 32 (zz_kN ge a (zz_nI i) (zz_nI k)) Nb 0 (zz_nI j) (zz_nI k) = N') : za_copyK ge t n K (p, lv, .int k :: .int j :: .ref b :: .int i :: .ref a :: st, w) = some (n, lv, st, zz_up w b (0, t, lb, N')) := by
  subst hN
  unfold za_copyK
  obtain ⟨c1, c2⟩ := zz_has_b hb
  have e2 : zz_ik w b t (zz_nI j) (zz_nI k) = true := by
    unfold zz_ik
    rw [c1, c2, hb.2.2]
    show (true && (true && (Nat.beq 0 0 && (Nat.beq t t && (Nat.ble (zz_nI j + zz_nI k) lb && Nat.blt lb 2147483648))))) = true
    rw [Nat.beq_refl t, show Nat.ble (zz_nI j + zz_nI k) lb = true from Nat.ble_eq.mpr h2, show Nat.blt lb 2147483648 = true from Nat.ble_eq.mpr h4]
    rfl
  show cond (zz_k7 ge a (zz_nI i) (zz_nI k) && (zz_ik w b t (zz_nI j) (zz_nI k) && (Nat.ble (zz_cs st) 8 && (Nat.blt 0 (zz_nI k) && Nat.beq (zz_nI i) 0)))) (zz_fN (zz_cp 32 (zz_kN ge a (zz_nI i) (zz_nI k)) (zz_g w b).2.2.2 0 (zz_nI j) (zz_nI k)) (fun N => zz_st w b (0, t, (zz_g w b).2.2.1, N) none (fun w' => some ((n, lv, st, w') : zz_F)))) none = _
  rw [h7, e2, show Nat.ble (zz_cs st) 8 = true from Nat.ble_eq.mpr hr, show Nat.blt 0 (zz_nI k) = true from Nat.ble_eq.mpr h5, show Nat.beq (zz_nI i) 0 = true from Nat.beq_eq.mpr h6, hb.2.2, zz_fN_eq, zz_up_st hs hb.2.1]
  rfl
section ZLSK
variable {l : Launch} {Ts : List Cond} {D : va_G} {cl : List vw_C} {fk : Nat → Nat → Nat} {cy : Nat → ClassId} {z0 : Nat} {sp : Nat → Nat} {tys : List (ClassId × FieldType)} {G : State → Prop} {own mn : String} {nL : Nat} {cc : ByteArray} {d : Nat} {pc : Nat}
variable {yn : Nat → MethodName} {cn : Nat → ByteArray} {ml : Nat → Nat} {rt : Nat → Option FieldType} {f : zz_F}
theorem zls_end_b {v : Int32} (hd : decode cc pc = .ok (.ireturn, 1)) (hv : zz_nI v < 128) : zz_end l z0 sp cc (some .byte) pc [.int v] [.int v] :=
  fun _ _ _ _ _ _ _ _ _ _ _ _ _ _ _ _ hx hb hr hlocks hq hf => W.zret (ty := .byte) hx hb hr (by rw [← zz_nI_of v]; exact zz_nb _ hv) hq hf hd hlocks
theorem zls_fKi {T : zz_T} {g : Nat → Bool} {y na n r0 : Nat} {lv : List (Nat × Value)} {st as r : List Value} {v : Value} {w w' : zz_W} (b : zz_B l Ts D cl fk cy z0 sp tys G own mn nL cc d f (pc, lv, st, w)) (hT : ∀ K, zz_KS l D cl fk cy z0 sp tys G yn (fun y => Cond.code (yn y) (cn y) (ml y) (rt y) :: Ts) d K → zz_TO l Ts D cl fk cy z0 sp tys G own mn nL cc d K T) (he : zz_ent T pc = (0, za_callK g y na n))
    (hM : zz_M l Ts D cl fk cy z0 sp tys G yn cn ml rt d y (.ref r0 :: as) w [v] w') (hst : st = as.reverse ++ .ref r0 :: r) (hna : as.length = na) (hb : g r0 = true) (hr : zz_cs r ≤ 8) : zz_B l Ts D cl fk cy z0 sp tys G own mn nL cc d f (n, lv, v :: r, w') :=
  zz_B_tr b (zz_sg (hT _ (zz_k1_KS hM)) he (zls_callK hst hna hb hr hM.2.1 zz_k1_at) (zz_B_rf _))
theorem zls_fKv {T : zz_T} {g : Nat → Bool} {y na n r0 : Nat} {lv : List (Nat × Value)} {st as r : List Value} {w w' : zz_W} (b : zz_B l Ts D cl fk cy z0 sp tys G own mn nL cc d f (pc, lv, st, w)) (hT : ∀ K, zz_KS l D cl fk cy z0 sp tys G yn (fun y => Cond.code (yn y) (cn y) (ml y) (rt y) :: Ts) d K → zz_TO l Ts D cl fk cy z0 sp tys G own mn nL cc d K T) (he : zz_ent T pc = (0, za_callK g y na n))
    (hM : zz_M l Ts D cl fk cy z0 sp tys G yn cn ml rt d y (.ref r0 :: as) w [] w') (hst : st = as.reverse ++ .ref r0 :: r) (hna : as.length = na) (hb : g r0 = true) (hr : zz_cs r ≤ 8) : zz_B l Ts D cl fk cy z0 sp tys G own mn nL cc d f (n, lv, r, w') :=
  zz_B_tr b (zz_sg (hT _ (zz_k1_KS hM)) he (zls_callK hst hna hb hr hM.2.1 zz_k1_at) (zz_B_rf _))
end ZLSK
/-- a row whose first six bytes are the constant's -/
def zls_N (N : Nat) : Nat := zz_cp 32 46768052428617130083643771521932240450523534196782 N 0 0 6
theorem zls_w6 : zz_kN (zz_kb zS) 1000003 0 6 = 46768052428617130083643771521932240450523534196782 := by decide +kernel
theorem zls_k7 : zz_k7 (zz_kb zS) 1000003 0 6 = true := by decide +kernel
theorem zls_i0 : zz_nI (Int32.ofNat 0) = 0 := by decide
theorem zls_i6 : zz_nI (Int32.ofNat 6) = 6 := by decide
theorem zls_b : ∀ j, j < 6 → zz_at 32 46768052428617130083643771521932240450523534196782 j < 128 ∧ zz_at 32 46768052428617130083643771521932240450523534196782 j = ([46, 119, 111, 114, 100, 32] : List Nat).getD j 0 := by decide +kernel
theorem zls_N7 {N : Nat} (h : ∀ j, zz_at 32 N j < 128) (j : Nat) : zz_at 32 (zls_N N) j < 128 := by
  unfold zls_N
  rw [zz_at_cp]
  split
  · rename_i hj
    exact (zls_b _ (by omega)).1
  · exact h j
theorem zls_Nt {N : Nat} : zTx [46, 119, 111, 114, 100, 32] (zls_N N) := by
  intro j hj
  have hj : j < 6 := hj
  unfold zls_N
  rw [zz_at_cp, if_pos (by omega), Nat.sub_zero, Nat.zero_add]
  exact (zls_b j hj).2
theorem zBr_row {W0 : zz_W} {v N M c : Nat} {w : zz_W} (r : zBr W0 v N M c w) {N' : Nat} (h7 : ∀ j, zz_at 32 N' j < 128) : zBr W0 v N' M c (zz_up w v (0, 1, c, N')) := by
  have hv := zBr_v r
  have hw := zBr_w r
  obtain ⟨a1, a2, a3, a4, a5, a6, a7, ⟨a8, a9⟩, a10⟩ := r
  exact ⟨zz_up_sh a1, a2, zz_has_ne a1 (by omega) a3 (by omega), zz_has_up a1 a4, a5, a6, h7, ⟨zFc_of (w := w) (Nat.le_refl _) (fun i hi => zz_up_ne a1 (by omega) (by omega)) a8, a9⟩, fun i h1 h2 h3 => (zz_up_ne a1 (by omega) (by omega)).trans (a10 i h1 h2 h3)⟩
theorem zLs_cod {l : Launch} {D : va_G} {cy : Nat → ClassId} {z0 : Nat} {sp : Nat → Nat} {G : State → Prop} {d : Nat} (hG : zz_GF z0 G) (hP : ∀ U, G U → zz_GD zS zS2 zLg z0 sp U) (hsp : sp 18446744073709551616 = 0) {w : zz_W} : zz_M l zTs D zcl zFK cy z0 sp (zTys cy) G zYN zCN zMQ zRT (d + 1) 117 [.ref 1000002] w [.int (Int32.ofNat 0)] w := by
  have T := zt_117 (l := l) (D := D) (cy := cy) (z0 := z0) (sp := sp) (G := G) (d := d) zz_k0_KS hG hP
  have TK := fun (K : zz_K) (h : zz_KS l D zcl zFK cy z0 sp (zTys cy) G zYN (fun y => Cond.code (zYN y) (zCN y) (zMQ y) (zRT y) :: zTs) d K) => zt_117 h hG hP
  have b := zz_B_rf (l := l) (Ts := zTs) (D := D) (cl := zcl) (fk := zFK) (cy := cy) (z0 := z0) (sp := sp) (tys := zTys cy) (G := G) (own := "java/lang/String") (mn := "coder") (nL := 1) (cc := prog_26_method_152_code) (d := d) ((0, [(0, .ref 1000002)], [], w) : zz_F)
  replace b := zz_fw b T (rfl : zz_ent zP_117 0 = (0, za_const (.int (Int32.ofNat 1)) 3)) (ze_const)
  replace b := zz_fw b T (rfl : zz_ent zP_117 3 = (0, za_if_eq 13 6)) (ze_if_eq_f (by decide))
  replace b := zz_fw b T (rfl : zz_ent zP_117 6 = (0, za_aload 0 7)) (ze_aload rfl)
  replace b := zz_fw b T (rfl : zz_ent zP_117 7 = (0, za_kf (zz_kc zS) 10)) (ze_kf (v := .int (Int32.ofNat 0)) rfl)
  replace b := zz_fw b T (rfl : zz_ent zP_117 10 = (0, za_goto 14)) (ze_goto)
  have m := zz_M_B (yn := zYN) (cn := zCN) (ml := zMQ) (rt := zRT) (y := 117) (as := [.ref 1000002]) rfl rfl rfl rfl rfl (by decide +kernel) (zz_lb rfl) (zz_lb rfl) (zls_end_b (zr_117.2.2.2.2.2.2 14 rfl).1 (by decide)) b
  exact m
theorem zLs_len {l : Launch} {D : va_G} {cy : Nat → ClassId} {z0 : Nat} {sp : Nat → Nat} {G : State → Prop} {d : Nat} (hG : zz_GF z0 G) (hP : ∀ U, G U → zz_GD zS zS2 zLg z0 sp U) (hsp : sp 18446744073709551616 = 0) {w : zz_W} : zz_M l zTs D zcl zFK cy z0 sp (zTys cy) G zYN zCN zMQ zRT (d + 2) 58 [.ref 1000002] w [.int (Int32.ofNat 6)] w := by
  have T := zt_58 (l := l) (D := D) (cy := cy) (z0 := z0) (sp := sp) (G := G) (d := (d + 1)) zz_k0_KS hG hP
  have TK := fun (K : zz_K) (h : zz_KS l D zcl zFK cy z0 sp (zTys cy) G zYN (fun y => Cond.code (zYN y) (zCN y) (zMQ y) (zRT y) :: zTs) (d + 1) K) => zt_58 h hG hP
  have b := zz_B_rf (l := l) (Ts := zTs) (D := D) (cl := zcl) (fk := zFK) (cy := cy) (z0 := z0) (sp := sp) (tys := zTys cy) (G := G) (own := "java/lang/String") (mn := "length") (nL := 1) (cc := prog_26_method_54_code) (d := (d + 1)) ((0, [(0, .ref 1000002)], [], w) : zz_F)
  replace b := zz_fw b T (rfl : zz_ent zP_58 0 = (0, za_aload 0 1)) (ze_aload rfl)
  replace b := zz_fw b T (rfl : zz_ent zP_58 1 = (0, za_kf (zz_kv zS) 4)) (ze_kf (v := .ref 1000003) rfl)
  replace b := zz_fw b T (rfl : zz_ent zP_58 4 = (0, za_kn (zz_kn zS zS2) 5)) (ze_kn (v := Int32.ofNat 6) (q := 6) rfl rfl)
  replace b := zz_fw b T (rfl : zz_ent zP_58 5 = (0, za_aload 0 6)) (ze_aload rfl)
  replace b := zls_fKi b TK (rfl : zz_ent zP_58 6 = (0, za_callK (zz_kg zS) 117 0 9)) (zLs_cod (d := d) hG hP hsp) rfl rfl (rfl : zz_kg zS 1000002 = true) (zz_lb rfl)
  replace b := zz_fw b T (rfl : zz_ent zP_58 9 = (0, za_ishr 10)) (ze_ishr (by decide : _ = Int32.ofNat 6))
  have m := zz_M_B (yn := zYN) (cn := zCN) (ml := zMQ) (rt := zRT) (y := 58) (as := [.ref 1000002]) rfl rfl rfl rfl rfl (by decide +kernel) (zz_lb rfl) (zz_lb rfl) (zz_end_i (zr_58.2.1 10 rfl).1) b
  exact m
theorem zLs_gb {l : Launch} {D : va_G} {cy : Nat → ClassId} {z0 : Nat} {sp : Nat → Nat} {G : State → Prop} {d : Nat} (hG : zz_GF z0 G) (hP : ∀ U, G U → zz_GD zS zS2 zLg z0 sp U) (hsp : sp 18446744073709551616 = 0) {W0 : zz_W} {v N M c : Nat} {w : zz_W} (r : zBr W0 v N M c w) : zz_M l zTs D zcl zFK cy z0 sp (zTys cy) G zYN zCN zMQ zRT (d + 2) 497 [.ref 1000002, .ref v, .int (Int32.ofNat 0), .int (Int32.ofNat 0)] w [] (zz_up w v (0, 1, c, zls_N N)) := by
  have T := zt_497 (l := l) (D := D) (cy := cy) (z0 := z0) (sp := sp) (G := G) (d := (d + 1)) zz_k0_KS hG hP
  have TK := fun (K : zz_K) (h : zz_KS l D zcl zFK cy z0 sp (zTys cy) G zYN (fun y => Cond.code (zYN y) (zCN y) (zMQ y) (zRT y) :: zTs) (d + 1) K) => zt_497 h hG hP
  have b := zz_B_rf (l := l) (Ts := zTs) (D := D) (cl := zcl) (fk := zFK) (cy := cy) (z0 := z0) (sp := sp) (tys := zTys cy) (G := G) (own := "java/lang/String") (mn := "getBytes") (nL := 4) (cc := prog_26_method_147_code) (d := (d + 1)) ((0, [(0, .ref 1000002), (1, .ref v), (2, .int (Int32.ofNat 0)), (3, .int (Int32.ofNat 0))], [], w) : zz_F)
  replace b := zz_fw b T (rfl : zz_ent zP_497 0 = (0, za_aload 0 1)) (ze_aload rfl)
  replace b := zls_fKi b TK (rfl : zz_ent zP_497 1 = (0, za_callK (zz_kg zS) 117 0 4)) (zLs_cod (d := d) hG hP hsp) rfl rfl (rfl : zz_kg zS 1000002 = true) (zz_lb rfl)
  replace b := zz_fw b T (rfl : zz_ent zP_497 4 = (0, za_iload 3 5)) (ze_iload rfl)
  replace b := zz_fw b T (rfl : zz_ent zP_497 5 = (0, za_icmp_ne 28 8)) (ze_icmp_ne_f (by decide))
  replace b := zz_fw b T (rfl : zz_ent zP_497 8 = (0, za_aload 0 9)) (ze_aload rfl)
  replace b := zz_fw b T (rfl : zz_ent zP_497 9 = (0, za_kf (zz_kv zS) 12)) (ze_kf (v := .ref 1000003) rfl)
  replace b := zz_fw b T (rfl : zz_ent zP_497 12 = (0, za_const (.int (Int32.ofNat 0)) 13)) (ze_const)
  replace b := zz_fw b T (rfl : zz_ent zP_497 13 = (0, za_aload 1 14)) (ze_aload rfl)
  replace b := zz_fw b T (rfl : zz_ent zP_497 14 = (0, za_iload 2 15)) (ze_iload rfl)
  replace b := zz_fw b T (rfl : zz_ent zP_497 15 = (0, za_iload 3 16)) (ze_iload rfl)
  replace b := zz_fw b T (rfl : zz_ent zP_497 16 = (0, za_ishl 17)) (ze_ishl (by decide : _ = Int32.ofNat 0))
  replace b := zz_fw b T (rfl : zz_ent zP_497 17 = (0, za_aload 0 18)) (ze_aload rfl)
  replace b := zz_fw b T (rfl : zz_ent zP_497 18 = (0, za_kf (zz_kv zS) 21)) (ze_kf (v := .ref 1000003) rfl)
  replace b := zz_fw b T (rfl : zz_ent zP_497 21 = (0, za_kn (zz_kn zS zS2) 22)) (ze_kn (v := Int32.ofNat 6) (q := 6) rfl rfl)
  replace b := zz_fw b T (rfl : zz_ent zP_497 22 = (0, za_copyK (zz_kb zS) 1 25)) (zls_copyK (N' := zls_N N) (zBr_sh r) (zBr_V r) zls_k7 (by have h := zBr_c r; rw [zls_i0, zls_i6]; omega) (by have h := zBr_c r; omega) (by decide) zls_i0 (zz_lb rfl) (by rw [zls_i0, zls_i6, zls_w6]; rfl))
  replace b := zz_fw b T (rfl : zz_ent zP_497 25 = (0, za_goto 43)) (ze_goto)
  have m := zz_M_B (yn := zYN) (cn := zCN) (ml := zMQ) (rt := zRT) (y := 497) (as := [.ref 1000002, .ref v, .int (Int32.ofNat 0), .int (Int32.ofNat 0)]) rfl rfl rfl rfl rfl (by decide +kernel) (zz_lb rfl) (zz_lb rfl) (zz_end_v (zr_497.1 43 rfl).1) b
  exact m
theorem zLs_inf {l : Launch} {D : va_G} {cy : Nat → ClassId} {z0 : Nat} {sp : Nat → Nat} {G : State → Prop} {d : Nat} (hG : zz_GF z0 G) (hP : ∀ U, G U → zz_GD zS zS2 zLg z0 sp U) (hsp : sp 18446744073709551616 = 0) {W0 : zz_W} {v N M c : Nat} {w : zz_W} (r : zBr W0 v N M c w) : zz_M l zTs D zcl zFK cy z0 sp (zTys cy) G zYN zCN zMQ zRT (d + 2) 496 [.ref 16, .ref 1000002] w [] w := by
  have T := zt_496 (l := l) (D := D) (cy := cy) (z0 := z0) (sp := sp) (G := G) (d := (d + 1)) zz_k0_KS hG hP
  have TK := fun (K : zz_K) (h : zz_KS l D zcl zFK cy z0 sp (zTys cy) G zYN (fun y => Cond.code (zYN y) (zCN y) (zMQ y) (zRT y) :: zTs) (d + 1) K) => zt_496 h hG hP
  have b := zz_B_rf (l := l) (Ts := zTs) (D := D) (cl := zcl) (fk := zFK) (cy := cy) (z0 := z0) (sp := sp) (tys := zTys cy) (G := G) (own := "java/lang/AbstractStringBuilder") (mn := "inflateIfNeededFor") (nL := 2) (cc := prog_15_method_71_code) (d := (d + 1)) ((0, [(0, .ref 16), (1, .ref 1000002)], [], w) : zz_F)
  replace b := zz_fw b T (rfl : zz_ent zP_496 0 = (0, za_const (.int (Int32.ofNat 1)) 3)) (ze_const)
  replace b := zz_fw b T (rfl : zz_ent zP_496 3 = (0, za_if_eq 21 6)) (ze_if_eq_f (by decide))
  replace b := zz_fw b T (rfl : zz_ent zP_496 6 = (0, za_aload 0 7)) (ze_aload rfl)
  replace b := zz_fw b T (rfl : zz_ent zP_496 7 = (0, za_getI 13 1 10)) (ze_getI (zBr_16 r) (by decide) (congrArg Int32.ofNat (zBr_co r)))
  replace b := zz_fw b T (rfl : zz_ent zP_496 10 = (0, za_aload 1 11)) (ze_aload rfl)
  replace b := zls_fKi b TK (rfl : zz_ent zP_496 11 = (0, za_callK (zz_kg zS) 117 0 14)) (zLs_cod (d := d) hG hP hsp) rfl rfl (rfl : zz_kg zS 1000002 = true) (zz_lb rfl)
  replace b := zz_fw b T (rfl : zz_ent zP_496 14 = (0, za_icmp_eq 21 17)) (ze_icmp_eq_t rfl)
  have m := zz_M_B (yn := zYN) (cn := zCN) (ml := zMQ) (rt := zRT) (y := 496) (as := [.ref 16, .ref 1000002]) rfl rfl rfl rfl rfl (by decide +kernel) (zz_lb rfl) (zz_lb rfl) (zz_end_v (zr_496.1 21 rfl).1) b
  exact m
theorem zLs_put {l : Launch} {D : va_G} {cy : Nat → ClassId} {z0 : Nat} {sp : Nat → Nat} {G : State → Prop} {d : Nat} (hG : zz_GF z0 G) (hP : ∀ U, G U → zz_GD zS zS2 zLg z0 sp U) (hsp : sp 18446744073709551616 = 0) {W0 : zz_W} {v N M c : Nat} {w : zz_W} (r : zBr W0 v N M c w) : zz_M l zTs D zcl zFK cy z0 sp (zTys cy) G zYN zCN zMQ zRT (d + 3) 417 [.ref 16, .int (Int32.ofNat 0), .ref 1000002] w [] (zz_up w v (0, 1, c, zls_N N)) := by
  have T := zt_417 (l := l) (D := D) (cy := cy) (z0 := z0) (sp := sp) (G := G) (d := (d + 2)) zz_k0_KS hG hP
  have TK := fun (K : zz_K) (h : zz_KS l D zcl zFK cy z0 sp (zTys cy) G zYN (fun y => Cond.code (zYN y) (zCN y) (zMQ y) (zRT y) :: zTs) (d + 2) K) => zt_417 h hG hP
  have b := zz_B_rf (l := l) (Ts := zTs) (D := D) (cl := zcl) (fk := zFK) (cy := cy) (z0 := z0) (sp := sp) (tys := zTys cy) (G := G) (own := "java/lang/AbstractStringBuilder") (mn := "putStringAt") (nL := 3) (cc := prog_15_method_73_code) (d := (d + 2)) ((0, [(0, .ref 16), (1, .int (Int32.ofNat 0)), (2, .ref 1000002)], [], w) : zz_F)
  replace b := zz_fw b T (rfl : zz_ent zP_417 0 = (0, za_aload 0 1)) (ze_aload rfl)
  replace b := zz_fw b T (rfl : zz_ent zP_417 1 = (0, za_aload 2 2)) (ze_aload rfl)
  replace b := zz_fVv b TK (rfl : zz_ent zP_417 2 = (0, za_callV 13 496 1 5)) (zLs_inf (d := d) hG hP hsp r) rfl rfl (zz_has_c (zBr_16 r)) (zz_lb rfl)
  replace b := zz_fw b T (rfl : zz_ent zP_417 5 = (0, za_aload 2 6)) (ze_aload rfl)
  replace b := zz_fw b T (rfl : zz_ent zP_417 6 = (0, za_aload 0 7)) (ze_aload rfl)
  replace b := zz_fw b T (rfl : zz_ent zP_417 7 = (0, za_getA 13 0 10)) (ze_getA (zBr_16 r) (by decide) (zBr_va r))
  replace b := zz_fw b T (rfl : zz_ent zP_417 10 = (0, za_iload 1 11)) (ze_iload rfl)
  replace b := zz_fw b T (rfl : zz_ent zP_417 11 = (0, za_aload 0 12)) (ze_aload rfl)
  replace b := zz_fw b T (rfl : zz_ent zP_417 12 = (0, za_getI 13 1 15)) (ze_getI (zBr_16 r) (by decide) (congrArg Int32.ofNat (zBr_co r)))
  replace b := zls_fKv b TK (rfl : zz_ent zP_417 15 = (0, za_callK (zz_kg zS) 497 3 18)) (zLs_gb (d := d) hG hP hsp r) rfl rfl (rfl : zz_kg zS 1000002 = true) (zz_lb rfl)
  have m := zz_M_B (yn := zYN) (cn := zCN) (ml := zMQ) (rt := zRT) (y := 417) (as := [.ref 16, .int (Int32.ofNat 0), .ref 1000002]) rfl rfl rfl rfl rfl (by decide +kernel) (zz_lb rfl) (zz_lb rfl) (zz_end_v (zr_417.1 18 rfl).1) b
  exact m
theorem zLs_apA {l : Launch} {D : va_G} {cy : Nat → ClassId} {z0 : Nat} {sp : Nat → Nat} {G : State → Prop} {d : Nat} (hG : zz_GF z0 G) (hP : ∀ U, G U → zz_GD zS zS2 zLg z0 sp U) (hsp : sp 18446744073709551616 = 0) {W0 w : zz_W} (hB : zB W0 [] w) : ∃ w', zz_M l zTs D zcl zFK cy z0 sp (zTys cy) G zYN zCN zMQ zRT (d + 5) 293 [.ref 16, .ref 1000002] w [.ref 16] w' ∧ zB W0 [46, 119, 111, 114, 100, 32] w' := by
  obtain ⟨v, N, M, c, r, hn, -, -⟩ := hB
  replace hn : zz_at 64 M 3 = 0 := hn
  have T := zt_293 (l := l) (D := D) (cy := cy) (z0 := z0) (sp := sp) (G := G) (d := (d + 4)) zz_k0_KS hG hP
  have TK := fun (K : zz_K) (h : zz_KS l D zcl zFK cy z0 sp (zTys cy) G zYN (fun y => Cond.code (zYN y) (zCN y) (zMQ y) (zRT y) :: zTs) (d + 4) K) => zt_293 h hG hP
  have b := zz_B_rf (l := l) (Ts := zTs) (D := D) (cl := zcl) (fk := zFK) (cy := cy) (z0 := z0) (sp := sp) (tys := zTys cy) (G := G) (own := "java/lang/AbstractStringBuilder") (mn := "append") (nL := 3) (cc := prog_15_method_22_code) (d := (d + 4)) ((0, [(0, .ref 16), (1, .ref 1000002)], [], w) : zz_F)
  replace b := zz_fw b T (rfl : zz_ent zP_293 0 = (0, za_aload 1 1)) (ze_aload rfl)
  replace b := zz_fw b T (rfl : zz_ent zP_293 1 = (0, za_ifnonnull 9 4)) (ze_ifnonnull_t)
  replace b := zz_fw b T (rfl : zz_ent zP_293 9 = (0, za_aload 1 10)) (ze_aload rfl)
  replace b := zls_fKi b TK (rfl : zz_ent zP_293 10 = (0, za_callK (zz_kg zS) 58 0 13)) (zLs_len (d := d + 2) hG hP hsp) rfl rfl (rfl : zz_kg zS 1000002 = true) (zz_lb rfl)
  replace b := zz_fw b T (rfl : zz_ent zP_293 13 = (0, za_istore 2 14)) (ze_istore (lv' := [(0, _), (1, _)]) rfl)
  replace b := zz_fw b T (rfl : zz_ent zP_293 14 = (0, za_aload 0 15)) (ze_aload rfl)
  replace b := zz_fw b T (rfl : zz_ent zP_293 15 = (0, za_aload 0 16)) (ze_aload rfl)
  replace b := zz_fw b T (rfl : zz_ent zP_293 16 = (0, za_getI 13 3 19)) (ze_getI (zBr_16 r) (by decide) (congrArg Int32.ofNat hn))
  replace b := zz_fw b T (rfl : zz_ent zP_293 19 = (0, za_iload 2 20)) (ze_iload rfl)
  replace b := zz_fw b T (rfl : zz_ent zP_293 20 = (0, za_iadd 21)) (ze_iadd (by decide : _ = Int32.ofNat 6))
  replace b := zz_fVv b TK (rfl : zz_ent zP_293 21 = (0, za_callV 13 412 1 24)) (zL_ens0 (d := d) hG hP hsp r (m := 6) (by have h := zBr_c r; omega)) rfl rfl (zz_has_c (zBr_16 r)) (zz_lb rfl)
  replace b := zz_fw b T (rfl : zz_ent zP_293 24 = (0, za_aload 0 25)) (ze_aload rfl)
  replace b := zz_fw b T (rfl : zz_ent zP_293 25 = (0, za_aload 0 26)) (ze_aload rfl)
  replace b := zz_fw b T (rfl : zz_ent zP_293 26 = (0, za_getI 13 3 29)) (ze_getI (zBr_16 r) (by decide) (congrArg Int32.ofNat hn))
  replace b := zz_fw b T (rfl : zz_ent zP_293 29 = (0, za_aload 1 30)) (ze_aload rfl)
  replace b := zz_fVv b TK (rfl : zz_ent zP_293 30 = (0, za_callV 13 417 2 33)) (zLs_put (d := d + 1) hG hP hsp r) rfl rfl (zz_has_c (zBr_16 r)) (zz_lb rfl)
  have r1 := zBr_row r (zls_N7 (zBr_b r))
  replace b := zz_fw b T (rfl : zz_ent zP_293 33 = (0, za_aload 0 34)) (ze_aload rfl)
  replace b := zz_fw b T (rfl : zz_ent zP_293 34 = (0, za_dup 35)) (ze_dup rfl)
  replace b := zz_fw b T (rfl : zz_ent zP_293 35 = (0, za_getI 13 3 38)) (ze_getI (zBr_16 r1) (by decide) (congrArg Int32.ofNat hn))
  replace b := zz_fw b T (rfl : zz_ent zP_293 38 = (0, za_iload 2 39)) (ze_iload rfl)
  replace b := zz_fw b T (rfl : zz_ent zP_293 39 = (0, za_iadd 40)) (ze_iadd (by decide : _ = Int32.ofNat 6))
  replace b := zz_fw b T (rfl : zz_ent zP_293 40 = (0, za_putI 13 3 43)) (ze_putI (zBr_sh r1) (zBr_16 r1) (by decide))
  have r2 := zBr_cnt r1 (m := 6) (by decide)
  replace b := zz_fw b T (rfl : zz_ent zP_293 43 = (0, za_aload 0 44)) (ze_aload rfl)
  have m := zz_M_B (yn := zYN) (cn := zCN) (ml := zMQ) (rt := zRT) (y := 293) (as := [.ref 16, .ref 1000002]) rfl rfl rfl rfl rfl (by decide +kernel) (zz_lb rfl) (zz_lb rfl) (zz_end_a (zr_293.2.2.2.2.1 44 rfl).1 (Or.inl ⟨_, rfl⟩)) b
  exact ⟨_, m, v, _, _, c, r2, zz_gs2 (by decide), (by have h := zBr_c r; show 6 ≤ c; omega), zls_Nt⟩
theorem zLs_ap {l : Launch} {D : va_G} {cy : Nat → ClassId} {z0 : Nat} {sp : Nat → Nat} {G : State → Prop} {d : Nat} (hG : zz_GF z0 G) (hP : ∀ U, G U → zz_GD zS zS2 zLg z0 sp U) (hsp : sp 18446744073709551616 = 0) {W0 w : zz_W} (hB : zB W0 [] w) : ∃ w', zz_M l zTs D zcl zFK cy z0 sp (zTys cy) G zYN zCN zMQ zRT (d + 6) 154 [.ref 16, .ref 1000002] w [.ref 16] w' ∧ zB W0 [46, 119, 111, 114, 100, 32] w' := by
  obtain ⟨w1, m1, hB1⟩ := zLs_apA (d := d) (l := l) (D := D) (cy := cy) (sp := sp) hG hP hsp hB
  have T := zt_154 (l := l) (D := D) (cy := cy) (z0 := z0) (sp := sp) (G := G) (d := (d + 5)) zz_k0_KS hG hP
  have TK := fun (K : zz_K) (h : zz_KS l D zcl zFK cy z0 sp (zTys cy) G zYN (fun y => Cond.code (zYN y) (zCN y) (zMQ y) (zRT y) :: zTs) (d + 5) K) => zt_154 h hG hP
  have b := zz_B_rf (l := l) (Ts := zTs) (D := D) (cl := zcl) (fk := zFK) (cy := cy) (z0 := z0) (sp := sp) (tys := zTys cy) (G := G) (own := "java/lang/StringBuilder") (mn := "append") (nL := 2) (cc := prog_27_method_7_code) (d := (d + 5)) ((0, [(0, .ref 16), (1, .ref 1000002)], [], w) : zz_F)
  replace b := zz_fw b T (rfl : zz_ent zP_154 0 = (0, za_aload 0 1)) (ze_aload rfl)
  replace b := zz_fw b T (rfl : zz_ent zP_154 1 = (0, za_aload 1 2)) (ze_aload rfl)
  replace b := zz_fVi b TK (rfl : zz_ent zP_154 2 = (0, za_callV 13 293 1 5)) m1 rfl rfl (zB_ic hB) (zz_lb rfl)
  replace b := zz_fw b T (rfl : zz_ent zP_154 5 = (0, za_pop 6)) (ze_pop rfl)
  replace b := zz_fw b T (rfl : zz_ent zP_154 6 = (0, za_aload 0 7)) (ze_aload rfl)
  have m := zz_M_B (yn := zYN) (cn := zCN) (ml := zMQ) (rt := zRT) (y := 154) (as := [.ref 16, .ref 1000002]) rfl rfl rfl rfl rfl (by decide +kernel) (zz_lb rfl) (zz_lb rfl) (zz_end_a (zr_154.2.2.2.2.1 7 rfl).1 (Or.inl ⟨_, rfl⟩)) b
  exact ⟨_, m, hB1⟩
theorem zS_n {l : Launch} {D : va_G} {cy : Nat → ClassId} {z0 : Nat} {sp : Nat → Nat} {G : State → Prop} {d : Nat} (hG : zz_GF z0 G) (hP : ∀ U, G U → zz_GD zS zS2 zLg z0 sp U) (hsp : sp 18446744073709551616 = 0) {W0 w : zz_W} {v0 N0 M0 c0 n0 : Nat} (r0 : zBr W0 v0 N0 M0 c0 w) (hn0 : zz_at 64 M0 3 = n0) (h64 : n0 < 64) {p0 p1 : Int32} (hn : ∀ f, ¬ zcK p0 f) : ∃ w', zz_B l zTs D zcl zFK cy z0 sp (zTys cy) G "ToolMill$Codes" "signOfWord" 4 prog_3_method_8_code (d + 11) (0, [(0, .ref 12), (1, .int p0), (2, .int p1)], [], w) (62, [(0, .ref 12), (1, .int p0), (2, .int p1)], [], w') ∧ zB W0 ([46, 119, 111, 114, 100, 32] ++ zdc p0 ++ [10]) w' := by
  obtain ⟨wS, hMS, hBS⟩ := zL_set (d := d + 5) (l := l) (D := D) (cy := cy) (sp := sp) hG hP hsp r0 hn0 h64
  have hBS2 := hBS
  obtain ⟨vS, NS, MS, cS, rS, -⟩ := hBS2
  obtain ⟨wW, hMW, hBW⟩ := zLs_ap (d := d + 5) (l := l) (D := D) (cy := cy) (sp := sp) hG hP hsp hBS
  have T9 := zt_72 (l := l) (D := D) (cy := cy) (z0 := z0) (sp := sp) (G := G) (d := (d + 11)) zz_k0_KS hG hP
  have TK := fun (K : zz_K) (h : zz_KS l D zcl zFK cy z0 sp (zTys cy) G zYN (fun y => Cond.code (zYN y) (zCN y) (zMQ y) (zRT y) :: zTs) (d + 11) K) => zt_72 h hG hP
  have b := zz_B_rf (l := l) (Ts := zTs) (D := D) (cl := zcl) (fk := zFK) (cy := cy) (z0 := z0) (sp := sp) (tys := zTys cy) (G := G) (own := "ToolMill$Codes") (mn := "signOfWord") (nL := 4) (cc := prog_3_method_8_code) (d := (d + 11)) ((0, [(0, .ref 12), (1, .int p0), (2, .int p1)], [], w) : zz_F)
  replace b := zz_fw b T9 (rfl : zz_ent zP_72 0 = (0, za_aload 0 1)) (ze_aload rfl)
  replace b := zz_fw b T9 (rfl : zz_ent zP_72 1 = (0, za_getA 3 4 4)) (ze_getA (zBr_f12 r0) (by decide) (zBr_v12_4 r0))
  replace b := zz_fw b T9 (rfl : zz_ent zP_72 4 = (0, za_const (.int (Int32.ofNat 0)) 5)) (ze_const)
  replace b := zz_fVv b TK (rfl : zz_ent zP_72 5 = (0, za_callV 13 152 1 8)) hMS rfl rfl (zz_has_c (zBr_16 r0)) (zz_lb rfl)
  replace b := zz_fw b T9 (rfl : zz_ent zP_72 8 = (0, za_aload 0 9)) (ze_aload rfl)
  replace b := zz_fw b T9 (rfl : zz_ent zP_72 9 = (0, za_iload 1 10)) (ze_iload rfl)
  replace b := zz_fVi b TK (rfl : zz_ent zP_72 10 = (0, za_callV 3 153 1 13)) (zD_n (d := d + 10) hG hP hsp rS hn) rfl rfl (zB_12 hBS) (zz_lb rfl)
  replace b := zz_fw b T9 (rfl : zz_ent zP_72 13 = (0, za_istore 3 14)) (ze_istore (lv' := [(0, _), (1, _), (2, _)]) rfl)
  replace b := zz_fw b T9 (rfl : zz_ent zP_72 14 = (0, za_iload 3 15)) (ze_iload rfl)
  replace b := zz_fw b T9 (rfl : zz_ent zP_72 15 = (0, za_const (.int (Int32.ofNat 4294967295)) 16)) (ze_const)
  replace b := zz_fw b T9 (rfl : zz_ent zP_72 16 = (0, za_icmp_ne 41 19)) (ze_icmp_ne_f (by decide))
  replace b := zz_fw b T9 (rfl : zz_ent zP_72 19 = (0, za_aload 0 20)) (ze_aload rfl)
  replace b := zz_fw b T9 (rfl : zz_ent zP_72 20 = (0, za_getA 3 4 23)) (ze_getA (zB_f12 hBS) (by decide) (zB_v12_4 hBS))
  replace b := zz_fw b T9 (rfl : zz_ent zP_72 23 = (0, za_const (.ref 1000002) 25)) (ze_const)
  replace b := zz_fVi b TK (rfl : zz_ent zP_72 25 = (0, za_callV 13 154 1 28)) hMW rfl rfl (zB_ic hBS) (zz_lb rfl)
  replace b := zz_fw b T9 (rfl : zz_ent zP_72 28 = (0, za_pop 29)) (ze_pop rfl)
  replace b := zz_fw b T9 (rfl : zz_ent zP_72 29 = (0, za_aload 0 30)) (ze_aload rfl)
  replace b := zz_fw b T9 (rfl : zz_ent zP_72 30 = (0, za_getA 3 4 33)) (ze_getA (zB_f12 hBW) (by decide) (zB_v12_4 hBW))
  replace b := zz_fw b T9 (rfl : zz_ent zP_72 33 = (0, za_iload 1 34)) (ze_iload rfl)
  obtain ⟨w1, hM1, hB1⟩ := zL_api (d := d + 5) (l := l) (D := D) (cy := cy) (sp := sp) hG hP hsp hBW (p0 := p0) (by have g := zdc_11 p0; show 6 + _ < 34; omega)
  replace b := zz_fVi b TK (rfl : zz_ent zP_72 34 = (0, za_callV 13 155 1 37)) hM1 rfl rfl (zB_ic hBW) (zz_lb rfl)
  replace b := zz_fw b T9 (rfl : zz_ent zP_72 37 = (0, za_pop 38)) (ze_pop rfl)
  replace b := zz_fw b T9 (rfl : zz_ent zP_72 38 = (0, za_goto 52)) (ze_goto)
  replace b := zz_fw b T9 (rfl : zz_ent zP_72 52 = (0, za_aload 0 53)) (ze_aload rfl)
  replace b := zz_fw b T9 (rfl : zz_ent zP_72 53 = (0, za_getA 3 4 56)) (ze_getA (zB_f12 hB1) (by decide) (zB_v12_4 hB1))
  replace b := zz_fw b T9 (rfl : zz_ent zP_72 56 = (0, za_const (.int (Int32.ofNat 10)) 58)) (ze_const)
  obtain ⟨w2, hM2, hB2⟩ := zL_apc (d := d + 5) (l := l) (D := D) (cy := cy) (sp := sp) hG hP hsp hB1 (x := 10) (by have g := zdc_11 p0; rw [List.length_append]; show 6 + _ < 33; omega) (by decide)
  replace b := zz_fVi b TK (rfl : zz_ent zP_72 58 = (0, za_callV 13 158 1 61)) hM2 rfl rfl (zB_ic hB1) (zz_lb rfl)
  replace b := zz_fw b T9 (rfl : zz_ent zP_72 61 = (0, za_pop 62)) (ze_pop rfl)
  replace b := zz_fl (lv' := [(0, .ref 12), (1, .int p0), (2, .int p1)]) b (zz_mc (List.mem_cons_of_mem _ List.mem_cons_self) (zz_mc (List.mem_cons_of_mem _ (List.mem_cons_of_mem _ List.mem_cons_self)) (zz_mc (List.mem_cons_of_mem _ (List.mem_cons_of_mem _ (List.mem_cons_of_mem _ List.mem_cons_self))) zz_mn)))
  exact ⟨_, b, hB2⟩
theorem zNc_7 : (List.range 51).all (fun f => Nat.ble (zNc f).length 7) = true := by decide +kernel
theorem zNc_le {f : Nat} (h : f < 51) : (zNc f).length ≤ 7 := zz_ble (List.all_eq_true.mp zNc_7 f (List.mem_range.mpr h))
theorem zOp_25 (fo : Nat) (p : Int32) : (zOp fo p).length ≤ 25 := by
  have g1 := zRg_5 p 11
  have g2 := zRg_5 p 16
  have g3 := zRg_5 p 21
  unfold zOp
  split <;> simp only [List.length_append, List.length_singleton, List.length_cons, List.length_nil]
  · omega
  · have h := zdc_11 (Int32.ofNat (zF p 6 5))
    omega
  · omega
  · omega
  · omega
  · omega
  · omega
  · have h := zdc_11 (Int32.ofNat (zF p 16 10))
    omega
  · have h := zdc_11 (p.toInt16.toInt32)
    omega
  · have h := zdc_11 (p.toInt16.toInt32 &&& Int32.ofNat 65535)
    omega
  · have h := zdc_11 (p.toInt16.toInt32 &&& Int32.ofNat 65535)
    omega
  · have h := zdc_11 (p.toInt16.toInt32)
    omega
  · have h := zdc_11 (p.toInt16.toInt32)
    omega
  · have h := zdc_11 (p.toInt16.toInt32)
    omega
  · have h := zdc_11 (Int32.ofNat (zF p 0 26))
    omega
  · omega
theorem zl_m1 : ∀ f, f < 51 → ¬ Int32.ofNat f = Int32.ofNat 4294967295 := by decide +kernel
theorem zS_y {l : Launch} {D : va_G} {cy : Nat → ClassId} {z0 : Nat} {sp : Nat → Nat} {G : State → Prop} {d : Nat} (hG : zz_GF z0 G) (hP : ∀ U, G U → zz_GD zS zS2 zLg z0 sp U) (hsp : sp 18446744073709551616 = 0) {W0 w : zz_W} {v0 N0 M0 c0 n0 : Nat} (r0 : zBr W0 v0 N0 M0 c0 w) (hn0 : zz_at 64 M0 3 = n0) (h64 : n0 < 64) {p0 p1 : Int32} {f : Nat} (hf : zcK p0 f) : ∃ w', zz_B l zTs D zcl zFK cy z0 sp (zTys cy) G "ToolMill$Codes" "signOfWord" 4 prog_3_method_8_code (d + 11) (0, [(0, .ref 12), (1, .int p0), (2, .int p1)], [], w) (62, [(0, .ref 12), (1, .int p0), (2, .int p1)], [], w') ∧ zB W0 (zNc f ++ zOp (zFo f) p0 ++ [10]) w' := by
  obtain ⟨wS, hMS, hBS⟩ := zL_set (d := d + 5) (l := l) (D := D) (cy := cy) (sp := sp) hG hP hsp r0 hn0 h64
  have hBS2 := hBS
  obtain ⟨vS, NS, MS, cS, rS, -⟩ := hBS2
  have T9 := zt_72 (l := l) (D := D) (cy := cy) (z0 := z0) (sp := sp) (G := G) (d := (d + 11)) zz_k0_KS hG hP
  have TK := fun (K : zz_K) (h : zz_KS l D zcl zFK cy z0 sp (zTys cy) G zYN (fun y => Cond.code (zYN y) (zCN y) (zMQ y) (zRT y) :: zTs) (d + 11) K) => zt_72 h hG hP
  have b := zz_B_rf (l := l) (Ts := zTs) (D := D) (cl := zcl) (fk := zFK) (cy := cy) (z0 := z0) (sp := sp) (tys := zTys cy) (G := G) (own := "ToolMill$Codes") (mn := "signOfWord") (nL := 4) (cc := prog_3_method_8_code) (d := (d + 11)) ((0, [(0, .ref 12), (1, .int p0), (2, .int p1)], [], w) : zz_F)
  replace b := zz_fw b T9 (rfl : zz_ent zP_72 0 = (0, za_aload 0 1)) (ze_aload rfl)
  replace b := zz_fw b T9 (rfl : zz_ent zP_72 1 = (0, za_getA 3 4 4)) (ze_getA (zBr_f12 r0) (by decide) (zBr_v12_4 r0))
  replace b := zz_fw b T9 (rfl : zz_ent zP_72 4 = (0, za_const (.int (Int32.ofNat 0)) 5)) (ze_const)
  replace b := zz_fVv b TK (rfl : zz_ent zP_72 5 = (0, za_callV 13 152 1 8)) hMS rfl rfl (zz_has_c (zBr_16 r0)) (zz_lb rfl)
  replace b := zz_fw b T9 (rfl : zz_ent zP_72 8 = (0, za_aload 0 9)) (ze_aload rfl)
  replace b := zz_fw b T9 (rfl : zz_ent zP_72 9 = (0, za_iload 1 10)) (ze_iload rfl)
  replace b := zz_fVi b TK (rfl : zz_ent zP_72 10 = (0, za_callV 3 153 1 13)) (zD_y (d := d + 10) hG hP hsp rS hf) rfl rfl (zB_12 hBS) (zz_lb rfl)
  replace b := zz_fw b T9 (rfl : zz_ent zP_72 13 = (0, za_istore 3 14)) (ze_istore (lv' := [(0, _), (1, _), (2, _)]) rfl)
  replace b := zz_fw b T9 (rfl : zz_ent zP_72 14 = (0, za_iload 3 15)) (ze_iload rfl)
  replace b := zz_fw b T9 (rfl : zz_ent zP_72 15 = (0, za_const (.int (Int32.ofNat 4294967295)) 16)) (ze_const)
  replace b := zz_fw b T9 (rfl : zz_ent zP_72 16 = (0, za_icmp_ne 41 19)) (ze_icmp_ne_t (zl_m1 f hf.2.1))
  replace b := zz_fw b T9 (rfl : zz_ent zP_72 41 = (0, za_aload 0 42)) (ze_aload rfl)
  replace b := zz_fw b T9 (rfl : zz_ent zP_72 42 = (0, za_iload 3 43)) (ze_iload rfl)
  obtain ⟨w1, hM1, hB1⟩ := zL_nam (d := d + 4) (l := l) (D := D) (cy := cy) (sp := sp) hG hP hsp hBS (id := f) (zIds_op hf.2.1) (by have g := zNc_le hf.2.1; show 0 + _ ≤ 33; omega)
  replace b := zz_fVv b TK (rfl : zz_ent zP_72 43 = (0, za_callV 3 156 1 46)) hM1 rfl rfl (zB_12 hBS) (zz_lb rfl)
  replace b := zz_fw b T9 (rfl : zz_ent zP_72 46 = (0, za_aload 0 47)) (ze_aload rfl)
  replace b := zz_fw b T9 (rfl : zz_ent zP_72 47 = (0, za_iload 1 48)) (ze_iload rfl)
  replace b := zz_fw b T9 (rfl : zz_ent zP_72 48 = (0, za_iload 3 49)) (ze_iload rfl)
  obtain ⟨w2, hM2, hB2⟩ := zL_op (d := d) (l := l) (D := D) (cy := cy) (sp := sp) hG hP hsp hB1 (p0 := p0) hf.2.1 (zFo_ok hf.2.1).1 (zFo_ok hf.2.1).2.2.2 (by rw [List.nil_append]; exact zNc_le hf.2.1)
  replace b := zz_fVv b TK (rfl : zz_ent zP_72 49 = (0, za_callV 3 157 2 52)) hM2 rfl rfl (zB_12 hB1) (zz_lb rfl)
  replace b := zz_fw b T9 (rfl : zz_ent zP_72 52 = (0, za_aload 0 53)) (ze_aload rfl)
  replace b := zz_fw b T9 (rfl : zz_ent zP_72 53 = (0, za_getA 3 4 56)) (ze_getA (zB_f12 hB2) (by decide) (zB_v12_4 hB2))
  replace b := zz_fw b T9 (rfl : zz_ent zP_72 56 = (0, za_const (.int (Int32.ofNat 10)) 58)) (ze_const)
  obtain ⟨w3, hM3, hB3⟩ := zL_apc (d := d + 5) (l := l) (D := D) (cy := cy) (sp := sp) hG hP hsp hB2 (x := 10) (by have g := zNc_le hf.2.1; have g2 := zOp_25 (zFo f) p0; rw [List.length_append, List.nil_append]; omega) (by decide)
  replace b := zz_fVi b TK (rfl : zz_ent zP_72 58 = (0, za_callV 13 158 1 61)) hM3 rfl rfl (zB_ic hB2) (zz_lb rfl)
  replace b := zz_fw b T9 (rfl : zz_ent zP_72 61 = (0, za_pop 62)) (ze_pop rfl)
  replace b := zz_fl (lv' := [(0, .ref 12), (1, .int p0), (2, .int p1)]) b (zz_mc (List.mem_cons_of_mem _ List.mem_cons_self) (zz_mc (List.mem_cons_of_mem _ (List.mem_cons_of_mem _ List.mem_cons_self)) (zz_mc (List.mem_cons_of_mem _ (List.mem_cons_of_mem _ (List.mem_cons_of_mem _ List.mem_cons_self))) zz_mn)))
  exact ⟨_, b, by rw [List.nil_append] at hB3; exact hB3⟩
/-- sign k of a text
-/
def zPk (T : List Nat) (k : Nat) : Int32 := if k < T.length then Int32.ofNat (T.getD k 0) else Int32.ofNat 4294967295
theorem zls_nn {k : Nat} (h : k < 2 ^ 31) : ¬ Int32.ofNat k < 0 := by
  rw [show (0 : Int32) = Int32.ofNat 0 from rfl, Int32.ofNat_lt_iff_lt h (by decide)]
  omega
theorem zS_o {W0 : zz_W} {l : Launch} {D : va_G} {cy : Nat → ClassId} {z0 : Nat} {sp : Nat → Nat} {G : State → Prop} {d : Nat} (hG : zz_GF z0 G) (hP : ∀ U, G U → zz_GD zS zS2 zLg z0 sp U) (hsp : sp 18446744073709551616 = 0) {T : List Nat} {w : zz_W} (hB : zB W0 T w) {p0 : Int32} {k : Nat} (h2 : k < 2 ^ 31) (hk : T.length ≤ k) : zz_B l zTs D zcl zFK cy z0 sp (zTys cy) G "ToolMill$Codes" "signOfWord" 4 prog_3_method_8_code (d + 11) (62, [(0, .ref 12), (1, .int p0), (2, .int (Int32.ofNat k))], [], w) (89, [(0, .ref 12), (1, .int p0), (2, .int (Int32.ofNat k))], [.int (Int32.ofNat 4294967295)], w) := by
  obtain ⟨v, N, M, c, r, hn, hc, hx⟩ := hB
  have hcc := zBr_c r
  have T9 := zt_72 (l := l) (D := D) (cy := cy) (z0 := z0) (sp := sp) (G := G) (d := (d + 11)) zz_k0_KS hG hP
  have TK := fun (K : zz_K) (h : zz_KS l D zcl zFK cy z0 sp (zTys cy) G zYN (fun y => Cond.code (zYN y) (zCN y) (zMQ y) (zRT y) :: zTs) (d + 11) K) => zt_72 h hG hP
  have b := zz_B_rf (l := l) (Ts := zTs) (D := D) (cl := zcl) (fk := zFK) (cy := cy) (z0 := z0) (sp := sp) (tys := zTys cy) (G := G) (own := "ToolMill$Codes") (mn := "signOfWord") (nL := 4) (cc := prog_3_method_8_code) (d := (d + 11)) ((62, [(0, .ref 12), (1, .int p0), (2, .int (Int32.ofNat k))], [], w) : zz_F)
  replace b := zz_fw b T9 (rfl : zz_ent zP_72 62 = (0, za_iload 2 63)) (ze_iload rfl)
  replace b := zz_fw b T9 (rfl : zz_ent zP_72 63 = (0, za_if_lt 88 66)) (ze_if_lt_f (zls_nn h2))
  replace b := zz_fw b T9 (rfl : zz_ent zP_72 66 = (0, za_iload 2 67)) (ze_iload rfl)
  replace b := zz_fw b T9 (rfl : zz_ent zP_72 67 = (0, za_aload 0 68)) (ze_aload rfl)
  replace b := zz_fw b T9 (rfl : zz_ent zP_72 68 = (0, za_getA 3 4 71)) (ze_getA (zBr_f12 r) (by decide) (zBr_v12_4 r))
  replace b := zz_fVi b TK (rfl : zz_ent zP_72 71 = (0, za_callV 13 159 0 74)) (zL_len (d := d + 9) hG hP hsp r hn) rfl rfl (zz_has_c (zBr_16 r)) (zz_lb rfl)
  replace b := zz_fw b T9 (rfl : zz_ent zP_72 74 = (0, za_icmp_ge 88 77)) (ze_icmp_ge_t ((Int32.ofNat_le_iff_le (by omega) h2).mpr hk))
  replace b := zz_fw b T9 (rfl : zz_ent zP_72 88 = (0, za_const (.int (Int32.ofNat 4294967295)) 89)) (ze_const)
  exact b
theorem zS_i {W0 : zz_W} {l : Launch} {D : va_G} {cy : Nat → ClassId} {z0 : Nat} {sp : Nat → Nat} {G : State → Prop} {d : Nat} (hG : zz_GF z0 G) (hP : ∀ U, G U → zz_GD zS zS2 zLg z0 sp U) (hsp : sp 18446744073709551616 = 0) {T : List Nat} {w : zz_W} (hB : zB W0 T w) {p0 : Int32} {k : Nat} (h2 : k < 2 ^ 31) (hk : k < T.length) : zz_B l zTs D zcl zFK cy z0 sp (zTys cy) G "ToolMill$Codes" "signOfWord" 4 prog_3_method_8_code (d + 11) (62, [(0, .ref 12), (1, .int p0), (2, .int (Int32.ofNat k))], [], w) (89, [(0, .ref 12), (1, .int p0), (2, .int (Int32.ofNat k))], [.int (Int32.ofNat (T.getD k 0))], w) := by
  obtain ⟨v, N, M, c, r, hn, hc, hx⟩ := hB
  have hcc := zBr_c r
  have T9 := zt_72 (l := l) (D := D) (cy := cy) (z0 := z0) (sp := sp) (G := G) (d := (d + 11)) zz_k0_KS hG hP
  have TK := fun (K : zz_K) (h : zz_KS l D zcl zFK cy z0 sp (zTys cy) G zYN (fun y => Cond.code (zYN y) (zCN y) (zMQ y) (zRT y) :: zTs) (d + 11) K) => zt_72 h hG hP
  have b := zz_B_rf (l := l) (Ts := zTs) (D := D) (cl := zcl) (fk := zFK) (cy := cy) (z0 := z0) (sp := sp) (tys := zTys cy) (G := G) (own := "ToolMill$Codes") (mn := "signOfWord") (nL := 4) (cc := prog_3_method_8_code) (d := (d + 11)) ((62, [(0, .ref 12), (1, .int p0), (2, .int (Int32.ofNat k))], [], w) : zz_F)
  replace b := zz_fw b T9 (rfl : zz_ent zP_72 62 = (0, za_iload 2 63)) (ze_iload rfl)
  replace b := zz_fw b T9 (rfl : zz_ent zP_72 63 = (0, za_if_lt 88 66)) (ze_if_lt_f (zls_nn h2))
  replace b := zz_fw b T9 (rfl : zz_ent zP_72 66 = (0, za_iload 2 67)) (ze_iload rfl)
  replace b := zz_fw b T9 (rfl : zz_ent zP_72 67 = (0, za_aload 0 68)) (ze_aload rfl)
  replace b := zz_fw b T9 (rfl : zz_ent zP_72 68 = (0, za_getA 3 4 71)) (ze_getA (zBr_f12 r) (by decide) (zBr_v12_4 r))
  replace b := zz_fVi b TK (rfl : zz_ent zP_72 71 = (0, za_callV 13 159 0 74)) (zL_len (d := d + 9) hG hP hsp r hn) rfl rfl (zz_has_c (zBr_16 r)) (zz_lb rfl)
  replace b := zz_fw b T9 (rfl : zz_ent zP_72 74 = (0, za_icmp_ge 88 77)) (ze_icmp_ge_f (fun q => absurd ((Int32.ofNat_le_iff_le (by omega) h2).mp q) (by omega)))
  replace b := zz_fw b T9 (rfl : zz_ent zP_72 77 = (0, za_aload 0 78)) (ze_aload rfl)
  replace b := zz_fw b T9 (rfl : zz_ent zP_72 78 = (0, za_getA 3 4 81)) (ze_getA (zBr_f12 r) (by decide) (zBr_v12_4 r))
  replace b := zz_fw b T9 (rfl : zz_ent zP_72 81 = (0, za_iload 2 82)) (ze_iload rfl)
  replace b := zz_fVi b TK (rfl : zz_ent zP_72 82 = (0, za_callV 13 160 1 85)) (zL_ch (d := d + 7) hG hP hsp r hn hc hk (hx k hk)) rfl rfl (zz_has_c (zBr_16 r)) (zz_lb rfl)
  replace b := zz_fw b T9 (rfl : zz_ent zP_72 85 = (0, za_goto 89)) (ze_goto)
  exact b
theorem zS_n_M {l : Launch} {D : va_G} {cy : Nat → ClassId} {z0 : Nat} {sp : Nat → Nat} {G : State → Prop} (hG : zz_GF z0 G) (hP : ∀ U, G U → zz_GD zS zS2 zLg z0 sp U) (hsp : sp 18446744073709551616 = 0) {W0 w : zz_W} {v0 N0 M0 c0 n0 : Nat} (r0 : zBr W0 v0 N0 M0 c0 w) (hn0 : zz_at 64 M0 3 = n0) (h64 : n0 < 64) {p0 : Int32} (hn : ∀ f, ¬ zcK p0 f) {k : Nat} (h2 : k < 2 ^ 31) : ∃ w', zz_M l zTs D zcl zFK cy z0 sp (zTys cy) G zYN zCN zMQ zRT 14 72 [.ref 12, .int p0, .int (Int32.ofNat k)] w [.int (zPk ([46, 119, 111, 114, 100, 32] ++ zdc p0 ++ [10]) k)] w' ∧ zB W0 ([46, 119, 111, 114, 100, 32] ++ zdc p0 ++ [10]) w' := by
  obtain ⟨w1, b, hB⟩ := zS_n (d := 2) (l := l) (D := D) (cy := cy) (sp := sp) (p1 := Int32.ofNat k) hG hP hsp r0 hn0 h64 hn
  refine ⟨w1, ?_, hB⟩
  unfold zPk
  split
  · rename_i hk
    exact zz_M_B (yn := zYN) (cn := zCN) (ml := zMQ) (rt := zRT) (y := 72) (as := [.ref 12, .int p0, .int (Int32.ofNat k)]) rfl rfl rfl rfl rfl (by decide +kernel) (zz_lb rfl) (zz_lb rfl) (zz_end_i (zr_72.2.1 89 rfl).1) (zz_B_tr b (zS_i (d := 2) hG hP hsp hB h2 hk))
  · rename_i hk
    exact zz_M_B (yn := zYN) (cn := zCN) (ml := zMQ) (rt := zRT) (y := 72) (as := [.ref 12, .int p0, .int (Int32.ofNat k)]) rfl rfl rfl rfl rfl (by decide +kernel) (zz_lb rfl) (zz_lb rfl) (zz_end_i (zr_72.2.1 89 rfl).1) (zz_B_tr b (zS_o (d := 2) hG hP hsp hB h2 (by omega)))
theorem zl_k0_n {k : Nat} (h : k < 2 ^ 31) : (0 : Int32) ≤ Int32.ofNat k := by
  rw [show (0 : Int32) = Int32.ofNat 0 from rfl, Int32.ofNat_le_iff_le (by decide) h]
  omega
theorem zMc_listing_n {l : Launch} {D : va_G} {cy : Nat → ClassId} {z0 : Nat} {sp : Nat → Nat} {G : State → Prop} (hG : zz_GF z0 G) (hP : ∀ U, G U → zz_GD zS zS2 zLg z0 sp U) (hsp : sp 18446744073709551616 = 0) {W0 w : zz_W} {v0 N0 M0 c0 n0 : Nat} (r0 : zBr W0 v0 N0 M0 c0 w) (hn0 : zz_at 64 M0 3 = n0) (h64 : n0 < 64) {C0 : zz_C} (h0 : zz_has w 0 (3, 1, C0.2.2.1, C0.2.2.2)) (hf0 : 11 < C0.2.2.1) (h11 : zz_at 64 C0.2.2.2 11 = 13) {p0 : Int32} (hn : ∀ f, ¬ zcK p0 f) {k : Nat} (h2 : k < 2 ^ 31) : ∃ w', zz_M l zTs D zcl zFK cy z0 sp (zTys cy) G zYN zCN zMQ zRT 15 20 [.ref 0, .int p0, .int (Int32.ofNat k)] w [.int (zPk ([46, 119, 111, 114, 100, 32] ++ zdc p0 ++ [10]) k)] w' ∧ zB W0 ([46, 119, 111, 114, 100, 32] ++ zdc p0 ++ [10]) w' := by
  have T := zt_20 (l := l) (D := D) (cy := cy) (z0 := z0) (sp := sp) (G := G) (d := 14) zz_k0_KS hG hP
  have TK := fun (K : zz_K) (h : zz_KS l D zcl zFK cy z0 sp (zTys cy) G zYN (fun y => Cond.code (zYN y) (zCN y) (zMQ y) (zRT y) :: zTs) 14 K) => zt_20 h hG hP
  have b := zz_B_rf (l := l) (Ts := zTs) (D := D) (cl := zcl) (fk := zFK) (cy := cy) (z0 := z0) (sp := sp) (tys := zTys cy) (G := G) (own := "ToolMill") (mn := "listing") (nL := 3) (cc := prog_1_method_21_code) (d := 14) ((0, [(0, .ref 0), (1, .int p0), (2, .int (Int32.ofNat k))], [], w) : zz_F)
  replace b := zz_fw b T (rfl : zz_ent zP_20 0 = (0, za_iload 2 1)) (ze_iload rfl)
  replace b := zz_fw b T (rfl : zz_ent zP_20 1 = (0, za_if_ge 14 4)) (ze_if_ge_t (zl_k0_n h2))
  replace b := zz_fw b T (rfl : zz_ent zP_20 14 = (0, za_aload 0 15)) (ze_aload rfl)
  replace b := zz_fw b T (rfl : zz_ent zP_20 15 = (0, za_getA 1 11 18)) (ze_getA h0 hf0 h11)
  replace b := zz_fw b T (rfl : zz_ent zP_20 18 = (0, za_iload 1 19)) (ze_iload rfl)
  replace b := zz_fw b T (rfl : zz_ent zP_20 19 = (0, za_iload 2 20)) (ze_iload rfl)
  obtain ⟨w1, hM1, hB1⟩ := zS_n_M (l := l) (D := D) (cy := cy) (sp := sp) hG hP hsp r0 hn0 h64 hn h2
  replace b := zz_fVi b TK (rfl : zz_ent zP_20 20 = (0, za_callV 3 72 2 23)) hM1 rfl rfl (zz_has_c (zBr_f12 r0)) (zz_lb rfl)
  have m := zz_M_B (yn := zYN) (cn := zCN) (ml := zMQ) (rt := zRT) (y := 20) (as := [.ref 0, .int p0, .int (Int32.ofNat k)]) rfl rfl rfl rfl rfl (by decide +kernel) (zz_lb rfl) (zz_lb rfl) (zz_end_i (zr_20.2.1 23 rfl).1) b
  exact ⟨_, m, hB1⟩
theorem zS_y_M {l : Launch} {D : va_G} {cy : Nat → ClassId} {z0 : Nat} {sp : Nat → Nat} {G : State → Prop} (hG : zz_GF z0 G) (hP : ∀ U, G U → zz_GD zS zS2 zLg z0 sp U) (hsp : sp 18446744073709551616 = 0) {W0 w : zz_W} {v0 N0 M0 c0 n0 : Nat} (r0 : zBr W0 v0 N0 M0 c0 w) (hn0 : zz_at 64 M0 3 = n0) (h64 : n0 < 64) {p0 : Int32} {f : Nat} (hf : zcK p0 f) {k : Nat} (h2 : k < 2 ^ 31) : ∃ w', zz_M l zTs D zcl zFK cy z0 sp (zTys cy) G zYN zCN zMQ zRT 14 72 [.ref 12, .int p0, .int (Int32.ofNat k)] w [.int (zPk (zNc f ++ zOp (zFo f) p0 ++ [10]) k)] w' ∧ zB W0 (zNc f ++ zOp (zFo f) p0 ++ [10]) w' := by
  obtain ⟨w1, b, hB⟩ := zS_y (d := 2) (l := l) (D := D) (cy := cy) (sp := sp) (p1 := Int32.ofNat k) hG hP hsp r0 hn0 h64 hf
  refine ⟨w1, ?_, hB⟩
  unfold zPk
  split
  · rename_i hk
    exact zz_M_B (yn := zYN) (cn := zCN) (ml := zMQ) (rt := zRT) (y := 72) (as := [.ref 12, .int p0, .int (Int32.ofNat k)]) rfl rfl rfl rfl rfl (by decide +kernel) (zz_lb rfl) (zz_lb rfl) (zz_end_i (zr_72.2.1 89 rfl).1) (zz_B_tr b (zS_i (d := 2) hG hP hsp hB h2 hk))
  · rename_i hk
    exact zz_M_B (yn := zYN) (cn := zCN) (ml := zMQ) (rt := zRT) (y := 72) (as := [.ref 12, .int p0, .int (Int32.ofNat k)]) rfl rfl rfl rfl rfl (by decide +kernel) (zz_lb rfl) (zz_lb rfl) (zz_end_i (zr_72.2.1 89 rfl).1) (zz_B_tr b (zS_o (d := 2) hG hP hsp hB h2 (by omega)))
theorem zl_k0_y {k : Nat} (h : k < 2 ^ 31) : (0 : Int32) ≤ Int32.ofNat k := by
  rw [show (0 : Int32) = Int32.ofNat 0 from rfl, Int32.ofNat_le_iff_le (by decide) h]
  omega
theorem zMc_listing_y {l : Launch} {D : va_G} {cy : Nat → ClassId} {z0 : Nat} {sp : Nat → Nat} {G : State → Prop} (hG : zz_GF z0 G) (hP : ∀ U, G U → zz_GD zS zS2 zLg z0 sp U) (hsp : sp 18446744073709551616 = 0) {W0 w : zz_W} {v0 N0 M0 c0 n0 : Nat} (r0 : zBr W0 v0 N0 M0 c0 w) (hn0 : zz_at 64 M0 3 = n0) (h64 : n0 < 64) {C0 : zz_C} (h0 : zz_has w 0 (3, 1, C0.2.2.1, C0.2.2.2)) (hf0 : 11 < C0.2.2.1) (h11 : zz_at 64 C0.2.2.2 11 = 13) {p0 : Int32} {f : Nat} (hf : zcK p0 f) {k : Nat} (h2 : k < 2 ^ 31) : ∃ w', zz_M l zTs D zcl zFK cy z0 sp (zTys cy) G zYN zCN zMQ zRT 15 20 [.ref 0, .int p0, .int (Int32.ofNat k)] w [.int (zPk (zNc f ++ zOp (zFo f) p0 ++ [10]) k)] w' ∧ zB W0 (zNc f ++ zOp (zFo f) p0 ++ [10]) w' := by
  have T := zt_20 (l := l) (D := D) (cy := cy) (z0 := z0) (sp := sp) (G := G) (d := 14) zz_k0_KS hG hP
  have TK := fun (K : zz_K) (h : zz_KS l D zcl zFK cy z0 sp (zTys cy) G zYN (fun y => Cond.code (zYN y) (zCN y) (zMQ y) (zRT y) :: zTs) 14 K) => zt_20 h hG hP
  have b := zz_B_rf (l := l) (Ts := zTs) (D := D) (cl := zcl) (fk := zFK) (cy := cy) (z0 := z0) (sp := sp) (tys := zTys cy) (G := G) (own := "ToolMill") (mn := "listing") (nL := 3) (cc := prog_1_method_21_code) (d := 14) ((0, [(0, .ref 0), (1, .int p0), (2, .int (Int32.ofNat k))], [], w) : zz_F)
  replace b := zz_fw b T (rfl : zz_ent zP_20 0 = (0, za_iload 2 1)) (ze_iload rfl)
  replace b := zz_fw b T (rfl : zz_ent zP_20 1 = (0, za_if_ge 14 4)) (ze_if_ge_t (zl_k0_y h2))
  replace b := zz_fw b T (rfl : zz_ent zP_20 14 = (0, za_aload 0 15)) (ze_aload rfl)
  replace b := zz_fw b T (rfl : zz_ent zP_20 15 = (0, za_getA 1 11 18)) (ze_getA h0 hf0 h11)
  replace b := zz_fw b T (rfl : zz_ent zP_20 18 = (0, za_iload 1 19)) (ze_iload rfl)
  replace b := zz_fw b T (rfl : zz_ent zP_20 19 = (0, za_iload 2 20)) (ze_iload rfl)
  obtain ⟨w1, hM1, hB1⟩ := zS_y_M (l := l) (D := D) (cy := cy) (sp := sp) hG hP hsp r0 hn0 h64 hf h2
  replace b := zz_fVi b TK (rfl : zz_ent zP_20 20 = (0, za_callV 3 72 2 23)) hM1 rfl rfl (zz_has_c (zBr_f12 r0)) (zz_lb rfl)
  have m := zz_M_B (yn := zYN) (cn := zCN) (ml := zMQ) (rt := zRT) (y := 20) (as := [.ref 0, .int p0, .int (Int32.ofNat k)]) rfl rfl rfl rfl rfl (by decide +kernel) (zz_lb rfl) (zz_lb rfl) (zz_end_i (zr_20.2.1 23 rfl).1) b
  exact ⟨_, m, hB1⟩
end
