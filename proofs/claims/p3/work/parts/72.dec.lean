/-! words as texts, the class, by program -/
/-- bits of a word: k bits from bit s on -/
def zF (p : Int32) (s k : Nat) : Nat := zz_nI p / 2 ^ s % 2 ^ k
theorem zF_lt (p : Int32) (s k : Nat) : zF p s k < 2 ^ k := Nat.mod_lt _ (Nat.two_pow_pos k)
theorem zI_eq {x y : Int32} (h : zz_nI x = zz_nI y) : x = y := by rw [← zz_nI_of x, ← zz_nI_of y, h]
theorem zI_and (x y : Int32) : zz_nI (x &&& y) = zz_nI x &&& zz_nI y := by
  unfold zz_nI
  rw [Int32.toBitVec_and, BitVec.toNat_and]
theorem zI_shr (x : Int32) (s : Nat) (h : s < 32) : zz_nI (x.toUInt32 >>> ((Int32.ofNat s).toUInt32 &&& Int32.toUInt32 31)).toInt32 = zz_nI x / 2 ^ s := by
  have e : ((Int32.ofNat s).toUInt32 &&& Int32.toUInt32 31).toNat = s := by
    revert s
    decide
  show (x.toUInt32 >>> ((Int32.ofNat s).toUInt32 &&& Int32.toUInt32 31)).toNat = _
  rw [UInt32.toNat_shiftRight, e, Nat.mod_eq_of_lt h, Nat.shiftRight_eq_div_pow]
  rfl
theorem zF_eq (p : Int32) (s k m : Nat) (h : s < 32) (hk : k ≤ 31) (hm : m = 2 ^ k - 1) : (p.toUInt32 >>> ((Int32.ofNat s).toUInt32 &&& Int32.toUInt32 31)).toInt32 &&& Int32.ofNat m = Int32.ofNat (zF p s k) := by
  have h2 : 2 ^ k ≤ 2 ^ 31 := Nat.pow_le_pow_right (by decide) hk
  have h3 := Nat.two_pow_pos k
  have h4 := zF_lt p s k
  apply zI_eq
  rw [zI_and, zI_shr p s h, zz_nI_ofNat (by omega), hm, Nat.and_two_pow_sub_one_eq_mod, zz_nI_ofNat (by omega)]
  rfl
theorem zF_lo (p : Int32) (k m : Nat) (hk : k ≤ 31) (hm : m = 2 ^ k - 1) : p &&& Int32.ofNat m = Int32.ofNat (zF p 0 k) := by
  have h2 : 2 ^ k ≤ 2 ^ 31 := Nat.pow_le_pow_right (by decide) hk
  have h3 := Nat.two_pow_pos k
  have h4 := zF_lt p 0 k
  apply zI_eq
  rw [zI_and, zz_nI_ofNat (by omega), hm, Nat.and_two_pow_sub_one_eq_mod, zz_nI_ofNat (by omega)]
  unfold zF
  rw [Nat.pow_zero, Nat.div_one]
theorem zF_hi (p : Int32) : (p.toUInt32 >>> ((Int32.ofNat 26).toUInt32 &&& Int32.toUInt32 31)).toInt32 = Int32.ofNat (zF p 26 6) := by
  have h4 := zF_lt p 26 6
  apply zI_eq
  rw [zI_shr p 26 (by decide), zz_nI_ofNat (by omega)]
  unfold zF
  have := zz_nI_lt p
  omega
/-- the instruction that the class finds by OP, FUNCTION or t, before it looks at what is fixed -/
noncomputable def zcf (p : Int32) : Nat := if zF p 26 6 = 0 then zz_at 32 zc_14 (zF p 0 6) else if zF p 26 6 = 1 then zz_at 32 zc_15 (zF p 16 5) else zz_at 32 zc_13 (zF p 26 6)
/-- the instruction that a word is to the class -/
def zcOk (p : Int32) (f : Nat) : Prop := ∃ fo fx ba, zz_ki zS2 2000002 f = some fo ∧ zz_ki zS2 2000003 fo = some fx ∧ zz_ki zS2 2000004 f = some ba ∧ p &&& Int32.ofNat fx = Int32.ofNat ba
theorem zl_n0 : ∀ n, n < 2 ^ 6 → ¬ n = 0 → ¬ Int32.ofNat n = 0 := by decide +kernel
theorem zl_n1 : ∀ n, n < 2 ^ 6 → ¬ n = 1 → ¬ Int32.ofNat n = Int32.ofNat 1 := by decide +kernel
theorem zl_51 : ∀ f, f < 51 → ¬ Int32.ofNat f < 0 := by decide +kernel
theorem zD_0k {W0 : zz_W} {l : Launch} {D : va_G} {cy : Nat → ClassId} {z0 : Nat} {sp : Nat → Nat} {G : State → Prop} {d : Nat} (hG : zz_GF z0 G) (hP : ∀ U, G U → zz_GD zS zS2 zLg z0 sp U) (hsp : sp 18446744073709551616 = 0) {v N M c : Nat} {w : zz_W} (r : zBr W0 v N M c w) {p0 : Int32} {f : Nat} (ho : zF p0 26 6 = 0) (hf : zz_at 32 zc_14 (zF p0 0 6) = f) (h51 : f < 51) {fo fx ba : Nat} (l1 : fo < 15) (q1 : zz_ki zS2 2000002 f = some fo) (q2 : zz_ki zS2 2000003 fo = some fx) (q3 : zz_ki zS2 2000004 f = some ba) (hq : p0 &&& Int32.ofNat fx = Int32.ofNat ba) : zz_M l zTs D zcl zFK cy z0 sp (zTys cy) G zYN zCN zMQ zRT (d + 1) 153 [.ref 12, .int p0] w [.int (Int32.ofNat f)] w := by
  have T := zt_153 (l := l) (D := D) (cy := cy) (z0 := z0) (sp := sp) (G := G) (d := d) zz_k0_KS hG hP
  have TK := fun (K : zz_K) (h : zz_KS l D zcl zFK cy z0 sp (zTys cy) G zYN (fun y => Cond.code (zYN y) (zCN y) (zMQ y) (zRT y) :: zTs) d K) => zt_153 h hG hP
  have b := zz_B_rf (l := l) (Ts := zTs) (D := D) (cl := zcl) (fk := zFK) (cy := cy) (z0 := z0) (sp := sp) (tys := zTys cy) (G := G) (own := "ToolMill$Codes") (mn := "decode") (nL := 4) (cc := prog_3_method_2_code) (d := d) ((0, [(0, .ref 12), (1, .int p0)], [], w) : zz_F)
  replace b := zz_fw b T (rfl : zz_ent zP_153 0 = (0, za_iload 1 1)) (ze_iload rfl)
  replace b := zz_fw b T (rfl : zz_ent zP_153 1 = (0, za_const (.int (Int32.ofNat 26)) 3)) (ze_const)
  replace b := zz_fw b T (rfl : zz_ent zP_153 3 = (0, za_iushr 4)) (ze_iushr (zF_hi p0))
  replace b := zz_fw b T (rfl : zz_ent zP_153 4 = (0, za_istore 2 5)) (ze_istore (lv' := [(0, _), (1, _)]) rfl)
  replace b := zz_fw b T (rfl : zz_ent zP_153 5 = (0, za_iload 2 6)) (ze_iload rfl)
  replace b := zz_fw b T (rfl : zz_ent zP_153 6 = (0, za_if_ne 21 9)) (ze_if_ne_f (not_not_intro (by rw [ho]; rfl)))
  replace b := zz_fw b T (rfl : zz_ent zP_153 9 = (0, za_aload 0 10)) (ze_aload rfl)
  replace b := zz_fw b T (rfl : zz_ent zP_153 10 = (0, za_getA 3 2 13)) (ze_getA (zBr_f12 r) (by decide) (zBr_v12_2 r))
  replace b := zz_fw b T (rfl : zz_ent zP_153 13 = (0, za_iload 1 14)) (ze_iload rfl)
  replace b := zz_fw b T (rfl : zz_ent zP_153 14 = (0, za_const (.int (Int32.ofNat 63)) 16)) (ze_const)
  replace b := zz_fw b T (rfl : zz_ent zP_153 16 = (0, za_iand 17)) (ze_iand (zF_lo p0 6 63 (by decide) rfl))
  replace b := zz_fw b T (rfl : zz_ent zP_153 17 = (0, za_aldI 0 18)) (ze_aldI (zBr_f14 r) (by have := zF_lt p0 0 6; rw [zz_nI_ofNat (by omega)]; omega) (by decide) (by rw [zz_nI_ofNat (by have := zF_lt p0 0 6; omega), hf]))
  replace b := zz_fw b T (rfl : zz_ent zP_153 18 = (0, za_goto 47)) (ze_goto)
  replace b := zz_fw b T (rfl : zz_ent zP_153 47 = (0, za_istore 3 48)) (ze_istore (lv' := [(2, _), (0, _), (1, _)]) rfl)
  replace b := zz_fw b T (rfl : zz_ent zP_153 48 = (0, za_iload 3 49)) (ze_iload rfl)
  replace b := zz_fw b T (rfl : zz_ent zP_153 49 = (0, za_if_lt 75 52)) (ze_if_lt_f (zl_51 f h51))
  replace b := zz_fw b T (rfl : zz_ent zP_153 52 = (0, za_iload 1 53)) (ze_iload rfl)
  replace b := zz_fw b T (rfl : zz_ent zP_153 53 = (0, za_const (.ref 2000003) 56)) (ze_const)
  replace b := zz_fw b T (rfl : zz_ent zP_153 56 = (0, za_const (.ref 2000002) 59)) (ze_const)
  replace b := zz_fw b T (rfl : zz_ent zP_153 59 = (0, za_iload 3 60)) (ze_iload rfl)
  replace b := zz_fw b T (rfl : zz_ent zP_153 60 = (0, za_kl (zz_ki zS2) 61)) (ze_kl (by rw [zz_nI_ofNat (by omega)]; exact q1) rfl)
  replace b := zz_fw b T (rfl : zz_ent zP_153 61 = (0, za_kl (zz_ki zS2) 62)) (ze_kl (by rw [zz_nI_ofNat (by omega)]; exact q2) rfl)
  replace b := zz_fw b T (rfl : zz_ent zP_153 62 = (0, za_iand 63)) (ze_iand rfl)
  replace b := zz_fw b T (rfl : zz_ent zP_153 63 = (0, za_const (.ref 2000004) 66)) (ze_const)
  replace b := zz_fw b T (rfl : zz_ent zP_153 66 = (0, za_iload 3 67)) (ze_iload rfl)
  replace b := zz_fw b T (rfl : zz_ent zP_153 67 = (0, za_kl (zz_ki zS2) 68)) (ze_kl (by rw [zz_nI_ofNat (by omega)]; exact q3) rfl)
  replace b := zz_fw b T (rfl : zz_ent zP_153 68 = (0, za_icmp_ne 75 71)) (ze_icmp_ne_f (not_not_intro hq))
  replace b := zz_fw b T (rfl : zz_ent zP_153 71 = (0, za_iload 3 72)) (ze_iload rfl)
  replace b := zz_fw b T (rfl : zz_ent zP_153 72 = (0, za_goto 76)) (ze_goto)
  have m := zz_M_B (yn := zYN) (cn := zCN) (ml := zMQ) (rt := zRT) (y := 153) (as := [.ref 12, .int p0]) rfl rfl rfl rfl rfl (by decide +kernel) (zz_lb rfl) (zz_lb rfl) (zz_end_i (zr_153.2.1 76 rfl).1) b
  exact m
theorem zD_0x {W0 : zz_W} {l : Launch} {D : va_G} {cy : Nat → ClassId} {z0 : Nat} {sp : Nat → Nat} {G : State → Prop} {d : Nat} (hG : zz_GF z0 G) (hP : ∀ U, G U → zz_GD zS zS2 zLg z0 sp U) (hsp : sp 18446744073709551616 = 0) {v N M c : Nat} {w : zz_W} (r : zBr W0 v N M c w) {p0 : Int32} {f : Nat} (ho : zF p0 26 6 = 0) (hf : zz_at 32 zc_14 (zF p0 0 6) = f) (h51 : f < 51) {fo fx ba : Nat} (l1 : fo < 15) (q1 : zz_ki zS2 2000002 f = some fo) (q2 : zz_ki zS2 2000003 fo = some fx) (q3 : zz_ki zS2 2000004 f = some ba) (hq : ¬ p0 &&& Int32.ofNat fx = Int32.ofNat ba) : zz_M l zTs D zcl zFK cy z0 sp (zTys cy) G zYN zCN zMQ zRT (d + 1) 153 [.ref 12, .int p0] w [.int (Int32.ofNat 4294967295)] w := by
  have T := zt_153 (l := l) (D := D) (cy := cy) (z0 := z0) (sp := sp) (G := G) (d := d) zz_k0_KS hG hP
  have TK := fun (K : zz_K) (h : zz_KS l D zcl zFK cy z0 sp (zTys cy) G zYN (fun y => Cond.code (zYN y) (zCN y) (zMQ y) (zRT y) :: zTs) d K) => zt_153 h hG hP
  have b := zz_B_rf (l := l) (Ts := zTs) (D := D) (cl := zcl) (fk := zFK) (cy := cy) (z0 := z0) (sp := sp) (tys := zTys cy) (G := G) (own := "ToolMill$Codes") (mn := "decode") (nL := 4) (cc := prog_3_method_2_code) (d := d) ((0, [(0, .ref 12), (1, .int p0)], [], w) : zz_F)
  replace b := zz_fw b T (rfl : zz_ent zP_153 0 = (0, za_iload 1 1)) (ze_iload rfl)
  replace b := zz_fw b T (rfl : zz_ent zP_153 1 = (0, za_const (.int (Int32.ofNat 26)) 3)) (ze_const)
  replace b := zz_fw b T (rfl : zz_ent zP_153 3 = (0, za_iushr 4)) (ze_iushr (zF_hi p0))
  replace b := zz_fw b T (rfl : zz_ent zP_153 4 = (0, za_istore 2 5)) (ze_istore (lv' := [(0, _), (1, _)]) rfl)
  replace b := zz_fw b T (rfl : zz_ent zP_153 5 = (0, za_iload 2 6)) (ze_iload rfl)
  replace b := zz_fw b T (rfl : zz_ent zP_153 6 = (0, za_if_ne 21 9)) (ze_if_ne_f (not_not_intro (by rw [ho]; rfl)))
  replace b := zz_fw b T (rfl : zz_ent zP_153 9 = (0, za_aload 0 10)) (ze_aload rfl)
  replace b := zz_fw b T (rfl : zz_ent zP_153 10 = (0, za_getA 3 2 13)) (ze_getA (zBr_f12 r) (by decide) (zBr_v12_2 r))
  replace b := zz_fw b T (rfl : zz_ent zP_153 13 = (0, za_iload 1 14)) (ze_iload rfl)
  replace b := zz_fw b T (rfl : zz_ent zP_153 14 = (0, za_const (.int (Int32.ofNat 63)) 16)) (ze_const)
  replace b := zz_fw b T (rfl : zz_ent zP_153 16 = (0, za_iand 17)) (ze_iand (zF_lo p0 6 63 (by decide) rfl))
  replace b := zz_fw b T (rfl : zz_ent zP_153 17 = (0, za_aldI 0 18)) (ze_aldI (zBr_f14 r) (by have := zF_lt p0 0 6; rw [zz_nI_ofNat (by omega)]; omega) (by decide) (by rw [zz_nI_ofNat (by have := zF_lt p0 0 6; omega), hf]))
  replace b := zz_fw b T (rfl : zz_ent zP_153 18 = (0, za_goto 47)) (ze_goto)
  replace b := zz_fw b T (rfl : zz_ent zP_153 47 = (0, za_istore 3 48)) (ze_istore (lv' := [(2, _), (0, _), (1, _)]) rfl)
  replace b := zz_fw b T (rfl : zz_ent zP_153 48 = (0, za_iload 3 49)) (ze_iload rfl)
  replace b := zz_fw b T (rfl : zz_ent zP_153 49 = (0, za_if_lt 75 52)) (ze_if_lt_f (zl_51 f h51))
  replace b := zz_fw b T (rfl : zz_ent zP_153 52 = (0, za_iload 1 53)) (ze_iload rfl)
  replace b := zz_fw b T (rfl : zz_ent zP_153 53 = (0, za_const (.ref 2000003) 56)) (ze_const)
  replace b := zz_fw b T (rfl : zz_ent zP_153 56 = (0, za_const (.ref 2000002) 59)) (ze_const)
  replace b := zz_fw b T (rfl : zz_ent zP_153 59 = (0, za_iload 3 60)) (ze_iload rfl)
  replace b := zz_fw b T (rfl : zz_ent zP_153 60 = (0, za_kl (zz_ki zS2) 61)) (ze_kl (by rw [zz_nI_ofNat (by omega)]; exact q1) rfl)
  replace b := zz_fw b T (rfl : zz_ent zP_153 61 = (0, za_kl (zz_ki zS2) 62)) (ze_kl (by rw [zz_nI_ofNat (by omega)]; exact q2) rfl)
  replace b := zz_fw b T (rfl : zz_ent zP_153 62 = (0, za_iand 63)) (ze_iand rfl)
  replace b := zz_fw b T (rfl : zz_ent zP_153 63 = (0, za_const (.ref 2000004) 66)) (ze_const)
  replace b := zz_fw b T (rfl : zz_ent zP_153 66 = (0, za_iload 3 67)) (ze_iload rfl)
  replace b := zz_fw b T (rfl : zz_ent zP_153 67 = (0, za_kl (zz_ki zS2) 68)) (ze_kl (by rw [zz_nI_ofNat (by omega)]; exact q3) rfl)
  replace b := zz_fw b T (rfl : zz_ent zP_153 68 = (0, za_icmp_ne 75 71)) (ze_icmp_ne_t hq)
  replace b := zz_fw b T (rfl : zz_ent zP_153 75 = (0, za_const (.int (Int32.ofNat 4294967295)) 76)) (ze_const)
  have m := zz_M_B (yn := zYN) (cn := zCN) (ml := zMQ) (rt := zRT) (y := 153) (as := [.ref 12, .int p0]) rfl rfl rfl rfl rfl (by decide +kernel) (zz_lb rfl) (zz_lb rfl) (zz_end_i (zr_153.2.1 76 rfl).1) b
  exact m
theorem zD_0n {W0 : zz_W} {l : Launch} {D : va_G} {cy : Nat → ClassId} {z0 : Nat} {sp : Nat → Nat} {G : State → Prop} {d : Nat} (hG : zz_GF z0 G) (hP : ∀ U, G U → zz_GD zS zS2 zLg z0 sp U) (hsp : sp 18446744073709551616 = 0) {v N M c : Nat} {w : zz_W} (r : zBr W0 v N M c w) {p0 : Int32} {f : Nat} (ho : zF p0 26 6 = 0) (hf : zz_at 32 zc_14 (zF p0 0 6) = f) (hn : f = 4294967295) : zz_M l zTs D zcl zFK cy z0 sp (zTys cy) G zYN zCN zMQ zRT (d + 1) 153 [.ref 12, .int p0] w [.int (Int32.ofNat 4294967295)] w := by
  have T := zt_153 (l := l) (D := D) (cy := cy) (z0 := z0) (sp := sp) (G := G) (d := d) zz_k0_KS hG hP
  have TK := fun (K : zz_K) (h : zz_KS l D zcl zFK cy z0 sp (zTys cy) G zYN (fun y => Cond.code (zYN y) (zCN y) (zMQ y) (zRT y) :: zTs) d K) => zt_153 h hG hP
  have b := zz_B_rf (l := l) (Ts := zTs) (D := D) (cl := zcl) (fk := zFK) (cy := cy) (z0 := z0) (sp := sp) (tys := zTys cy) (G := G) (own := "ToolMill$Codes") (mn := "decode") (nL := 4) (cc := prog_3_method_2_code) (d := d) ((0, [(0, .ref 12), (1, .int p0)], [], w) : zz_F)
  replace b := zz_fw b T (rfl : zz_ent zP_153 0 = (0, za_iload 1 1)) (ze_iload rfl)
  replace b := zz_fw b T (rfl : zz_ent zP_153 1 = (0, za_const (.int (Int32.ofNat 26)) 3)) (ze_const)
  replace b := zz_fw b T (rfl : zz_ent zP_153 3 = (0, za_iushr 4)) (ze_iushr (zF_hi p0))
  replace b := zz_fw b T (rfl : zz_ent zP_153 4 = (0, za_istore 2 5)) (ze_istore (lv' := [(0, _), (1, _)]) rfl)
  replace b := zz_fw b T (rfl : zz_ent zP_153 5 = (0, za_iload 2 6)) (ze_iload rfl)
  replace b := zz_fw b T (rfl : zz_ent zP_153 6 = (0, za_if_ne 21 9)) (ze_if_ne_f (not_not_intro (by rw [ho]; rfl)))
  replace b := zz_fw b T (rfl : zz_ent zP_153 9 = (0, za_aload 0 10)) (ze_aload rfl)
  replace b := zz_fw b T (rfl : zz_ent zP_153 10 = (0, za_getA 3 2 13)) (ze_getA (zBr_f12 r) (by decide) (zBr_v12_2 r))
  replace b := zz_fw b T (rfl : zz_ent zP_153 13 = (0, za_iload 1 14)) (ze_iload rfl)
  replace b := zz_fw b T (rfl : zz_ent zP_153 14 = (0, za_const (.int (Int32.ofNat 63)) 16)) (ze_const)
  replace b := zz_fw b T (rfl : zz_ent zP_153 16 = (0, za_iand 17)) (ze_iand (zF_lo p0 6 63 (by decide) rfl))
  replace b := zz_fw b T (rfl : zz_ent zP_153 17 = (0, za_aldI 0 18)) (ze_aldI (zBr_f14 r) (by have := zF_lt p0 0 6; rw [zz_nI_ofNat (by omega)]; omega) (by decide) (by rw [zz_nI_ofNat (by have := zF_lt p0 0 6; omega), hf]))
  replace b := zz_fw b T (rfl : zz_ent zP_153 18 = (0, za_goto 47)) (ze_goto)
  replace b := zz_fw b T (rfl : zz_ent zP_153 47 = (0, za_istore 3 48)) (ze_istore (lv' := [(2, _), (0, _), (1, _)]) rfl)
  replace b := zz_fw b T (rfl : zz_ent zP_153 48 = (0, za_iload 3 49)) (ze_iload rfl)
  replace b := zz_fw b T (rfl : zz_ent zP_153 49 = (0, za_if_lt 75 52)) (ze_if_lt_t (by rw [hn]; decide))
  replace b := zz_fw b T (rfl : zz_ent zP_153 75 = (0, za_const (.int (Int32.ofNat 4294967295)) 76)) (ze_const)
  have m := zz_M_B (yn := zYN) (cn := zCN) (ml := zMQ) (rt := zRT) (y := 153) (as := [.ref 12, .int p0]) rfl rfl rfl rfl rfl (by decide +kernel) (zz_lb rfl) (zz_lb rfl) (zz_end_i (zr_153.2.1 76 rfl).1) b
  exact m
theorem zD_1k {W0 : zz_W} {l : Launch} {D : va_G} {cy : Nat → ClassId} {z0 : Nat} {sp : Nat → Nat} {G : State → Prop} {d : Nat} (hG : zz_GF z0 G) (hP : ∀ U, G U → zz_GD zS zS2 zLg z0 sp U) (hsp : sp 18446744073709551616 = 0) {v N M c : Nat} {w : zz_W} (r : zBr W0 v N M c w) {p0 : Int32} {f : Nat} (ho : zF p0 26 6 = 1) (hf : zz_at 32 zc_15 (zF p0 16 5) = f) (h51 : f < 51) {fo fx ba : Nat} (l1 : fo < 15) (q1 : zz_ki zS2 2000002 f = some fo) (q2 : zz_ki zS2 2000003 fo = some fx) (q3 : zz_ki zS2 2000004 f = some ba) (hq : p0 &&& Int32.ofNat fx = Int32.ofNat ba) : zz_M l zTs D zcl zFK cy z0 sp (zTys cy) G zYN zCN zMQ zRT (d + 1) 153 [.ref 12, .int p0] w [.int (Int32.ofNat f)] w := by
  have T := zt_153 (l := l) (D := D) (cy := cy) (z0 := z0) (sp := sp) (G := G) (d := d) zz_k0_KS hG hP
  have TK := fun (K : zz_K) (h : zz_KS l D zcl zFK cy z0 sp (zTys cy) G zYN (fun y => Cond.code (zYN y) (zCN y) (zMQ y) (zRT y) :: zTs) d K) => zt_153 h hG hP
  have b := zz_B_rf (l := l) (Ts := zTs) (D := D) (cl := zcl) (fk := zFK) (cy := cy) (z0 := z0) (sp := sp) (tys := zTys cy) (G := G) (own := "ToolMill$Codes") (mn := "decode") (nL := 4) (cc := prog_3_method_2_code) (d := d) ((0, [(0, .ref 12), (1, .int p0)], [], w) : zz_F)
  replace b := zz_fw b T (rfl : zz_ent zP_153 0 = (0, za_iload 1 1)) (ze_iload rfl)
  replace b := zz_fw b T (rfl : zz_ent zP_153 1 = (0, za_const (.int (Int32.ofNat 26)) 3)) (ze_const)
  replace b := zz_fw b T (rfl : zz_ent zP_153 3 = (0, za_iushr 4)) (ze_iushr (zF_hi p0))
  replace b := zz_fw b T (rfl : zz_ent zP_153 4 = (0, za_istore 2 5)) (ze_istore (lv' := [(0, _), (1, _)]) rfl)
  replace b := zz_fw b T (rfl : zz_ent zP_153 5 = (0, za_iload 2 6)) (ze_iload rfl)
  replace b := zz_fw b T (rfl : zz_ent zP_153 6 = (0, za_if_ne 21 9)) (ze_if_ne_t (by rw [ho]; decide))
  replace b := zz_fw b T (rfl : zz_ent zP_153 21 = (0, za_iload 2 22)) (ze_iload rfl)
  replace b := zz_fw b T (rfl : zz_ent zP_153 22 = (0, za_const (.int (Int32.ofNat 1)) 23)) (ze_const)
  replace b := zz_fw b T (rfl : zz_ent zP_153 23 = (0, za_icmp_ne 41 26)) (ze_icmp_ne_f (not_not_intro (by rw [ho])))
  replace b := zz_fw b T (rfl : zz_ent zP_153 26 = (0, za_aload 0 27)) (ze_aload rfl)
  replace b := zz_fw b T (rfl : zz_ent zP_153 27 = (0, za_getA 3 3 30)) (ze_getA (zBr_f12 r) (by decide) (zBr_v12_3 r))
  replace b := zz_fw b T (rfl : zz_ent zP_153 30 = (0, za_iload 1 31)) (ze_iload rfl)
  replace b := zz_fw b T (rfl : zz_ent zP_153 31 = (0, za_const (.int (Int32.ofNat 16)) 33)) (ze_const)
  replace b := zz_fw b T (rfl : zz_ent zP_153 33 = (0, za_iushr 34)) (ze_iushr rfl)
  replace b := zz_fw b T (rfl : zz_ent zP_153 34 = (0, za_const (.int (Int32.ofNat 31)) 36)) (ze_const)
  replace b := zz_fw b T (rfl : zz_ent zP_153 36 = (0, za_iand 37)) (ze_iand (zF_eq p0 16 5 31 (by decide) (by decide) rfl))
  replace b := zz_fw b T (rfl : zz_ent zP_153 37 = (0, za_aldI 0 38)) (ze_aldI (zBr_f15 r) (by have := zF_lt p0 16 5; rw [zz_nI_ofNat (by omega)]; omega) (by decide) (by rw [zz_nI_ofNat (by have := zF_lt p0 16 5; omega), hf]))
  replace b := zz_fw b T (rfl : zz_ent zP_153 38 = (0, za_goto 47)) (ze_goto)
  replace b := zz_fw b T (rfl : zz_ent zP_153 47 = (0, za_istore 3 48)) (ze_istore (lv' := [(2, _), (0, _), (1, _)]) rfl)
  replace b := zz_fw b T (rfl : zz_ent zP_153 48 = (0, za_iload 3 49)) (ze_iload rfl)
  replace b := zz_fw b T (rfl : zz_ent zP_153 49 = (0, za_if_lt 75 52)) (ze_if_lt_f (zl_51 f h51))
  replace b := zz_fw b T (rfl : zz_ent zP_153 52 = (0, za_iload 1 53)) (ze_iload rfl)
  replace b := zz_fw b T (rfl : zz_ent zP_153 53 = (0, za_const (.ref 2000003) 56)) (ze_const)
  replace b := zz_fw b T (rfl : zz_ent zP_153 56 = (0, za_const (.ref 2000002) 59)) (ze_const)
  replace b := zz_fw b T (rfl : zz_ent zP_153 59 = (0, za_iload 3 60)) (ze_iload rfl)
  replace b := zz_fw b T (rfl : zz_ent zP_153 60 = (0, za_kl (zz_ki zS2) 61)) (ze_kl (by rw [zz_nI_ofNat (by omega)]; exact q1) rfl)
  replace b := zz_fw b T (rfl : zz_ent zP_153 61 = (0, za_kl (zz_ki zS2) 62)) (ze_kl (by rw [zz_nI_ofNat (by omega)]; exact q2) rfl)
  replace b := zz_fw b T (rfl : zz_ent zP_153 62 = (0, za_iand 63)) (ze_iand rfl)
  replace b := zz_fw b T (rfl : zz_ent zP_153 63 = (0, za_const (.ref 2000004) 66)) (ze_const)
  replace b := zz_fw b T (rfl : zz_ent zP_153 66 = (0, za_iload 3 67)) (ze_iload rfl)
  replace b := zz_fw b T (rfl : zz_ent zP_153 67 = (0, za_kl (zz_ki zS2) 68)) (ze_kl (by rw [zz_nI_ofNat (by omega)]; exact q3) rfl)
  replace b := zz_fw b T (rfl : zz_ent zP_153 68 = (0, za_icmp_ne 75 71)) (ze_icmp_ne_f (not_not_intro hq))
  replace b := zz_fw b T (rfl : zz_ent zP_153 71 = (0, za_iload 3 72)) (ze_iload rfl)
  replace b := zz_fw b T (rfl : zz_ent zP_153 72 = (0, za_goto 76)) (ze_goto)
  have m := zz_M_B (yn := zYN) (cn := zCN) (ml := zMQ) (rt := zRT) (y := 153) (as := [.ref 12, .int p0]) rfl rfl rfl rfl rfl (by decide +kernel) (zz_lb rfl) (zz_lb rfl) (zz_end_i (zr_153.2.1 76 rfl).1) b
  exact m
theorem zD_1n {W0 : zz_W} {l : Launch} {D : va_G} {cy : Nat → ClassId} {z0 : Nat} {sp : Nat → Nat} {G : State → Prop} {d : Nat} (hG : zz_GF z0 G) (hP : ∀ U, G U → zz_GD zS zS2 zLg z0 sp U) (hsp : sp 18446744073709551616 = 0) {v N M c : Nat} {w : zz_W} (r : zBr W0 v N M c w) {p0 : Int32} {f : Nat} (ho : zF p0 26 6 = 1) (hf : zz_at 32 zc_15 (zF p0 16 5) = f) (hn : f = 4294967295) : zz_M l zTs D zcl zFK cy z0 sp (zTys cy) G zYN zCN zMQ zRT (d + 1) 153 [.ref 12, .int p0] w [.int (Int32.ofNat 4294967295)] w := by
  have T := zt_153 (l := l) (D := D) (cy := cy) (z0 := z0) (sp := sp) (G := G) (d := d) zz_k0_KS hG hP
  have TK := fun (K : zz_K) (h : zz_KS l D zcl zFK cy z0 sp (zTys cy) G zYN (fun y => Cond.code (zYN y) (zCN y) (zMQ y) (zRT y) :: zTs) d K) => zt_153 h hG hP
  have b := zz_B_rf (l := l) (Ts := zTs) (D := D) (cl := zcl) (fk := zFK) (cy := cy) (z0 := z0) (sp := sp) (tys := zTys cy) (G := G) (own := "ToolMill$Codes") (mn := "decode") (nL := 4) (cc := prog_3_method_2_code) (d := d) ((0, [(0, .ref 12), (1, .int p0)], [], w) : zz_F)
  replace b := zz_fw b T (rfl : zz_ent zP_153 0 = (0, za_iload 1 1)) (ze_iload rfl)
  replace b := zz_fw b T (rfl : zz_ent zP_153 1 = (0, za_const (.int (Int32.ofNat 26)) 3)) (ze_const)
  replace b := zz_fw b T (rfl : zz_ent zP_153 3 = (0, za_iushr 4)) (ze_iushr (zF_hi p0))
  replace b := zz_fw b T (rfl : zz_ent zP_153 4 = (0, za_istore 2 5)) (ze_istore (lv' := [(0, _), (1, _)]) rfl)
  replace b := zz_fw b T (rfl : zz_ent zP_153 5 = (0, za_iload 2 6)) (ze_iload rfl)
  replace b := zz_fw b T (rfl : zz_ent zP_153 6 = (0, za_if_ne 21 9)) (ze_if_ne_t (by rw [ho]; decide))
  replace b := zz_fw b T (rfl : zz_ent zP_153 21 = (0, za_iload 2 22)) (ze_iload rfl)
  replace b := zz_fw b T (rfl : zz_ent zP_153 22 = (0, za_const (.int (Int32.ofNat 1)) 23)) (ze_const)
  replace b := zz_fw b T (rfl : zz_ent zP_153 23 = (0, za_icmp_ne 41 26)) (ze_icmp_ne_f (not_not_intro (by rw [ho])))
  replace b := zz_fw b T (rfl : zz_ent zP_153 26 = (0, za_aload 0 27)) (ze_aload rfl)
  replace b := zz_fw b T (rfl : zz_ent zP_153 27 = (0, za_getA 3 3 30)) (ze_getA (zBr_f12 r) (by decide) (zBr_v12_3 r))
  replace b := zz_fw b T (rfl : zz_ent zP_153 30 = (0, za_iload 1 31)) (ze_iload rfl)
  replace b := zz_fw b T (rfl : zz_ent zP_153 31 = (0, za_const (.int (Int32.ofNat 16)) 33)) (ze_const)
  replace b := zz_fw b T (rfl : zz_ent zP_153 33 = (0, za_iushr 34)) (ze_iushr rfl)
  replace b := zz_fw b T (rfl : zz_ent zP_153 34 = (0, za_const (.int (Int32.ofNat 31)) 36)) (ze_const)
  replace b := zz_fw b T (rfl : zz_ent zP_153 36 = (0, za_iand 37)) (ze_iand (zF_eq p0 16 5 31 (by decide) (by decide) rfl))
  replace b := zz_fw b T (rfl : zz_ent zP_153 37 = (0, za_aldI 0 38)) (ze_aldI (zBr_f15 r) (by have := zF_lt p0 16 5; rw [zz_nI_ofNat (by omega)]; omega) (by decide) (by rw [zz_nI_ofNat (by have := zF_lt p0 16 5; omega), hf]))
  replace b := zz_fw b T (rfl : zz_ent zP_153 38 = (0, za_goto 47)) (ze_goto)
  replace b := zz_fw b T (rfl : zz_ent zP_153 47 = (0, za_istore 3 48)) (ze_istore (lv' := [(2, _), (0, _), (1, _)]) rfl)
  replace b := zz_fw b T (rfl : zz_ent zP_153 48 = (0, za_iload 3 49)) (ze_iload rfl)
  replace b := zz_fw b T (rfl : zz_ent zP_153 49 = (0, za_if_lt 75 52)) (ze_if_lt_t (by rw [hn]; decide))
  replace b := zz_fw b T (rfl : zz_ent zP_153 75 = (0, za_const (.int (Int32.ofNat 4294967295)) 76)) (ze_const)
  have m := zz_M_B (yn := zYN) (cn := zCN) (ml := zMQ) (rt := zRT) (y := 153) (as := [.ref 12, .int p0]) rfl rfl rfl rfl rfl (by decide +kernel) (zz_lb rfl) (zz_lb rfl) (zz_end_i (zr_153.2.1 76 rfl).1) b
  exact m
theorem zD_2k {W0 : zz_W} {l : Launch} {D : va_G} {cy : Nat → ClassId} {z0 : Nat} {sp : Nat → Nat} {G : State → Prop} {d : Nat} (hG : zz_GF z0 G) (hP : ∀ U, G U → zz_GD zS zS2 zLg z0 sp U) (hsp : sp 18446744073709551616 = 0) {v N M c : Nat} {w : zz_W} (r : zBr W0 v N M c w) {p0 : Int32} {f : Nat} (h0 : ¬ zF p0 26 6 = 0) (h1 : ¬ zF p0 26 6 = 1) (hf : zz_at 32 zc_13 (zF p0 26 6) = f) (h51 : f < 51) {fo fx ba : Nat} (l1 : fo < 15) (q1 : zz_ki zS2 2000002 f = some fo) (q2 : zz_ki zS2 2000003 fo = some fx) (q3 : zz_ki zS2 2000004 f = some ba) (hq : p0 &&& Int32.ofNat fx = Int32.ofNat ba) : zz_M l zTs D zcl zFK cy z0 sp (zTys cy) G zYN zCN zMQ zRT (d + 1) 153 [.ref 12, .int p0] w [.int (Int32.ofNat f)] w := by
  have T := zt_153 (l := l) (D := D) (cy := cy) (z0 := z0) (sp := sp) (G := G) (d := d) zz_k0_KS hG hP
  have TK := fun (K : zz_K) (h : zz_KS l D zcl zFK cy z0 sp (zTys cy) G zYN (fun y => Cond.code (zYN y) (zCN y) (zMQ y) (zRT y) :: zTs) d K) => zt_153 h hG hP
  have b := zz_B_rf (l := l) (Ts := zTs) (D := D) (cl := zcl) (fk := zFK) (cy := cy) (z0 := z0) (sp := sp) (tys := zTys cy) (G := G) (own := "ToolMill$Codes") (mn := "decode") (nL := 4) (cc := prog_3_method_2_code) (d := d) ((0, [(0, .ref 12), (1, .int p0)], [], w) : zz_F)
  replace b := zz_fw b T (rfl : zz_ent zP_153 0 = (0, za_iload 1 1)) (ze_iload rfl)
  replace b := zz_fw b T (rfl : zz_ent zP_153 1 = (0, za_const (.int (Int32.ofNat 26)) 3)) (ze_const)
  replace b := zz_fw b T (rfl : zz_ent zP_153 3 = (0, za_iushr 4)) (ze_iushr (zF_hi p0))
  replace b := zz_fw b T (rfl : zz_ent zP_153 4 = (0, za_istore 2 5)) (ze_istore (lv' := [(0, _), (1, _)]) rfl)
  replace b := zz_fw b T (rfl : zz_ent zP_153 5 = (0, za_iload 2 6)) (ze_iload rfl)
  replace b := zz_fw b T (rfl : zz_ent zP_153 6 = (0, za_if_ne 21 9)) (ze_if_ne_t (zl_n0 _ (zF_lt p0 26 6) h0))
  replace b := zz_fw b T (rfl : zz_ent zP_153 21 = (0, za_iload 2 22)) (ze_iload rfl)
  replace b := zz_fw b T (rfl : zz_ent zP_153 22 = (0, za_const (.int (Int32.ofNat 1)) 23)) (ze_const)
  replace b := zz_fw b T (rfl : zz_ent zP_153 23 = (0, za_icmp_ne 41 26)) (ze_icmp_ne_t (zl_n1 _ (zF_lt p0 26 6) h1))
  replace b := zz_fw b T (rfl : zz_ent zP_153 41 = (0, za_aload 0 42)) (ze_aload rfl)
  replace b := zz_fw b T (rfl : zz_ent zP_153 42 = (0, za_getA 3 1 45)) (ze_getA (zBr_f12 r) (by decide) (zBr_v12_1 r))
  replace b := zz_fw b T (rfl : zz_ent zP_153 45 = (0, za_iload 2 46)) (ze_iload rfl)
  replace b := zz_fw b T (rfl : zz_ent zP_153 46 = (0, za_aldI 0 47)) (ze_aldI (zBr_f13 r) (by have := zF_lt p0 26 6; rw [zz_nI_ofNat (by omega)]; omega) (by decide) (by rw [zz_nI_ofNat (by have := zF_lt p0 26 6; omega), hf]))
  replace b := zz_fw b T (rfl : zz_ent zP_153 47 = (0, za_istore 3 48)) (ze_istore (lv' := [(2, _), (0, _), (1, _)]) rfl)
  replace b := zz_fw b T (rfl : zz_ent zP_153 48 = (0, za_iload 3 49)) (ze_iload rfl)
  replace b := zz_fw b T (rfl : zz_ent zP_153 49 = (0, za_if_lt 75 52)) (ze_if_lt_f (zl_51 f h51))
  replace b := zz_fw b T (rfl : zz_ent zP_153 52 = (0, za_iload 1 53)) (ze_iload rfl)
  replace b := zz_fw b T (rfl : zz_ent zP_153 53 = (0, za_const (.ref 2000003) 56)) (ze_const)
  replace b := zz_fw b T (rfl : zz_ent zP_153 56 = (0, za_const (.ref 2000002) 59)) (ze_const)
  replace b := zz_fw b T (rfl : zz_ent zP_153 59 = (0, za_iload 3 60)) (ze_iload rfl)
  replace b := zz_fw b T (rfl : zz_ent zP_153 60 = (0, za_kl (zz_ki zS2) 61)) (ze_kl (by rw [zz_nI_ofNat (by omega)]; exact q1) rfl)
  replace b := zz_fw b T (rfl : zz_ent zP_153 61 = (0, za_kl (zz_ki zS2) 62)) (ze_kl (by rw [zz_nI_ofNat (by omega)]; exact q2) rfl)
  replace b := zz_fw b T (rfl : zz_ent zP_153 62 = (0, za_iand 63)) (ze_iand rfl)
  replace b := zz_fw b T (rfl : zz_ent zP_153 63 = (0, za_const (.ref 2000004) 66)) (ze_const)
  replace b := zz_fw b T (rfl : zz_ent zP_153 66 = (0, za_iload 3 67)) (ze_iload rfl)
  replace b := zz_fw b T (rfl : zz_ent zP_153 67 = (0, za_kl (zz_ki zS2) 68)) (ze_kl (by rw [zz_nI_ofNat (by omega)]; exact q3) rfl)
  replace b := zz_fw b T (rfl : zz_ent zP_153 68 = (0, za_icmp_ne 75 71)) (ze_icmp_ne_f (not_not_intro hq))
  replace b := zz_fw b T (rfl : zz_ent zP_153 71 = (0, za_iload 3 72)) (ze_iload rfl)
  replace b := zz_fw b T (rfl : zz_ent zP_153 72 = (0, za_goto 76)) (ze_goto)
  have m := zz_M_B (yn := zYN) (cn := zCN) (ml := zMQ) (rt := zRT) (y := 153) (as := [.ref 12, .int p0]) rfl rfl rfl rfl rfl (by decide +kernel) (zz_lb rfl) (zz_lb rfl) (zz_end_i (zr_153.2.1 76 rfl).1) b
  exact m
theorem zD_2x {W0 : zz_W} {l : Launch} {D : va_G} {cy : Nat → ClassId} {z0 : Nat} {sp : Nat → Nat} {G : State → Prop} {d : Nat} (hG : zz_GF z0 G) (hP : ∀ U, G U → zz_GD zS zS2 zLg z0 sp U) (hsp : sp 18446744073709551616 = 0) {v N M c : Nat} {w : zz_W} (r : zBr W0 v N M c w) {p0 : Int32} {f : Nat} (h0 : ¬ zF p0 26 6 = 0) (h1 : ¬ zF p0 26 6 = 1) (hf : zz_at 32 zc_13 (zF p0 26 6) = f) (h51 : f < 51) {fo fx ba : Nat} (l1 : fo < 15) (q1 : zz_ki zS2 2000002 f = some fo) (q2 : zz_ki zS2 2000003 fo = some fx) (q3 : zz_ki zS2 2000004 f = some ba) (hq : ¬ p0 &&& Int32.ofNat fx = Int32.ofNat ba) : zz_M l zTs D zcl zFK cy z0 sp (zTys cy) G zYN zCN zMQ zRT (d + 1) 153 [.ref 12, .int p0] w [.int (Int32.ofNat 4294967295)] w := by
  have T := zt_153 (l := l) (D := D) (cy := cy) (z0 := z0) (sp := sp) (G := G) (d := d) zz_k0_KS hG hP
  have TK := fun (K : zz_K) (h : zz_KS l D zcl zFK cy z0 sp (zTys cy) G zYN (fun y => Cond.code (zYN y) (zCN y) (zMQ y) (zRT y) :: zTs) d K) => zt_153 h hG hP
  have b := zz_B_rf (l := l) (Ts := zTs) (D := D) (cl := zcl) (fk := zFK) (cy := cy) (z0 := z0) (sp := sp) (tys := zTys cy) (G := G) (own := "ToolMill$Codes") (mn := "decode") (nL := 4) (cc := prog_3_method_2_code) (d := d) ((0, [(0, .ref 12), (1, .int p0)], [], w) : zz_F)
  replace b := zz_fw b T (rfl : zz_ent zP_153 0 = (0, za_iload 1 1)) (ze_iload rfl)
  replace b := zz_fw b T (rfl : zz_ent zP_153 1 = (0, za_const (.int (Int32.ofNat 26)) 3)) (ze_const)
  replace b := zz_fw b T (rfl : zz_ent zP_153 3 = (0, za_iushr 4)) (ze_iushr (zF_hi p0))
  replace b := zz_fw b T (rfl : zz_ent zP_153 4 = (0, za_istore 2 5)) (ze_istore (lv' := [(0, _), (1, _)]) rfl)
  replace b := zz_fw b T (rfl : zz_ent zP_153 5 = (0, za_iload 2 6)) (ze_iload rfl)
  replace b := zz_fw b T (rfl : zz_ent zP_153 6 = (0, za_if_ne 21 9)) (ze_if_ne_t (zl_n0 _ (zF_lt p0 26 6) h0))
  replace b := zz_fw b T (rfl : zz_ent zP_153 21 = (0, za_iload 2 22)) (ze_iload rfl)
  replace b := zz_fw b T (rfl : zz_ent zP_153 22 = (0, za_const (.int (Int32.ofNat 1)) 23)) (ze_const)
  replace b := zz_fw b T (rfl : zz_ent zP_153 23 = (0, za_icmp_ne 41 26)) (ze_icmp_ne_t (zl_n1 _ (zF_lt p0 26 6) h1))
  replace b := zz_fw b T (rfl : zz_ent zP_153 41 = (0, za_aload 0 42)) (ze_aload rfl)
  replace b := zz_fw b T (rfl : zz_ent zP_153 42 = (0, za_getA 3 1 45)) (ze_getA (zBr_f12 r) (by decide) (zBr_v12_1 r))
  replace b := zz_fw b T (rfl : zz_ent zP_153 45 = (0, za_iload 2 46)) (ze_iload rfl)
  replace b := zz_fw b T (rfl : zz_ent zP_153 46 = (0, za_aldI 0 47)) (ze_aldI (zBr_f13 r) (by have := zF_lt p0 26 6; rw [zz_nI_ofNat (by omega)]; omega) (by decide) (by rw [zz_nI_ofNat (by have := zF_lt p0 26 6; omega), hf]))
  replace b := zz_fw b T (rfl : zz_ent zP_153 47 = (0, za_istore 3 48)) (ze_istore (lv' := [(2, _), (0, _), (1, _)]) rfl)
  replace b := zz_fw b T (rfl : zz_ent zP_153 48 = (0, za_iload 3 49)) (ze_iload rfl)
  replace b := zz_fw b T (rfl : zz_ent zP_153 49 = (0, za_if_lt 75 52)) (ze_if_lt_f (zl_51 f h51))
  replace b := zz_fw b T (rfl : zz_ent zP_153 52 = (0, za_iload 1 53)) (ze_iload rfl)
  replace b := zz_fw b T (rfl : zz_ent zP_153 53 = (0, za_const (.ref 2000003) 56)) (ze_const)
  replace b := zz_fw b T (rfl : zz_ent zP_153 56 = (0, za_const (.ref 2000002) 59)) (ze_const)
  replace b := zz_fw b T (rfl : zz_ent zP_153 59 = (0, za_iload 3 60)) (ze_iload rfl)
  replace b := zz_fw b T (rfl : zz_ent zP_153 60 = (0, za_kl (zz_ki zS2) 61)) (ze_kl (by rw [zz_nI_ofNat (by omega)]; exact q1) rfl)
  replace b := zz_fw b T (rfl : zz_ent zP_153 61 = (0, za_kl (zz_ki zS2) 62)) (ze_kl (by rw [zz_nI_ofNat (by omega)]; exact q2) rfl)
  replace b := zz_fw b T (rfl : zz_ent zP_153 62 = (0, za_iand 63)) (ze_iand rfl)
  replace b := zz_fw b T (rfl : zz_ent zP_153 63 = (0, za_const (.ref 2000004) 66)) (ze_const)
  replace b := zz_fw b T (rfl : zz_ent zP_153 66 = (0, za_iload 3 67)) (ze_iload rfl)
  replace b := zz_fw b T (rfl : zz_ent zP_153 67 = (0, za_kl (zz_ki zS2) 68)) (ze_kl (by rw [zz_nI_ofNat (by omega)]; exact q3) rfl)
  replace b := zz_fw b T (rfl : zz_ent zP_153 68 = (0, za_icmp_ne 75 71)) (ze_icmp_ne_t hq)
  replace b := zz_fw b T (rfl : zz_ent zP_153 75 = (0, za_const (.int (Int32.ofNat 4294967295)) 76)) (ze_const)
  have m := zz_M_B (yn := zYN) (cn := zCN) (ml := zMQ) (rt := zRT) (y := 153) (as := [.ref 12, .int p0]) rfl rfl rfl rfl rfl (by decide +kernel) (zz_lb rfl) (zz_lb rfl) (zz_end_i (zr_153.2.1 76 rfl).1) b
  exact m
theorem zD_2n {W0 : zz_W} {l : Launch} {D : va_G} {cy : Nat → ClassId} {z0 : Nat} {sp : Nat → Nat} {G : State → Prop} {d : Nat} (hG : zz_GF z0 G) (hP : ∀ U, G U → zz_GD zS zS2 zLg z0 sp U) (hsp : sp 18446744073709551616 = 0) {v N M c : Nat} {w : zz_W} (r : zBr W0 v N M c w) {p0 : Int32} {f : Nat} (h0 : ¬ zF p0 26 6 = 0) (h1 : ¬ zF p0 26 6 = 1) (hf : zz_at 32 zc_13 (zF p0 26 6) = f) (hn : f = 4294967295) : zz_M l zTs D zcl zFK cy z0 sp (zTys cy) G zYN zCN zMQ zRT (d + 1) 153 [.ref 12, .int p0] w [.int (Int32.ofNat 4294967295)] w := by
  have T := zt_153 (l := l) (D := D) (cy := cy) (z0 := z0) (sp := sp) (G := G) (d := d) zz_k0_KS hG hP
  have TK := fun (K : zz_K) (h : zz_KS l D zcl zFK cy z0 sp (zTys cy) G zYN (fun y => Cond.code (zYN y) (zCN y) (zMQ y) (zRT y) :: zTs) d K) => zt_153 h hG hP
  have b := zz_B_rf (l := l) (Ts := zTs) (D := D) (cl := zcl) (fk := zFK) (cy := cy) (z0 := z0) (sp := sp) (tys := zTys cy) (G := G) (own := "ToolMill$Codes") (mn := "decode") (nL := 4) (cc := prog_3_method_2_code) (d := d) ((0, [(0, .ref 12), (1, .int p0)], [], w) : zz_F)
  replace b := zz_fw b T (rfl : zz_ent zP_153 0 = (0, za_iload 1 1)) (ze_iload rfl)
  replace b := zz_fw b T (rfl : zz_ent zP_153 1 = (0, za_const (.int (Int32.ofNat 26)) 3)) (ze_const)
  replace b := zz_fw b T (rfl : zz_ent zP_153 3 = (0, za_iushr 4)) (ze_iushr (zF_hi p0))
  replace b := zz_fw b T (rfl : zz_ent zP_153 4 = (0, za_istore 2 5)) (ze_istore (lv' := [(0, _), (1, _)]) rfl)
  replace b := zz_fw b T (rfl : zz_ent zP_153 5 = (0, za_iload 2 6)) (ze_iload rfl)
  replace b := zz_fw b T (rfl : zz_ent zP_153 6 = (0, za_if_ne 21 9)) (ze_if_ne_t (zl_n0 _ (zF_lt p0 26 6) h0))
  replace b := zz_fw b T (rfl : zz_ent zP_153 21 = (0, za_iload 2 22)) (ze_iload rfl)
  replace b := zz_fw b T (rfl : zz_ent zP_153 22 = (0, za_const (.int (Int32.ofNat 1)) 23)) (ze_const)
  replace b := zz_fw b T (rfl : zz_ent zP_153 23 = (0, za_icmp_ne 41 26)) (ze_icmp_ne_t (zl_n1 _ (zF_lt p0 26 6) h1))
  replace b := zz_fw b T (rfl : zz_ent zP_153 41 = (0, za_aload 0 42)) (ze_aload rfl)
  replace b := zz_fw b T (rfl : zz_ent zP_153 42 = (0, za_getA 3 1 45)) (ze_getA (zBr_f12 r) (by decide) (zBr_v12_1 r))
  replace b := zz_fw b T (rfl : zz_ent zP_153 45 = (0, za_iload 2 46)) (ze_iload rfl)
  replace b := zz_fw b T (rfl : zz_ent zP_153 46 = (0, za_aldI 0 47)) (ze_aldI (zBr_f13 r) (by have := zF_lt p0 26 6; rw [zz_nI_ofNat (by omega)]; omega) (by decide) (by rw [zz_nI_ofNat (by have := zF_lt p0 26 6; omega), hf]))
  replace b := zz_fw b T (rfl : zz_ent zP_153 47 = (0, za_istore 3 48)) (ze_istore (lv' := [(2, _), (0, _), (1, _)]) rfl)
  replace b := zz_fw b T (rfl : zz_ent zP_153 48 = (0, za_iload 3 49)) (ze_iload rfl)
  replace b := zz_fw b T (rfl : zz_ent zP_153 49 = (0, za_if_lt 75 52)) (ze_if_lt_t (by rw [hn]; decide))
  replace b := zz_fw b T (rfl : zz_ent zP_153 75 = (0, za_const (.int (Int32.ofNat 4294967295)) 76)) (ze_const)
  have m := zz_M_B (yn := zYN) (cn := zCN) (ml := zMQ) (rt := zRT) (y := 153) (as := [.ref 12, .int p0]) rfl rfl rfl rfl rfl (by decide +kernel) (zz_lb rfl) (zz_lb rfl) (zz_end_i (zr_153.2.1 76 rfl).1) b
  exact m
/-- sign k of the class's name id, and the name -/
noncomputable def zcs (id k : Nat) : Int64 := ((Int64.ofNat (zz_at 64 zc_5 (zz_nI (Int32.ofNat id)))).toUInt64 >>> ((Int32.ofNat 8 * Int32.ofNat k).toInt64.toUInt64 &&& Int64.toUInt64 63)).toInt64 &&& Int64.ofNat 255
noncomputable def zNc (id : Nat) : List Nat := ((List.range 8).map fun k => zz_nI (zcs id k).toInt32).takeWhile fun x => !Nat.beq x 0
def zIds : List Nat := List.range 51 ++ (List.range 32).map (93 + ·)
theorem zNc_all : zIds.all (fun id => Nat.blt (zNc id).length 8 && (decide (lg_cmp (zcs id (zNc id).length) (Int64.ofNat 0) = 0) && (List.range (zNc id).length).all (fun k => !decide (lg_cmp (zcs id k) (Int64.ofNat 0) = 0) && (decide (((zcs id k).toInt32.toUInt32 % 65536).toInt32 = Int32.ofNat ((zNc id).getD k 0)) && Nat.blt ((zNc id).getD k 0) 128)))) = true := by decide +kernel
theorem zNc_ok {id : Nat} (h : id ∈ zIds) : (zNc id).length < 8 ∧ lg_cmp (zcs id (zNc id).length) (Int64.ofNat 0) = 0 ∧ ∀ k, k < (zNc id).length → ¬ lg_cmp (zcs id k) (Int64.ofNat 0) = 0 ∧ ((zcs id k).toInt32.toUInt32 % 65536).toInt32 = Int32.ofNat ((zNc id).getD k 0) ∧ (zNc id).getD k 0 < 128 := by
  have h1 := List.all_eq_true.mp zNc_all id h
  obtain ⟨a, h1⟩ := zz_and h1
  obtain ⟨b, h1⟩ := zz_and h1
  refine ⟨zz_blt a, of_decide_eq_true b, fun k hk => ?_⟩
  have h2 := List.all_eq_true.mp h1 k (List.mem_range.mpr hk)
  obtain ⟨c, h2⟩ := zz_and h2
  obtain ⟨e, f⟩ := zz_and h2
  refine ⟨fun q => ?_, of_decide_eq_true e, zz_blt f⟩
  rw [decide_eq_true q] at c
  cases c
theorem zIds_op {f : Nat} (h : f < 51) : f ∈ zIds := List.mem_append_left _ (List.mem_range.mpr h)
theorem zIds_rg {f : Nat} (h : f < 32) : 93 + f ∈ zIds := List.mem_append_right _ (List.mem_map.mpr ⟨f, List.mem_range.mpr h, rfl⟩)
theorem zIds_le {f : Nat} (h : f ∈ zIds) : f < 125 := by
  unfold zIds at h
  rcases List.mem_append.mp h with h | h
  · have := List.mem_range.mp h; omega
  · obtain ⟨x, h1, h2⟩ := List.mem_map.mp h
    have := List.mem_range.mp h1
    omega
theorem zls_8 : ∀ k, k < 8 → ¬ Int32.ofNat 8 ≤ Int32.ofNat k := by decide +kernel
theorem zB_r {W0 : zz_W} {T : List Nat} {w : zz_W} (hB : zB W0 T w) : ∃ v N M c, zBr W0 v N M c w := by
  obtain ⟨v, N, M, c, r, -⟩ := hB
  exact ⟨v, N, M, c, r⟩
theorem zB_12 {W0 : zz_W} {T : List Nat} {w : zz_W} (hB : zB W0 T w) : zz_ic w 12 3 = true := by
  obtain ⟨v, N, M, c, r, -⟩ := hB
  exact zz_has_c (zBr_f12 r)
theorem znm_s {W0 : zz_W} {l : Launch} {D : va_G} {cy : Nat → ClassId} {z0 : Nat} {sp : Nat → Nat} {G : State → Prop} {d : Nat} (hG : zz_GF z0 G) (hP : ∀ U, G U → zz_GD zS zS2 zLg z0 sp U) (hsp : sp 18446744073709551616 = 0) {T : List Nat} {w : zz_W} (hB : zB W0 T w) {id k : Nat} (hi : id < 125) (hk : k < 8) {x : Nat} (hT : T.length < 33) (h1 : ¬ lg_cmp (zcs id k) (Int64.ofNat 0) = 0) (h2 : ((zcs id k).toInt32.toUInt32 % 65536).toInt32 = Int32.ofNat x) (hx7 : x < 128) : ∃ w', zz_B l zTs D zcl zFK cy z0 sp (zTys cy) G "ToolMill$Codes" "nameOf" 3 prog_3_method_14_code (d + 6) (2, [(0, .ref 12), (1, .int (Int32.ofNat id)), (2, .int (Int32.ofNat k))], [], w) (2, [(0, .ref 12), (1, .int (Int32.ofNat id)), (2, .int (Int32.ofNat (k + 1)))], [], w') ∧ zB W0 (T ++ [x]) w' := by
  obtain ⟨v, N, M, c, r⟩ := zB_r hB
  have T9 := zt_156 (l := l) (D := D) (cy := cy) (z0 := z0) (sp := sp) (G := G) (d := (d + 6)) zz_k0_KS hG hP
  have TK := fun (K : zz_K) (h : zz_KS l D zcl zFK cy z0 sp (zTys cy) G zYN (fun y => Cond.code (zYN y) (zCN y) (zMQ y) (zRT y) :: zTs) (d + 6) K) => zt_156 h hG hP
  have b := zz_B_rf (l := l) (Ts := zTs) (D := D) (cl := zcl) (fk := zFK) (cy := cy) (z0 := z0) (sp := sp) (tys := zTys cy) (G := G) (own := "ToolMill$Codes") (mn := "nameOf") (nL := 3) (cc := prog_3_method_14_code) (d := (d + 6)) ((2, [(0, .ref 12), (1, .int (Int32.ofNat id)), (2, .int (Int32.ofNat k))], [], w) : zz_F)
  replace b := zz_fw b T9 (rfl : zz_ent zP_156 2 = (0, za_iload 2 3)) (ze_iload rfl)
  replace b := zz_fw b T9 (rfl : zz_ent zP_156 3 = (0, za_const (.int (Int32.ofNat 8)) 5)) (ze_const)
  replace b := zz_fw b T9 (rfl : zz_ent zP_156 5 = (0, za_icmp_ge 65 8)) (ze_icmp_ge_f (zls_8 k hk))
  replace b := zz_fw b T9 (rfl : zz_ent zP_156 8 = (0, za_aload 0 9)) (ze_aload rfl)
  replace b := zz_fw b T9 (rfl : zz_ent zP_156 9 = (0, za_getA 3 0 12)) (ze_getA (zBr_f12 r) (by decide) (zBr_v12_0 r))
  replace b := zz_fw b T9 (rfl : zz_ent zP_156 12 = (0, za_getA 9 0 15)) (ze_getA (zBr_f4 r) (by decide) (zBr_v4_0 r))
  replace b := zz_fw b T9 (rfl : zz_ent zP_156 15 = (0, za_iload 1 16)) (ze_iload rfl)
  replace b := zz_fw b T9 (rfl : zz_ent zP_156 16 = (0, za_aldL 3 17)) (ze_aldL (zBr_f5 r) (by rw [zz_nI_ofNat (by omega)]; omega) (by decide) (zBr_n5 r (by omega)))
  replace b := zz_fw b T9 (rfl : zz_ent zP_156 17 = (0, za_const (.int (Int32.ofNat 8)) 19)) (ze_const)
  replace b := zz_fw b T9 (rfl : zz_ent zP_156 19 = (0, za_iload 2 20)) (ze_iload rfl)
  replace b := zz_fw b T9 (rfl : zz_ent zP_156 20 = (0, za_imul 21)) (ze_imul rfl)
  replace b := zz_fw b T9 (rfl : zz_ent zP_156 21 = (0, za_lushr 22)) (ze_lushr rfl)
  replace b := zz_fw b T9 (rfl : zz_ent zP_156 22 = (0, za_const (.long (Int64.ofNat 255)) 25)) (ze_const)
  replace b := zz_fw b T9 (rfl : zz_ent zP_156 25 = (0, za_land 26)) (ze_land (rfl : _ = zcs id k))
  replace b := zz_fw b T9 (rfl : zz_ent zP_156 26 = (0, za_const (.long (Int64.ofNat 0)) 27)) (ze_const)
  replace b := zz_fw b T9 (rfl : zz_ent zP_156 27 = (0, za_lcmp 28)) (ze_lcmp rfl)
  replace b := zz_fw b T9 (rfl : zz_ent zP_156 28 = (0, za_if_eq 65 31)) (ze_if_eq_f h1)
  replace b := zz_fw b T9 (rfl : zz_ent zP_156 31 = (0, za_aload 0 32)) (ze_aload rfl)
  replace b := zz_fw b T9 (rfl : zz_ent zP_156 32 = (0, za_getA 3 4 35)) (ze_getA (zBr_f12 r) (by decide) (zBr_v12_4 r))
  replace b := zz_fw b T9 (rfl : zz_ent zP_156 35 = (0, za_aload 0 36)) (ze_aload rfl)
  replace b := zz_fw b T9 (rfl : zz_ent zP_156 36 = (0, za_getA 3 0 39)) (ze_getA (zBr_f12 r) (by decide) (zBr_v12_0 r))
  replace b := zz_fw b T9 (rfl : zz_ent zP_156 39 = (0, za_getA 9 0 42)) (ze_getA (zBr_f4 r) (by decide) (zBr_v4_0 r))
  replace b := zz_fw b T9 (rfl : zz_ent zP_156 42 = (0, za_iload 1 43)) (ze_iload rfl)
  replace b := zz_fw b T9 (rfl : zz_ent zP_156 43 = (0, za_aldL 3 44)) (ze_aldL (zBr_f5 r) (by rw [zz_nI_ofNat (by omega)]; omega) (by decide) (zBr_n5 r (by omega)))
  replace b := zz_fw b T9 (rfl : zz_ent zP_156 44 = (0, za_const (.int (Int32.ofNat 8)) 46)) (ze_const)
  replace b := zz_fw b T9 (rfl : zz_ent zP_156 46 = (0, za_iload 2 47)) (ze_iload rfl)
  replace b := zz_fw b T9 (rfl : zz_ent zP_156 47 = (0, za_imul 48)) (ze_imul rfl)
  replace b := zz_fw b T9 (rfl : zz_ent zP_156 48 = (0, za_lushr 49)) (ze_lushr rfl)
  replace b := zz_fw b T9 (rfl : zz_ent zP_156 49 = (0, za_const (.long (Int64.ofNat 255)) 52)) (ze_const)
  replace b := zz_fw b T9 (rfl : zz_ent zP_156 52 = (0, za_land 53)) (ze_land (rfl : _ = zcs id k))
  replace b := zz_fw b T9 (rfl : zz_ent zP_156 53 = (0, za_l2i 54)) (ze_l2i rfl)
  replace b := zz_fw b T9 (rfl : zz_ent zP_156 54 = (0, za_i2c 55)) (ze_i2c h2)
  obtain ⟨w1, hM1, hB1⟩ := zL_apc (d := d) (l := l) (D := D) (cy := cy) (sp := sp) hG hP hsp hB (x := x) (by omega) hx7
  replace b := zz_fVi b TK (rfl : zz_ent zP_156 55 = (0, za_callV 13 158 1 58)) hM1 rfl rfl (zB_ic hB) (zz_lb rfl)
  replace b := zz_fw b T9 (rfl : zz_ent zP_156 58 = (0, za_pop 59)) (ze_pop rfl)
  replace b := zz_fw b T9 (rfl : zz_ent zP_156 59 = (0, za_iinc 2 (Int32.ofNat 1) 62)) (ze_iinc (lv' := [(0, _), (1, _)]) rfl (Int32.ofNat_add k 1).symm rfl)
  replace b := zz_fw b T9 (rfl : zz_ent zP_156 62 = (0, za_goto 2)) (ze_goto)
  replace b := zz_fl (lv' := [(0, .ref 12), (1, .int (Int32.ofNat id)), (2, .int (Int32.ofNat (k + 1)))]) b (zz_mc (List.mem_cons_of_mem _ List.mem_cons_self) (zz_mc (List.mem_cons_of_mem _ (List.mem_cons_of_mem _ List.mem_cons_self)) (zz_mc List.mem_cons_self zz_mn)))
  exact ⟨_, b, hB1⟩
theorem znm_e {W0 : zz_W} {l : Launch} {D : va_G} {cy : Nat → ClassId} {z0 : Nat} {sp : Nat → Nat} {G : State → Prop} {d : Nat} (hG : zz_GF z0 G) (hP : ∀ U, G U → zz_GD zS zS2 zLg z0 sp U) (hsp : sp 18446744073709551616 = 0) {T : List Nat} {w : zz_W} (hB : zB W0 T w) {id k : Nat} (hi : id < 125) (hk : k < 8) (h1 : lg_cmp (zcs id k) (Int64.ofNat 0) = 0) : zz_B l zTs D zcl zFK cy z0 sp (zTys cy) G "ToolMill$Codes" "nameOf" 3 prog_3_method_14_code (d + 6) (2, [(0, .ref 12), (1, .int (Int32.ofNat id)), (2, .int (Int32.ofNat k))], [], w) (65, [(0, .ref 12), (1, .int (Int32.ofNat id)), (2, .int (Int32.ofNat k))], [], w) := by
  obtain ⟨v, N, M, c, r⟩ := zB_r hB
  have T9 := zt_156 (l := l) (D := D) (cy := cy) (z0 := z0) (sp := sp) (G := G) (d := (d + 6)) zz_k0_KS hG hP
  have TK := fun (K : zz_K) (h : zz_KS l D zcl zFK cy z0 sp (zTys cy) G zYN (fun y => Cond.code (zYN y) (zCN y) (zMQ y) (zRT y) :: zTs) (d + 6) K) => zt_156 h hG hP
  have b := zz_B_rf (l := l) (Ts := zTs) (D := D) (cl := zcl) (fk := zFK) (cy := cy) (z0 := z0) (sp := sp) (tys := zTys cy) (G := G) (own := "ToolMill$Codes") (mn := "nameOf") (nL := 3) (cc := prog_3_method_14_code) (d := (d + 6)) ((2, [(0, .ref 12), (1, .int (Int32.ofNat id)), (2, .int (Int32.ofNat k))], [], w) : zz_F)
  replace b := zz_fw b T9 (rfl : zz_ent zP_156 2 = (0, za_iload 2 3)) (ze_iload rfl)
  replace b := zz_fw b T9 (rfl : zz_ent zP_156 3 = (0, za_const (.int (Int32.ofNat 8)) 5)) (ze_const)
  replace b := zz_fw b T9 (rfl : zz_ent zP_156 5 = (0, za_icmp_ge 65 8)) (ze_icmp_ge_f (zls_8 k hk))
  replace b := zz_fw b T9 (rfl : zz_ent zP_156 8 = (0, za_aload 0 9)) (ze_aload rfl)
  replace b := zz_fw b T9 (rfl : zz_ent zP_156 9 = (0, za_getA 3 0 12)) (ze_getA (zBr_f12 r) (by decide) (zBr_v12_0 r))
  replace b := zz_fw b T9 (rfl : zz_ent zP_156 12 = (0, za_getA 9 0 15)) (ze_getA (zBr_f4 r) (by decide) (zBr_v4_0 r))
  replace b := zz_fw b T9 (rfl : zz_ent zP_156 15 = (0, za_iload 1 16)) (ze_iload rfl)
  replace b := zz_fw b T9 (rfl : zz_ent zP_156 16 = (0, za_aldL 3 17)) (ze_aldL (zBr_f5 r) (by rw [zz_nI_ofNat (by omega)]; omega) (by decide) (zBr_n5 r (by omega)))
  replace b := zz_fw b T9 (rfl : zz_ent zP_156 17 = (0, za_const (.int (Int32.ofNat 8)) 19)) (ze_const)
  replace b := zz_fw b T9 (rfl : zz_ent zP_156 19 = (0, za_iload 2 20)) (ze_iload rfl)
  replace b := zz_fw b T9 (rfl : zz_ent zP_156 20 = (0, za_imul 21)) (ze_imul rfl)
  replace b := zz_fw b T9 (rfl : zz_ent zP_156 21 = (0, za_lushr 22)) (ze_lushr rfl)
  replace b := zz_fw b T9 (rfl : zz_ent zP_156 22 = (0, za_const (.long (Int64.ofNat 255)) 25)) (ze_const)
  replace b := zz_fw b T9 (rfl : zz_ent zP_156 25 = (0, za_land 26)) (ze_land (rfl : _ = zcs id k))
  replace b := zz_fw b T9 (rfl : zz_ent zP_156 26 = (0, za_const (.long (Int64.ofNat 0)) 27)) (ze_const)
  replace b := zz_fw b T9 (rfl : zz_ent zP_156 27 = (0, za_lcmp 28)) (ze_lcmp rfl)
  replace b := zz_fw b T9 (rfl : zz_ent zP_156 28 = (0, za_if_eq 65 31)) (ze_if_eq_t h1)
  replace b := zz_fl (lv' := [(0, .ref 12), (1, .int (Int32.ofNat id)), (2, .int (Int32.ofNat k))]) b (zz_mc List.mem_cons_self (zz_mc (List.mem_cons_of_mem _ List.mem_cons_self) (zz_mc (List.mem_cons_of_mem _ (List.mem_cons_of_mem _ List.mem_cons_self)) zz_mn)))
  exact b
theorem znm_0 {l : Launch} {D : va_G} {cy : Nat → ClassId} {z0 : Nat} {sp : Nat → Nat} {G : State → Prop} {d : Nat} (hG : zz_GF z0 G) (hP : ∀ U, G U → zz_GD zS zS2 zLg z0 sp U) (hsp : sp 18446744073709551616 = 0) {w : zz_W} {id : Nat} : zz_B l zTs D zcl zFK cy z0 sp (zTys cy) G "ToolMill$Codes" "nameOf" 3 prog_3_method_14_code (d + 6) (0, [(0, .ref 12), (1, .int (Int32.ofNat id))], [], w) (2, [(0, .ref 12), (1, .int (Int32.ofNat id)), (2, .int (Int32.ofNat 0))], [], w) := by
  have T9 := zt_156 (l := l) (D := D) (cy := cy) (z0 := z0) (sp := sp) (G := G) (d := (d + 6)) zz_k0_KS hG hP
  have TK := fun (K : zz_K) (h : zz_KS l D zcl zFK cy z0 sp (zTys cy) G zYN (fun y => Cond.code (zYN y) (zCN y) (zMQ y) (zRT y) :: zTs) (d + 6) K) => zt_156 h hG hP
  have b := zz_B_rf (l := l) (Ts := zTs) (D := D) (cl := zcl) (fk := zFK) (cy := cy) (z0 := z0) (sp := sp) (tys := zTys cy) (G := G) (own := "ToolMill$Codes") (mn := "nameOf") (nL := 3) (cc := prog_3_method_14_code) (d := (d + 6)) ((0, [(0, .ref 12), (1, .int (Int32.ofNat id))], [], w) : zz_F)
  replace b := zz_fw b T9 (rfl : zz_ent zP_156 0 = (0, za_const (.int (Int32.ofNat 0)) 1)) (ze_const)
  replace b := zz_fw b T9 (rfl : zz_ent zP_156 1 = (0, za_istore 2 2)) (ze_istore (lv' := [(0, _), (1, _)]) rfl)
  replace b := zz_fl (lv' := [(0, .ref 12), (1, .int (Int32.ofNat id)), (2, .int (Int32.ofNat 0))]) b (zz_mc (List.mem_cons_of_mem _ List.mem_cons_self) (zz_mc (List.mem_cons_of_mem _ (List.mem_cons_of_mem _ List.mem_cons_self)) (zz_mc List.mem_cons_self zz_mn)))
  exact b
theorem znm_l {W0 : zz_W} {l : Launch} {D : va_G} {cy : Nat → ClassId} {z0 : Nat} {sp : Nat → Nat} {G : State → Prop} {d : Nat} (hG : zz_GF z0 G) (hP : ∀ U, G U → zz_GD zS zS2 zLg z0 sp U) (hsp : sp 18446744073709551616 = 0) {T : List Nat} {w : zz_W} (hB : zB W0 T w) {id : Nat} (hi : id ∈ zIds) (hT : T.length + (zNc id).length ≤ 33) : ∀ k, k ≤ (zNc id).length → ∃ w', zz_B l zTs D zcl zFK cy z0 sp (zTys cy) G "ToolMill$Codes" "nameOf" 3 prog_3_method_14_code (d + 6) (2, [(0, .ref 12), (1, .int (Int32.ofNat id)), (2, .int (Int32.ofNat 0))], [], w) (2, [(0, .ref 12), (1, .int (Int32.ofNat id)), (2, .int (Int32.ofNat k))], [], w') ∧ zB W0 (T ++ (zNc id).take k) w' := by
  obtain ⟨n8, he, hk⟩ := zNc_ok hi
  intro k
  induction k with
  | zero => exact fun _ => ⟨w, zz_B_rf _, by rw [List.take_zero, List.append_nil]; exact hB⟩
  | succ k ih =>
    intro h
    obtain ⟨w1, b1, hB1⟩ := ih (by omega)
    obtain ⟨q1, q2, q3⟩ := hk k (by omega)
    obtain ⟨w2, b2, hB2⟩ := znm_s (d := d) (l := l) (D := D) (cy := cy) (sp := sp) hG hP hsp hB1 (zIds_le hi) (k := k) (by omega) (by rw [List.length_append, List.length_take]; omega) q1 q2 q3
    refine ⟨w2, zz_B_tr b1 b2, ?_⟩
    rw [List.append_assoc, show (zNc id).take k ++ [(zNc id).getD k 0] = (zNc id).take (k + 1) from ?_] at hB2
    · exact hB2
    · rw [List.take_succ, List.getD_eq_getElem?_getD, List.getElem?_eq_getElem (by omega)]
      rfl
theorem zL_nam {W0 : zz_W} {l : Launch} {D : va_G} {cy : Nat → ClassId} {z0 : Nat} {sp : Nat → Nat} {G : State → Prop} {d : Nat} (hG : zz_GF z0 G) (hP : ∀ U, G U → zz_GD zS zS2 zLg z0 sp U) (hsp : sp 18446744073709551616 = 0) {T : List Nat} {w : zz_W} (hB : zB W0 T w) {id : Nat} (hi : id ∈ zIds) (hT : T.length + (zNc id).length ≤ 33) : ∃ w', zz_M l zTs D zcl zFK cy z0 sp (zTys cy) G zYN zCN zMQ zRT (d + 7) 156 [.ref 12, .int (Int32.ofNat id)] w [] w' ∧ zB W0 (T ++ zNc id) w' := by
  obtain ⟨n8, he, hk⟩ := zNc_ok hi
  obtain ⟨w1, b1, hB1⟩ := znm_l (d := d) (l := l) (D := D) (cy := cy) (sp := sp) hG hP hsp hB hi hT (zNc id).length (Nat.le_refl _)
  rw [List.take_length] at hB1
  have b0 := znm_0 (w := w) (id := id) (d := d) (l := l) (D := D) (cy := cy) (z0 := z0) (sp := sp) (G := G) hG hP hsp
  have b2 := znm_e (d := d) (l := l) (D := D) (cy := cy) (sp := sp) hG hP hsp hB1 (zIds_le hi) n8 he
  exact ⟨w1, zz_M_B (yn := zYN) (cn := zCN) (ml := zMQ) (rt := zRT) (y := 156) (as := [.ref 12, .int (Int32.ofNat id)]) rfl rfl rfl rfl rfl (by decide +kernel) (zz_lb rfl) (zz_lb rfl) (zz_end_v (zr_156.1 65 rfl).1) (zz_B_tr (zz_B_tr b0 b1) b2), hB1⟩
noncomputable def zRg (p : Int32) (s : Nat) : List Nat := zNc (93 + zF p s 5)
theorem zNc_5 : (List.range 32).all (fun r => Nat.ble (zNc (93 + r)).length 5) = true := by decide +kernel
theorem zRg_5 (p : Int32) (s : Nat) : (zRg p s).length ≤ 5 := zz_ble (List.all_eq_true.mp zNc_5 (zF p s 5) (List.mem_range.mpr (zF_lt p s 5)))
theorem zdc_11 (p : Int32) : (zdc p).length ≤ 11 := by
  unfold zdc
  have := zln_le p.toInt.natAbs
  split
  · rw [List.length_cons, zdg_len]; omega
  · rw [zdg_len]; omega
theorem zB_f12 {W0 : zz_W} {T : List Nat} {w : zz_W} (hB : zB W0 T w) : zz_has w 12 (3, 3, 5, (zz_g w 12).2.2.2) := by
  obtain ⟨v, N, M, c, r, -⟩ := hB
  exact zBr_f12 r
theorem zB_v12_0 {W0 : zz_W} {T : List Nat} {w : zz_W} (hB : zB W0 T w) : zz_at 64 (zz_g w 12).2.2.2 0 = 5 := by
  obtain ⟨v, N, M, c, r, -⟩ := hB
  exact zBr_v12_0 r
theorem zB_v12_1 {W0 : zz_W} {T : List Nat} {w : zz_W} (hB : zB W0 T w) : zz_at 64 (zz_g w 12).2.2.2 1 = 14 := by
  obtain ⟨v, N, M, c, r, -⟩ := hB
  exact zBr_v12_1 r
theorem zB_v12_2 {W0 : zz_W} {T : List Nat} {w : zz_W} (hB : zB W0 T w) : zz_at 64 (zz_g w 12).2.2.2 2 = 15 := by
  obtain ⟨v, N, M, c, r, -⟩ := hB
  exact zBr_v12_2 r
theorem zB_v12_3 {W0 : zz_W} {T : List Nat} {w : zz_W} (hB : zB W0 T w) : zz_at 64 (zz_g w 12).2.2.2 3 = 16 := by
  obtain ⟨v, N, M, c, r, -⟩ := hB
  exact zBr_v12_3 r
theorem zB_v12_4 {W0 : zz_W} {T : List Nat} {w : zz_W} (hB : zB W0 T w) : zz_at 64 (zz_g w 12).2.2.2 4 = 17 := by
  obtain ⟨v, N, M, c, r, -⟩ := hB
  exact zBr_v12_4 r
theorem zL_one_11 {W0 : zz_W} {l : Launch} {D : va_G} {cy : Nat → ClassId} {z0 : Nat} {sp : Nat → Nat} {G : State → Prop} {d : Nat} (hG : zz_GF z0 G) (hP : ∀ U, G U → zz_GD zS zS2 zLg z0 sp U) (hsp : sp 18446744073709551616 = 0) {T : List Nat} {w : zz_W} (hB : zB W0 T w) {p0 : Int32} {a : Nat} (ha : a < 128) (hT : T.length ≤ 27) : ∃ w', zz_M l zTs D zcl zFK cy z0 sp (zTys cy) G zYN zCN zMQ zRT (d + 8) 298 [.ref 12, .int (Int32.ofNat a), .int p0, .int (Int32.ofNat 11)] w [] w' ∧ zB W0 (T ++ [a] ++ zRg p0 11) w' := by
  have T9 := zt_298 (l := l) (D := D) (cy := cy) (z0 := z0) (sp := sp) (G := G) (d := (d + 7)) zz_k0_KS hG hP
  have TK := fun (K : zz_K) (h : zz_KS l D zcl zFK cy z0 sp (zTys cy) G zYN (fun y => Cond.code (zYN y) (zCN y) (zMQ y) (zRT y) :: zTs) (d + 7) K) => zt_298 h hG hP
  have b := zz_B_rf (l := l) (Ts := zTs) (D := D) (cl := zcl) (fk := zFK) (cy := cy) (z0 := z0) (sp := sp) (tys := zTys cy) (G := G) (own := "ToolMill$Codes") (mn := "one") (nL := 4) (cc := prog_3_method_12_code) (d := (d + 7)) ((0, [(0, .ref 12), (1, .int (Int32.ofNat a)), (2, .int p0), (3, .int (Int32.ofNat 11))], [], w) : zz_F)
  replace b := zz_fw b T9 (rfl : zz_ent zP_298 0 = (0, za_aload 0 1)) (ze_aload rfl)
  replace b := zz_fw b T9 (rfl : zz_ent zP_298 1 = (0, za_getA 3 4 4)) (ze_getA (zB_f12 hB) (by decide) (zB_v12_4 hB))
  replace b := zz_fw b T9 (rfl : zz_ent zP_298 4 = (0, za_iload 1 5)) (ze_iload rfl)
  obtain ⟨w1, hM1, hB1⟩ := zL_apc (d := d + 1) (l := l) (D := D) (cy := cy) (sp := sp) hG hP hsp hB (x := a) (by omega) ha
  replace b := zz_fVi b TK (rfl : zz_ent zP_298 5 = (0, za_callV 13 158 1 8)) hM1 rfl rfl (zB_ic hB) (zz_lb rfl)
  replace b := zz_fw b T9 (rfl : zz_ent zP_298 8 = (0, za_pop 9)) (ze_pop rfl)
  replace b := zz_fw b T9 (rfl : zz_ent zP_298 9 = (0, za_aload 0 10)) (ze_aload rfl)
  replace b := zz_fw b T9 (rfl : zz_ent zP_298 10 = (0, za_const (.int (Int32.ofNat 93)) 12)) (ze_const)
  replace b := zz_fw b T9 (rfl : zz_ent zP_298 12 = (0, za_iload 2 13)) (ze_iload rfl)
  replace b := zz_fw b T9 (rfl : zz_ent zP_298 13 = (0, za_iload 3 14)) (ze_iload rfl)
  replace b := zz_fw b T9 (rfl : zz_ent zP_298 14 = (0, za_iushr 15)) (ze_iushr rfl)
  replace b := zz_fw b T9 (rfl : zz_ent zP_298 15 = (0, za_const (.int (Int32.ofNat 31)) 17)) (ze_const)
  replace b := zz_fw b T9 (rfl : zz_ent zP_298 17 = (0, za_iand 18)) (ze_iand (zF_eq p0 11 5 31 (by decide) (by decide) rfl))
  replace b := zz_fw b T9 (rfl : zz_ent zP_298 18 = (0, za_iadd 19)) (ze_iadd (Int32.ofNat_add 93 _).symm)
  obtain ⟨w2, hM2, hB2⟩ := zL_nam (d := d) (l := l) (D := D) (cy := cy) (sp := sp) hG hP hsp hB1 (id := 93 + zF p0 11 5) (zIds_rg (zF_lt p0 11 5)) (by have g := zRg_5 p0 11; rw [List.length_append, List.length_singleton]; show _ + (zRg p0 11).length ≤ 33; omega)
  replace b := zz_fVv b TK (rfl : zz_ent zP_298 19 = (0, za_callV 3 156 1 22)) hM2 rfl rfl (zB_12 hB1) (zz_lb rfl)
  have m := zz_M_B (yn := zYN) (cn := zCN) (ml := zMQ) (rt := zRT) (y := 298) (as := [.ref 12, .int (Int32.ofNat a), .int p0, .int (Int32.ofNat 11)]) rfl rfl rfl rfl rfl (by decide +kernel) (zz_lb rfl) (zz_lb rfl) (zz_end_v (zr_298.1 22 rfl).1) b
  exact ⟨_, m, hB2⟩
theorem zL_one_16 {W0 : zz_W} {l : Launch} {D : va_G} {cy : Nat → ClassId} {z0 : Nat} {sp : Nat → Nat} {G : State → Prop} {d : Nat} (hG : zz_GF z0 G) (hP : ∀ U, G U → zz_GD zS zS2 zLg z0 sp U) (hsp : sp 18446744073709551616 = 0) {T : List Nat} {w : zz_W} (hB : zB W0 T w) {p0 : Int32} {a : Nat} (ha : a < 128) (hT : T.length ≤ 27) : ∃ w', zz_M l zTs D zcl zFK cy z0 sp (zTys cy) G zYN zCN zMQ zRT (d + 8) 298 [.ref 12, .int (Int32.ofNat a), .int p0, .int (Int32.ofNat 16)] w [] w' ∧ zB W0 (T ++ [a] ++ zRg p0 16) w' := by
  have T9 := zt_298 (l := l) (D := D) (cy := cy) (z0 := z0) (sp := sp) (G := G) (d := (d + 7)) zz_k0_KS hG hP
  have TK := fun (K : zz_K) (h : zz_KS l D zcl zFK cy z0 sp (zTys cy) G zYN (fun y => Cond.code (zYN y) (zCN y) (zMQ y) (zRT y) :: zTs) (d + 7) K) => zt_298 h hG hP
  have b := zz_B_rf (l := l) (Ts := zTs) (D := D) (cl := zcl) (fk := zFK) (cy := cy) (z0 := z0) (sp := sp) (tys := zTys cy) (G := G) (own := "ToolMill$Codes") (mn := "one") (nL := 4) (cc := prog_3_method_12_code) (d := (d + 7)) ((0, [(0, .ref 12), (1, .int (Int32.ofNat a)), (2, .int p0), (3, .int (Int32.ofNat 16))], [], w) : zz_F)
  replace b := zz_fw b T9 (rfl : zz_ent zP_298 0 = (0, za_aload 0 1)) (ze_aload rfl)
  replace b := zz_fw b T9 (rfl : zz_ent zP_298 1 = (0, za_getA 3 4 4)) (ze_getA (zB_f12 hB) (by decide) (zB_v12_4 hB))
  replace b := zz_fw b T9 (rfl : zz_ent zP_298 4 = (0, za_iload 1 5)) (ze_iload rfl)
  obtain ⟨w1, hM1, hB1⟩ := zL_apc (d := d + 1) (l := l) (D := D) (cy := cy) (sp := sp) hG hP hsp hB (x := a) (by omega) ha
  replace b := zz_fVi b TK (rfl : zz_ent zP_298 5 = (0, za_callV 13 158 1 8)) hM1 rfl rfl (zB_ic hB) (zz_lb rfl)
  replace b := zz_fw b T9 (rfl : zz_ent zP_298 8 = (0, za_pop 9)) (ze_pop rfl)
  replace b := zz_fw b T9 (rfl : zz_ent zP_298 9 = (0, za_aload 0 10)) (ze_aload rfl)
  replace b := zz_fw b T9 (rfl : zz_ent zP_298 10 = (0, za_const (.int (Int32.ofNat 93)) 12)) (ze_const)
  replace b := zz_fw b T9 (rfl : zz_ent zP_298 12 = (0, za_iload 2 13)) (ze_iload rfl)
  replace b := zz_fw b T9 (rfl : zz_ent zP_298 13 = (0, za_iload 3 14)) (ze_iload rfl)
  replace b := zz_fw b T9 (rfl : zz_ent zP_298 14 = (0, za_iushr 15)) (ze_iushr rfl)
  replace b := zz_fw b T9 (rfl : zz_ent zP_298 15 = (0, za_const (.int (Int32.ofNat 31)) 17)) (ze_const)
  replace b := zz_fw b T9 (rfl : zz_ent zP_298 17 = (0, za_iand 18)) (ze_iand (zF_eq p0 16 5 31 (by decide) (by decide) rfl))
  replace b := zz_fw b T9 (rfl : zz_ent zP_298 18 = (0, za_iadd 19)) (ze_iadd (Int32.ofNat_add 93 _).symm)
  obtain ⟨w2, hM2, hB2⟩ := zL_nam (d := d) (l := l) (D := D) (cy := cy) (sp := sp) hG hP hsp hB1 (id := 93 + zF p0 16 5) (zIds_rg (zF_lt p0 16 5)) (by have g := zRg_5 p0 16; rw [List.length_append, List.length_singleton]; show _ + (zRg p0 16).length ≤ 33; omega)
  replace b := zz_fVv b TK (rfl : zz_ent zP_298 19 = (0, za_callV 3 156 1 22)) hM2 rfl rfl (zB_12 hB1) (zz_lb rfl)
  have m := zz_M_B (yn := zYN) (cn := zCN) (ml := zMQ) (rt := zRT) (y := 298) (as := [.ref 12, .int (Int32.ofNat a), .int p0, .int (Int32.ofNat 16)]) rfl rfl rfl rfl rfl (by decide +kernel) (zz_lb rfl) (zz_lb rfl) (zz_end_v (zr_298.1 22 rfl).1) b
  exact ⟨_, m, hB2⟩
theorem zL_one_21 {W0 : zz_W} {l : Launch} {D : va_G} {cy : Nat → ClassId} {z0 : Nat} {sp : Nat → Nat} {G : State → Prop} {d : Nat} (hG : zz_GF z0 G) (hP : ∀ U, G U → zz_GD zS zS2 zLg z0 sp U) (hsp : sp 18446744073709551616 = 0) {T : List Nat} {w : zz_W} (hB : zB W0 T w) {p0 : Int32} {a : Nat} (ha : a < 128) (hT : T.length ≤ 27) : ∃ w', zz_M l zTs D zcl zFK cy z0 sp (zTys cy) G zYN zCN zMQ zRT (d + 8) 298 [.ref 12, .int (Int32.ofNat a), .int p0, .int (Int32.ofNat 21)] w [] w' ∧ zB W0 (T ++ [a] ++ zRg p0 21) w' := by
  have T9 := zt_298 (l := l) (D := D) (cy := cy) (z0 := z0) (sp := sp) (G := G) (d := (d + 7)) zz_k0_KS hG hP
  have TK := fun (K : zz_K) (h : zz_KS l D zcl zFK cy z0 sp (zTys cy) G zYN (fun y => Cond.code (zYN y) (zCN y) (zMQ y) (zRT y) :: zTs) (d + 7) K) => zt_298 h hG hP
  have b := zz_B_rf (l := l) (Ts := zTs) (D := D) (cl := zcl) (fk := zFK) (cy := cy) (z0 := z0) (sp := sp) (tys := zTys cy) (G := G) (own := "ToolMill$Codes") (mn := "one") (nL := 4) (cc := prog_3_method_12_code) (d := (d + 7)) ((0, [(0, .ref 12), (1, .int (Int32.ofNat a)), (2, .int p0), (3, .int (Int32.ofNat 21))], [], w) : zz_F)
  replace b := zz_fw b T9 (rfl : zz_ent zP_298 0 = (0, za_aload 0 1)) (ze_aload rfl)
  replace b := zz_fw b T9 (rfl : zz_ent zP_298 1 = (0, za_getA 3 4 4)) (ze_getA (zB_f12 hB) (by decide) (zB_v12_4 hB))
  replace b := zz_fw b T9 (rfl : zz_ent zP_298 4 = (0, za_iload 1 5)) (ze_iload rfl)
  obtain ⟨w1, hM1, hB1⟩ := zL_apc (d := d + 1) (l := l) (D := D) (cy := cy) (sp := sp) hG hP hsp hB (x := a) (by omega) ha
  replace b := zz_fVi b TK (rfl : zz_ent zP_298 5 = (0, za_callV 13 158 1 8)) hM1 rfl rfl (zB_ic hB) (zz_lb rfl)
  replace b := zz_fw b T9 (rfl : zz_ent zP_298 8 = (0, za_pop 9)) (ze_pop rfl)
  replace b := zz_fw b T9 (rfl : zz_ent zP_298 9 = (0, za_aload 0 10)) (ze_aload rfl)
  replace b := zz_fw b T9 (rfl : zz_ent zP_298 10 = (0, za_const (.int (Int32.ofNat 93)) 12)) (ze_const)
  replace b := zz_fw b T9 (rfl : zz_ent zP_298 12 = (0, za_iload 2 13)) (ze_iload rfl)
  replace b := zz_fw b T9 (rfl : zz_ent zP_298 13 = (0, za_iload 3 14)) (ze_iload rfl)
  replace b := zz_fw b T9 (rfl : zz_ent zP_298 14 = (0, za_iushr 15)) (ze_iushr rfl)
  replace b := zz_fw b T9 (rfl : zz_ent zP_298 15 = (0, za_const (.int (Int32.ofNat 31)) 17)) (ze_const)
  replace b := zz_fw b T9 (rfl : zz_ent zP_298 17 = (0, za_iand 18)) (ze_iand (zF_eq p0 21 5 31 (by decide) (by decide) rfl))
  replace b := zz_fw b T9 (rfl : zz_ent zP_298 18 = (0, za_iadd 19)) (ze_iadd (Int32.ofNat_add 93 _).symm)
  obtain ⟨w2, hM2, hB2⟩ := zL_nam (d := d) (l := l) (D := D) (cy := cy) (sp := sp) hG hP hsp hB1 (id := 93 + zF p0 21 5) (zIds_rg (zF_lt p0 21 5)) (by have g := zRg_5 p0 21; rw [List.length_append, List.length_singleton]; show _ + (zRg p0 21).length ≤ 33; omega)
  replace b := zz_fVv b TK (rfl : zz_ent zP_298 19 = (0, za_callV 3 156 1 22)) hM2 rfl rfl (zB_12 hB1) (zz_lb rfl)
  have m := zz_M_B (yn := zYN) (cn := zCN) (ml := zMQ) (rt := zRT) (y := 298) (as := [.ref 12, .int (Int32.ofNat a), .int p0, .int (Int32.ofNat 21)]) rfl rfl rfl rfl rfl (by decide +kernel) (zz_lb rfl) (zz_lb rfl) (zz_end_v (zr_298.1 22 rfl).1) b
  exact ⟨_, m, hB2⟩
theorem zL_two_11_16 {W0 : zz_W} {l : Launch} {D : va_G} {cy : Nat → ClassId} {z0 : Nat} {sp : Nat → Nat} {G : State → Prop} {d : Nat} (hG : zz_GF z0 G) (hP : ∀ U, G U → zz_GD zS zS2 zLg z0 sp U) (hsp : sp 18446744073709551616 = 0) {T : List Nat} {w : zz_W} (hB : zB W0 T w) {p0 : Int32} (hT : T.length ≤ 21) : ∃ w', zz_M l zTs D zcl zFK cy z0 sp (zTys cy) G zYN zCN zMQ zRT (d + 9) 296 [.ref 12, .int p0, .int (Int32.ofNat 11), .int (Int32.ofNat 16)] w [] w' ∧ zB W0 (T ++ [32] ++ zRg p0 11 ++ [44] ++ zRg p0 16) w' := by
  have T9 := zt_296 (l := l) (D := D) (cy := cy) (z0 := z0) (sp := sp) (G := G) (d := (d + 8)) zz_k0_KS hG hP
  have TK := fun (K : zz_K) (h : zz_KS l D zcl zFK cy z0 sp (zTys cy) G zYN (fun y => Cond.code (zYN y) (zCN y) (zMQ y) (zRT y) :: zTs) (d + 8) K) => zt_296 h hG hP
  have b := zz_B_rf (l := l) (Ts := zTs) (D := D) (cl := zcl) (fk := zFK) (cy := cy) (z0 := z0) (sp := sp) (tys := zTys cy) (G := G) (own := "ToolMill$Codes") (mn := "two") (nL := 4) (cc := prog_3_method_11_code) (d := (d + 8)) ((0, [(0, .ref 12), (1, .int p0), (2, .int (Int32.ofNat 11)), (3, .int (Int32.ofNat 16))], [], w) : zz_F)
  replace b := zz_fw b T9 (rfl : zz_ent zP_296 0 = (0, za_aload 0 1)) (ze_aload rfl)
  replace b := zz_fw b T9 (rfl : zz_ent zP_296 1 = (0, za_const (.int (Int32.ofNat 32)) 3)) (ze_const)
  replace b := zz_fw b T9 (rfl : zz_ent zP_296 3 = (0, za_iload 1 4)) (ze_iload rfl)
  replace b := zz_fw b T9 (rfl : zz_ent zP_296 4 = (0, za_iload 2 5)) (ze_iload rfl)
  obtain ⟨w1, hM1, hB1⟩ := zL_one_11 (d := d) (l := l) (D := D) (cy := cy) (sp := sp) hG hP hsp hB (p0 := p0) (a := 32) (by decide) (by omega)
  replace b := zz_fVv b TK (rfl : zz_ent zP_296 5 = (0, za_callV 3 298 3 8)) hM1 rfl rfl (zB_12 hB) (zz_lb rfl)
  replace b := zz_fw b T9 (rfl : zz_ent zP_296 8 = (0, za_aload 0 9)) (ze_aload rfl)
  replace b := zz_fw b T9 (rfl : zz_ent zP_296 9 = (0, za_const (.int (Int32.ofNat 44)) 11)) (ze_const)
  replace b := zz_fw b T9 (rfl : zz_ent zP_296 11 = (0, za_iload 1 12)) (ze_iload rfl)
  replace b := zz_fw b T9 (rfl : zz_ent zP_296 12 = (0, za_iload 3 13)) (ze_iload rfl)
  obtain ⟨w2, hM2, hB2⟩ := zL_one_16 (d := d) (l := l) (D := D) (cy := cy) (sp := sp) hG hP hsp hB1 (p0 := p0) (a := 44) (by decide) (by have g11 := zRg_5 p0 11; (try simp only [List.length_append, List.length_singleton, List.length_cons, List.length_nil]); omega)
  replace b := zz_fVv b TK (rfl : zz_ent zP_296 13 = (0, za_callV 3 298 3 16)) hM2 rfl rfl (zB_12 hB1) (zz_lb rfl)
  have m := zz_M_B (yn := zYN) (cn := zCN) (ml := zMQ) (rt := zRT) (y := 296) (as := [.ref 12, .int p0, .int (Int32.ofNat 11), .int (Int32.ofNat 16)]) rfl rfl rfl rfl rfl (by decide +kernel) (zz_lb rfl) (zz_lb rfl) (zz_end_v (zr_296.1 16 rfl).1) b
  exact ⟨_, m, hB2⟩
theorem zL_two_21_16 {W0 : zz_W} {l : Launch} {D : va_G} {cy : Nat → ClassId} {z0 : Nat} {sp : Nat → Nat} {G : State → Prop} {d : Nat} (hG : zz_GF z0 G) (hP : ∀ U, G U → zz_GD zS zS2 zLg z0 sp U) (hsp : sp 18446744073709551616 = 0) {T : List Nat} {w : zz_W} (hB : zB W0 T w) {p0 : Int32} (hT : T.length ≤ 21) : ∃ w', zz_M l zTs D zcl zFK cy z0 sp (zTys cy) G zYN zCN zMQ zRT (d + 9) 296 [.ref 12, .int p0, .int (Int32.ofNat 21), .int (Int32.ofNat 16)] w [] w' ∧ zB W0 (T ++ [32] ++ zRg p0 21 ++ [44] ++ zRg p0 16) w' := by
  have T9 := zt_296 (l := l) (D := D) (cy := cy) (z0 := z0) (sp := sp) (G := G) (d := (d + 8)) zz_k0_KS hG hP
  have TK := fun (K : zz_K) (h : zz_KS l D zcl zFK cy z0 sp (zTys cy) G zYN (fun y => Cond.code (zYN y) (zCN y) (zMQ y) (zRT y) :: zTs) (d + 8) K) => zt_296 h hG hP
  have b := zz_B_rf (l := l) (Ts := zTs) (D := D) (cl := zcl) (fk := zFK) (cy := cy) (z0 := z0) (sp := sp) (tys := zTys cy) (G := G) (own := "ToolMill$Codes") (mn := "two") (nL := 4) (cc := prog_3_method_11_code) (d := (d + 8)) ((0, [(0, .ref 12), (1, .int p0), (2, .int (Int32.ofNat 21)), (3, .int (Int32.ofNat 16))], [], w) : zz_F)
  replace b := zz_fw b T9 (rfl : zz_ent zP_296 0 = (0, za_aload 0 1)) (ze_aload rfl)
  replace b := zz_fw b T9 (rfl : zz_ent zP_296 1 = (0, za_const (.int (Int32.ofNat 32)) 3)) (ze_const)
  replace b := zz_fw b T9 (rfl : zz_ent zP_296 3 = (0, za_iload 1 4)) (ze_iload rfl)
  replace b := zz_fw b T9 (rfl : zz_ent zP_296 4 = (0, za_iload 2 5)) (ze_iload rfl)
  obtain ⟨w1, hM1, hB1⟩ := zL_one_21 (d := d) (l := l) (D := D) (cy := cy) (sp := sp) hG hP hsp hB (p0 := p0) (a := 32) (by decide) (by omega)
  replace b := zz_fVv b TK (rfl : zz_ent zP_296 5 = (0, za_callV 3 298 3 8)) hM1 rfl rfl (zB_12 hB) (zz_lb rfl)
  replace b := zz_fw b T9 (rfl : zz_ent zP_296 8 = (0, za_aload 0 9)) (ze_aload rfl)
  replace b := zz_fw b T9 (rfl : zz_ent zP_296 9 = (0, za_const (.int (Int32.ofNat 44)) 11)) (ze_const)
  replace b := zz_fw b T9 (rfl : zz_ent zP_296 11 = (0, za_iload 1 12)) (ze_iload rfl)
  replace b := zz_fw b T9 (rfl : zz_ent zP_296 12 = (0, za_iload 3 13)) (ze_iload rfl)
  obtain ⟨w2, hM2, hB2⟩ := zL_one_16 (d := d) (l := l) (D := D) (cy := cy) (sp := sp) hG hP hsp hB1 (p0 := p0) (a := 44) (by decide) (by have g21 := zRg_5 p0 21; (try simp only [List.length_append, List.length_singleton, List.length_cons, List.length_nil]); omega)
  replace b := zz_fVv b TK (rfl : zz_ent zP_296 13 = (0, za_callV 3 298 3 16)) hM2 rfl rfl (zB_12 hB1) (zz_lb rfl)
  have m := zz_M_B (yn := zYN) (cn := zCN) (ml := zMQ) (rt := zRT) (y := 296) (as := [.ref 12, .int p0, .int (Int32.ofNat 21), .int (Int32.ofNat 16)]) rfl rfl rfl rfl rfl (by decide +kernel) (zz_lb rfl) (zz_lb rfl) (zz_end_v (zr_296.1 16 rfl).1) b
  exact ⟨_, m, hB2⟩
theorem zL_two_16_21 {W0 : zz_W} {l : Launch} {D : va_G} {cy : Nat → ClassId} {z0 : Nat} {sp : Nat → Nat} {G : State → Prop} {d : Nat} (hG : zz_GF z0 G) (hP : ∀ U, G U → zz_GD zS zS2 zLg z0 sp U) (hsp : sp 18446744073709551616 = 0) {T : List Nat} {w : zz_W} (hB : zB W0 T w) {p0 : Int32} (hT : T.length ≤ 21) : ∃ w', zz_M l zTs D zcl zFK cy z0 sp (zTys cy) G zYN zCN zMQ zRT (d + 9) 296 [.ref 12, .int p0, .int (Int32.ofNat 16), .int (Int32.ofNat 21)] w [] w' ∧ zB W0 (T ++ [32] ++ zRg p0 16 ++ [44] ++ zRg p0 21) w' := by
  have T9 := zt_296 (l := l) (D := D) (cy := cy) (z0 := z0) (sp := sp) (G := G) (d := (d + 8)) zz_k0_KS hG hP
  have TK := fun (K : zz_K) (h : zz_KS l D zcl zFK cy z0 sp (zTys cy) G zYN (fun y => Cond.code (zYN y) (zCN y) (zMQ y) (zRT y) :: zTs) (d + 8) K) => zt_296 h hG hP
  have b := zz_B_rf (l := l) (Ts := zTs) (D := D) (cl := zcl) (fk := zFK) (cy := cy) (z0 := z0) (sp := sp) (tys := zTys cy) (G := G) (own := "ToolMill$Codes") (mn := "two") (nL := 4) (cc := prog_3_method_11_code) (d := (d + 8)) ((0, [(0, .ref 12), (1, .int p0), (2, .int (Int32.ofNat 16)), (3, .int (Int32.ofNat 21))], [], w) : zz_F)
  replace b := zz_fw b T9 (rfl : zz_ent zP_296 0 = (0, za_aload 0 1)) (ze_aload rfl)
  replace b := zz_fw b T9 (rfl : zz_ent zP_296 1 = (0, za_const (.int (Int32.ofNat 32)) 3)) (ze_const)
  replace b := zz_fw b T9 (rfl : zz_ent zP_296 3 = (0, za_iload 1 4)) (ze_iload rfl)
  replace b := zz_fw b T9 (rfl : zz_ent zP_296 4 = (0, za_iload 2 5)) (ze_iload rfl)
  obtain ⟨w1, hM1, hB1⟩ := zL_one_16 (d := d) (l := l) (D := D) (cy := cy) (sp := sp) hG hP hsp hB (p0 := p0) (a := 32) (by decide) (by omega)
  replace b := zz_fVv b TK (rfl : zz_ent zP_296 5 = (0, za_callV 3 298 3 8)) hM1 rfl rfl (zB_12 hB) (zz_lb rfl)
  replace b := zz_fw b T9 (rfl : zz_ent zP_296 8 = (0, za_aload 0 9)) (ze_aload rfl)
  replace b := zz_fw b T9 (rfl : zz_ent zP_296 9 = (0, za_const (.int (Int32.ofNat 44)) 11)) (ze_const)
  replace b := zz_fw b T9 (rfl : zz_ent zP_296 11 = (0, za_iload 1 12)) (ze_iload rfl)
  replace b := zz_fw b T9 (rfl : zz_ent zP_296 12 = (0, za_iload 3 13)) (ze_iload rfl)
  obtain ⟨w2, hM2, hB2⟩ := zL_one_21 (d := d) (l := l) (D := D) (cy := cy) (sp := sp) hG hP hsp hB1 (p0 := p0) (a := 44) (by decide) (by have g16 := zRg_5 p0 16; (try simp only [List.length_append, List.length_singleton, List.length_cons, List.length_nil]); omega)
  replace b := zz_fVv b TK (rfl : zz_ent zP_296 13 = (0, za_callV 3 298 3 16)) hM2 rfl rfl (zB_12 hB1) (zz_lb rfl)
  have m := zz_M_B (yn := zYN) (cn := zCN) (ml := zMQ) (rt := zRT) (y := 296) (as := [.ref 12, .int p0, .int (Int32.ofNat 16), .int (Int32.ofNat 21)]) rfl rfl rfl rfl rfl (by decide +kernel) (zz_lb rfl) (zz_lb rfl) (zz_end_v (zr_296.1 16 rfl).1) b
  exact ⟨_, m, hB2⟩
theorem zL_two_11_21 {W0 : zz_W} {l : Launch} {D : va_G} {cy : Nat → ClassId} {z0 : Nat} {sp : Nat → Nat} {G : State → Prop} {d : Nat} (hG : zz_GF z0 G) (hP : ∀ U, G U → zz_GD zS zS2 zLg z0 sp U) (hsp : sp 18446744073709551616 = 0) {T : List Nat} {w : zz_W} (hB : zB W0 T w) {p0 : Int32} (hT : T.length ≤ 21) : ∃ w', zz_M l zTs D zcl zFK cy z0 sp (zTys cy) G zYN zCN zMQ zRT (d + 9) 296 [.ref 12, .int p0, .int (Int32.ofNat 11), .int (Int32.ofNat 21)] w [] w' ∧ zB W0 (T ++ [32] ++ zRg p0 11 ++ [44] ++ zRg p0 21) w' := by
  have T9 := zt_296 (l := l) (D := D) (cy := cy) (z0 := z0) (sp := sp) (G := G) (d := (d + 8)) zz_k0_KS hG hP
  have TK := fun (K : zz_K) (h : zz_KS l D zcl zFK cy z0 sp (zTys cy) G zYN (fun y => Cond.code (zYN y) (zCN y) (zMQ y) (zRT y) :: zTs) (d + 8) K) => zt_296 h hG hP
  have b := zz_B_rf (l := l) (Ts := zTs) (D := D) (cl := zcl) (fk := zFK) (cy := cy) (z0 := z0) (sp := sp) (tys := zTys cy) (G := G) (own := "ToolMill$Codes") (mn := "two") (nL := 4) (cc := prog_3_method_11_code) (d := (d + 8)) ((0, [(0, .ref 12), (1, .int p0), (2, .int (Int32.ofNat 11)), (3, .int (Int32.ofNat 21))], [], w) : zz_F)
  replace b := zz_fw b T9 (rfl : zz_ent zP_296 0 = (0, za_aload 0 1)) (ze_aload rfl)
  replace b := zz_fw b T9 (rfl : zz_ent zP_296 1 = (0, za_const (.int (Int32.ofNat 32)) 3)) (ze_const)
  replace b := zz_fw b T9 (rfl : zz_ent zP_296 3 = (0, za_iload 1 4)) (ze_iload rfl)
  replace b := zz_fw b T9 (rfl : zz_ent zP_296 4 = (0, za_iload 2 5)) (ze_iload rfl)
  obtain ⟨w1, hM1, hB1⟩ := zL_one_11 (d := d) (l := l) (D := D) (cy := cy) (sp := sp) hG hP hsp hB (p0 := p0) (a := 32) (by decide) (by omega)
  replace b := zz_fVv b TK (rfl : zz_ent zP_296 5 = (0, za_callV 3 298 3 8)) hM1 rfl rfl (zB_12 hB) (zz_lb rfl)
  replace b := zz_fw b T9 (rfl : zz_ent zP_296 8 = (0, za_aload 0 9)) (ze_aload rfl)
  replace b := zz_fw b T9 (rfl : zz_ent zP_296 9 = (0, za_const (.int (Int32.ofNat 44)) 11)) (ze_const)
  replace b := zz_fw b T9 (rfl : zz_ent zP_296 11 = (0, za_iload 1 12)) (ze_iload rfl)
  replace b := zz_fw b T9 (rfl : zz_ent zP_296 12 = (0, za_iload 3 13)) (ze_iload rfl)
  obtain ⟨w2, hM2, hB2⟩ := zL_one_21 (d := d) (l := l) (D := D) (cy := cy) (sp := sp) hG hP hsp hB1 (p0 := p0) (a := 44) (by decide) (by have g11 := zRg_5 p0 11; (try simp only [List.length_append, List.length_singleton, List.length_cons, List.length_nil]); omega)
  replace b := zz_fVv b TK (rfl : zz_ent zP_296 13 = (0, za_callV 3 298 3 16)) hM2 rfl rfl (zB_12 hB1) (zz_lb rfl)
  have m := zz_M_B (yn := zYN) (cn := zCN) (ml := zMQ) (rt := zRT) (y := 296) (as := [.ref 12, .int p0, .int (Int32.ofNat 11), .int (Int32.ofNat 21)]) rfl rfl rfl rfl rfl (by decide +kernel) (zz_lb rfl) (zz_lb rfl) (zz_end_v (zr_296.1 16 rfl).1) b
  exact ⟨_, m, hB2⟩
theorem zL_three_11_21_16 {W0 : zz_W} {l : Launch} {D : va_G} {cy : Nat → ClassId} {z0 : Nat} {sp : Nat → Nat} {G : State → Prop} {d : Nat} (hG : zz_GF z0 G) (hP : ∀ U, G U → zz_GD zS zS2 zLg z0 sp U) (hsp : sp 18446744073709551616 = 0) {T : List Nat} {w : zz_W} (hB : zB W0 T w) {p0 : Int32} (hT : T.length ≤ 15) : ∃ w', zz_M l zTs D zcl zFK cy z0 sp (zTys cy) G zYN zCN zMQ zRT (d + 10) 295 [.ref 12, .int p0, .int (Int32.ofNat 11), .int (Int32.ofNat 21), .int (Int32.ofNat 16)] w [] w' ∧ zB W0 (T ++ [32] ++ zRg p0 11 ++ [44] ++ zRg p0 21 ++ [44] ++ zRg p0 16) w' := by
  have T9 := zt_295 (l := l) (D := D) (cy := cy) (z0 := z0) (sp := sp) (G := G) (d := (d + 9)) zz_k0_KS hG hP
  have TK := fun (K : zz_K) (h : zz_KS l D zcl zFK cy z0 sp (zTys cy) G zYN (fun y => Cond.code (zYN y) (zCN y) (zMQ y) (zRT y) :: zTs) (d + 9) K) => zt_295 h hG hP
  have b := zz_B_rf (l := l) (Ts := zTs) (D := D) (cl := zcl) (fk := zFK) (cy := cy) (z0 := z0) (sp := sp) (tys := zTys cy) (G := G) (own := "ToolMill$Codes") (mn := "three") (nL := 5) (cc := prog_3_method_10_code) (d := (d + 9)) ((0, [(0, .ref 12), (1, .int p0), (2, .int (Int32.ofNat 11)), (3, .int (Int32.ofNat 21)), (4, .int (Int32.ofNat 16))], [], w) : zz_F)
  replace b := zz_fw b T9 (rfl : zz_ent zP_295 0 = (0, za_aload 0 1)) (ze_aload rfl)
  replace b := zz_fw b T9 (rfl : zz_ent zP_295 1 = (0, za_iload 1 2)) (ze_iload rfl)
  replace b := zz_fw b T9 (rfl : zz_ent zP_295 2 = (0, za_iload 2 3)) (ze_iload rfl)
  replace b := zz_fw b T9 (rfl : zz_ent zP_295 3 = (0, za_iload 3 4)) (ze_iload rfl)
  obtain ⟨w1, hM1, hB1⟩ := zL_two_11_21 (d := d) (l := l) (D := D) (cy := cy) (sp := sp) hG hP hsp hB (p0 := p0) (by omega)
  replace b := zz_fVv b TK (rfl : zz_ent zP_295 4 = (0, za_callV 3 296 3 7)) hM1 rfl rfl (zB_12 hB) (zz_lb rfl)
  replace b := zz_fw b T9 (rfl : zz_ent zP_295 7 = (0, za_aload 0 8)) (ze_aload rfl)
  replace b := zz_fw b T9 (rfl : zz_ent zP_295 8 = (0, za_const (.int (Int32.ofNat 44)) 10)) (ze_const)
  replace b := zz_fw b T9 (rfl : zz_ent zP_295 10 = (0, za_iload 1 11)) (ze_iload rfl)
  replace b := zz_fw b T9 (rfl : zz_ent zP_295 11 = (0, za_iload 4 13)) (ze_iload rfl)
  obtain ⟨w2, hM2, hB2⟩ := zL_one_16 (d := d + 1) (l := l) (D := D) (cy := cy) (sp := sp) hG hP hsp hB1 (p0 := p0) (a := 44) (by decide) (by have g11 := zRg_5 p0 11; have g21 := zRg_5 p0 21; (try simp only [List.length_append, List.length_singleton, List.length_cons, List.length_nil]); omega)
  replace b := zz_fVv b TK (rfl : zz_ent zP_295 13 = (0, za_callV 3 298 3 16)) hM2 rfl rfl (zB_12 hB1) (zz_lb rfl)
  have m := zz_M_B (yn := zYN) (cn := zCN) (ml := zMQ) (rt := zRT) (y := 295) (as := [.ref 12, .int p0, .int (Int32.ofNat 11), .int (Int32.ofNat 21), .int (Int32.ofNat 16)]) rfl rfl rfl rfl rfl (by decide +kernel) (zz_lb rfl) (zz_lb rfl) (zz_end_v (zr_295.1 16 rfl).1) b
  exact ⟨_, m, hB2⟩
theorem zL_three_11_16_21 {W0 : zz_W} {l : Launch} {D : va_G} {cy : Nat → ClassId} {z0 : Nat} {sp : Nat → Nat} {G : State → Prop} {d : Nat} (hG : zz_GF z0 G) (hP : ∀ U, G U → zz_GD zS zS2 zLg z0 sp U) (hsp : sp 18446744073709551616 = 0) {T : List Nat} {w : zz_W} (hB : zB W0 T w) {p0 : Int32} (hT : T.length ≤ 15) : ∃ w', zz_M l zTs D zcl zFK cy z0 sp (zTys cy) G zYN zCN zMQ zRT (d + 10) 295 [.ref 12, .int p0, .int (Int32.ofNat 11), .int (Int32.ofNat 16), .int (Int32.ofNat 21)] w [] w' ∧ zB W0 (T ++ [32] ++ zRg p0 11 ++ [44] ++ zRg p0 16 ++ [44] ++ zRg p0 21) w' := by
  have T9 := zt_295 (l := l) (D := D) (cy := cy) (z0 := z0) (sp := sp) (G := G) (d := (d + 9)) zz_k0_KS hG hP
  have TK := fun (K : zz_K) (h : zz_KS l D zcl zFK cy z0 sp (zTys cy) G zYN (fun y => Cond.code (zYN y) (zCN y) (zMQ y) (zRT y) :: zTs) (d + 9) K) => zt_295 h hG hP
  have b := zz_B_rf (l := l) (Ts := zTs) (D := D) (cl := zcl) (fk := zFK) (cy := cy) (z0 := z0) (sp := sp) (tys := zTys cy) (G := G) (own := "ToolMill$Codes") (mn := "three") (nL := 5) (cc := prog_3_method_10_code) (d := (d + 9)) ((0, [(0, .ref 12), (1, .int p0), (2, .int (Int32.ofNat 11)), (3, .int (Int32.ofNat 16)), (4, .int (Int32.ofNat 21))], [], w) : zz_F)
  replace b := zz_fw b T9 (rfl : zz_ent zP_295 0 = (0, za_aload 0 1)) (ze_aload rfl)
  replace b := zz_fw b T9 (rfl : zz_ent zP_295 1 = (0, za_iload 1 2)) (ze_iload rfl)
  replace b := zz_fw b T9 (rfl : zz_ent zP_295 2 = (0, za_iload 2 3)) (ze_iload rfl)
  replace b := zz_fw b T9 (rfl : zz_ent zP_295 3 = (0, za_iload 3 4)) (ze_iload rfl)
  obtain ⟨w1, hM1, hB1⟩ := zL_two_11_16 (d := d) (l := l) (D := D) (cy := cy) (sp := sp) hG hP hsp hB (p0 := p0) (by omega)
  replace b := zz_fVv b TK (rfl : zz_ent zP_295 4 = (0, za_callV 3 296 3 7)) hM1 rfl rfl (zB_12 hB) (zz_lb rfl)
  replace b := zz_fw b T9 (rfl : zz_ent zP_295 7 = (0, za_aload 0 8)) (ze_aload rfl)
  replace b := zz_fw b T9 (rfl : zz_ent zP_295 8 = (0, za_const (.int (Int32.ofNat 44)) 10)) (ze_const)
  replace b := zz_fw b T9 (rfl : zz_ent zP_295 10 = (0, za_iload 1 11)) (ze_iload rfl)
  replace b := zz_fw b T9 (rfl : zz_ent zP_295 11 = (0, za_iload 4 13)) (ze_iload rfl)
  obtain ⟨w2, hM2, hB2⟩ := zL_one_21 (d := d + 1) (l := l) (D := D) (cy := cy) (sp := sp) hG hP hsp hB1 (p0 := p0) (a := 44) (by decide) (by have g11 := zRg_5 p0 11; have g16 := zRg_5 p0 16; (try simp only [List.length_append, List.length_singleton, List.length_cons, List.length_nil]); omega)
  replace b := zz_fVv b TK (rfl : zz_ent zP_295 13 = (0, za_callV 3 298 3 16)) hM2 rfl rfl (zB_12 hB1) (zz_lb rfl)
  have m := zz_M_B (yn := zYN) (cn := zCN) (ml := zMQ) (rt := zRT) (y := 295) (as := [.ref 12, .int p0, .int (Int32.ofNat 11), .int (Int32.ofNat 16), .int (Int32.ofNat 21)]) rfl rfl rfl rfl rfl (by decide +kernel) (zz_lb rfl) (zz_lb rfl) (zz_end_v (zr_295.1 16 rfl).1) b
  exact ⟨_, m, hB2⟩
theorem zL_amt {W0 : zz_W} {l : Launch} {D : va_G} {cy : Nat → ClassId} {z0 : Nat} {sp : Nat → Nat} {G : State → Prop} {d : Nat} (hG : zz_GF z0 G) (hP : ∀ U, G U → zz_GD zS zS2 zLg z0 sp U) (hsp : sp 18446744073709551616 = 0) {T : List Nat} {w : zz_W} (hB : zB W0 T w) {p0 : Int32} {a : Nat} (ha : a < 128) (hT : T.length ≤ 21) : ∃ w', zz_M l zTs D zcl zFK cy z0 sp (zTys cy) G zYN zCN zMQ zRT (d + 7) 297 [.ref 12, .int (Int32.ofNat a), .int p0] w [] w' ∧ zB W0 (T ++ [a] ++ zdc p0) w' := by
  have T9 := zt_297 (l := l) (D := D) (cy := cy) (z0 := z0) (sp := sp) (G := G) (d := (d + 6)) zz_k0_KS hG hP
  have TK := fun (K : zz_K) (h : zz_KS l D zcl zFK cy z0 sp (zTys cy) G zYN (fun y => Cond.code (zYN y) (zCN y) (zMQ y) (zRT y) :: zTs) (d + 6) K) => zt_297 h hG hP
  have b := zz_B_rf (l := l) (Ts := zTs) (D := D) (cl := zcl) (fk := zFK) (cy := cy) (z0 := z0) (sp := sp) (tys := zTys cy) (G := G) (own := "ToolMill$Codes") (mn := "amount") (nL := 3) (cc := prog_3_method_13_code) (d := (d + 6)) ((0, [(0, .ref 12), (1, .int (Int32.ofNat a)), (2, .int p0)], [], w) : zz_F)
  replace b := zz_fw b T9 (rfl : zz_ent zP_297 0 = (0, za_aload 0 1)) (ze_aload rfl)
  replace b := zz_fw b T9 (rfl : zz_ent zP_297 1 = (0, za_getA 3 4 4)) (ze_getA (zB_f12 hB) (by decide) (zB_v12_4 hB))
  replace b := zz_fw b T9 (rfl : zz_ent zP_297 4 = (0, za_iload 1 5)) (ze_iload rfl)
  obtain ⟨w1, hM1, hB1⟩ := zL_apc (d := d) (l := l) (D := D) (cy := cy) (sp := sp) hG hP hsp hB (x := a) (by omega) ha
  replace b := zz_fVi b TK (rfl : zz_ent zP_297 5 = (0, za_callV 13 158 1 8)) hM1 rfl rfl (zB_ic hB) (zz_lb rfl)
  replace b := zz_fw b T9 (rfl : zz_ent zP_297 8 = (0, za_pop 9)) (ze_pop rfl)
  replace b := zz_fw b T9 (rfl : zz_ent zP_297 9 = (0, za_aload 0 10)) (ze_aload rfl)
  replace b := zz_fw b T9 (rfl : zz_ent zP_297 10 = (0, za_getA 3 4 13)) (ze_getA (zB_f12 hB1) (by decide) (zB_v12_4 hB1))
  replace b := zz_fw b T9 (rfl : zz_ent zP_297 13 = (0, za_iload 2 14)) (ze_iload rfl)
  obtain ⟨w2, hM2, hB2⟩ := zL_api (d := d) (l := l) (D := D) (cy := cy) (sp := sp) hG hP hsp hB1 (p0 := p0) (by have g := zdc_11 p0; rw [List.length_append, List.length_singleton]; omega)
  replace b := zz_fVi b TK (rfl : zz_ent zP_297 14 = (0, za_callV 13 155 1 17)) hM2 rfl rfl (zB_ic hB1) (zz_lb rfl)
  replace b := zz_fw b T9 (rfl : zz_ent zP_297 17 = (0, za_pop 18)) (ze_pop rfl)
  have m := zz_M_B (yn := zYN) (cn := zCN) (ml := zMQ) (rt := zRT) (y := 297) (as := [.ref 12, .int (Int32.ofNat a), .int p0]) rfl rfl rfl rfl rfl (by decide +kernel) (zz_lb rfl) (zz_lb rfl) (zz_end_v (zr_297.1 18 rfl).1) b
  exact ⟨_, m, hB2⟩
/-- what stands behind a name, by form -/
noncomputable def zOp (fo : Nat) (p : Int32) : List Nat := match fo with
  | 0 => [32] ++ (zRg p 11 ++ ([44] ++ (zRg p 21 ++ ([44] ++ zRg p 16))))
  | 1 => [32] ++ (zRg p 11 ++ ([44] ++ (zRg p 16 ++ ([44] ++ zdc (Int32.ofNat (zF p 6 5))))))
  | 2 => [32] ++ (zRg p 11 ++ ([44] ++ (zRg p 16 ++ ([44] ++ zRg p 21))))
  | 3 => [32] ++ (zRg p 21 ++ ([44] ++ zRg p 16))
  | 4 => [32] ++ zRg p 11
  | 5 => [32] ++ zRg p 21
  | 6 => []
  | 7 => [32] ++ zdc (Int32.ofNat (zF p 16 10))
  | 8 => [32] ++ (zRg p 16 ++ ([44] ++ (zRg p 21 ++ ([44] ++ zdc p.toInt16.toInt32))))
  | 9 => [32] ++ (zRg p 16 ++ ([44] ++ (zRg p 21 ++ ([44] ++ zdc (p.toInt16.toInt32 &&& Int32.ofNat 65535)))))
  | 10 => [32] ++ (zRg p 16 ++ ([44] ++ zdc (p.toInt16.toInt32 &&& Int32.ofNat 65535)))
  | 11 => [32] ++ (zRg p 16 ++ ([44] ++ (zdc p.toInt16.toInt32 ++ ([40] ++ (zRg p 21 ++ [41])))))
  | 12 => [32] ++ (zRg p 21 ++ ([44] ++ (zRg p 16 ++ ([44] ++ zdc p.toInt16.toInt32))))
  | 13 => [32] ++ (zRg p 21 ++ ([44] ++ zdc p.toInt16.toInt32))
  | 14 => [32] ++ zdc (Int32.ofNat (zF p 0 26))
  | _ => []
theorem zL_op_0 {W0 : zz_W} {l : Launch} {D : va_G} {cy : Nat → ClassId} {z0 : Nat} {sp : Nat → Nat} {G : State → Prop} {d : Nat} (hG : zz_GF z0 G) (hP : ∀ U, G U → zz_GD zS zS2 zLg z0 sp U) (hsp : sp 18446744073709551616 = 0) {T : List Nat} {w : zz_W} (hB : zB W0 T w) {p0 : Int32} {f : Nat} (h51 : f < 51) (q1 : zz_ki zS2 2000002 f = some 0) (hT : T.length ≤ 7) : ∃ w', zz_M l zTs D zcl zFK cy z0 sp (zTys cy) G zYN zCN zMQ zRT (d + 11) 157 [.ref 12, .int p0, .int (Int32.ofNat f)] w [] w' ∧ zB W0 (T ++ zOp 0 p0) w' := by
  have T9 := zt_157 (l := l) (D := D) (cy := cy) (z0 := z0) (sp := sp) (G := G) (d := (d + 10)) zz_k0_KS hG hP
  have TK := fun (K : zz_K) (h : zz_KS l D zcl zFK cy z0 sp (zTys cy) G zYN (fun y => Cond.code (zYN y) (zCN y) (zMQ y) (zRT y) :: zTs) (d + 10) K) => zt_157 h hG hP
  have b := zz_B_rf (l := l) (Ts := zTs) (D := D) (cl := zcl) (fk := zFK) (cy := cy) (z0 := z0) (sp := sp) (tys := zTys cy) (G := G) (own := "ToolMill$Codes") (mn := "operands") (nL := 4) (cc := prog_3_method_9_code) (d := (d + 10)) ((0, [(0, .ref 12), (1, .int p0), (2, .int (Int32.ofNat f))], [], w) : zz_F)
  replace b := zz_fw b T9 (rfl : zz_ent zP_157 0 = (0, za_iload 1 1)) (ze_iload rfl)
  replace b := zz_fw b T9 (rfl : zz_ent zP_157 1 = (0, za_i2s 2)) (ze_i2s rfl)
  replace b := zz_fw b T9 (rfl : zz_ent zP_157 2 = (0, za_istore 3 3)) (ze_istore (lv' := [(0, _), (1, _), (2, _)]) rfl)
  replace b := zz_fw b T9 (rfl : zz_ent zP_157 3 = (0, za_const (.ref 2000002) 6)) (ze_const)
  replace b := zz_fw b T9 (rfl : zz_ent zP_157 6 = (0, za_iload 2 7)) (ze_iload rfl)
  replace b := zz_fw b T9 (rfl : zz_ent zP_157 7 = (0, za_kl (zz_ki zS2) 8)) (ze_kl (by rw [zz_nI_ofNat (by omega)]; exact q1) rfl)
  replace b := zz_fw b T9 (rfl : zz_ent zP_157 8 = (0, za_tsw (0) (14) 337 [84, 98, 123, 137, 149, 161, 337, 173, 190, 190, 226, 248, 286, 305, 324])) (ze_tsw_k (t := 84) (by decide) (by decide))
  replace b := zz_fw b T9 (rfl : zz_ent zP_157 84 = (0, za_aload 0 85)) (ze_aload rfl)
  replace b := zz_fw b T9 (rfl : zz_ent zP_157 85 = (0, za_iload 1 86)) (ze_iload rfl)
  replace b := zz_fw b T9 (rfl : zz_ent zP_157 86 = (0, za_const (.int (Int32.ofNat 11)) 88)) (ze_const)
  replace b := zz_fw b T9 (rfl : zz_ent zP_157 88 = (0, za_const (.int (Int32.ofNat 21)) 90)) (ze_const)
  replace b := zz_fw b T9 (rfl : zz_ent zP_157 90 = (0, za_const (.int (Int32.ofNat 16)) 92)) (ze_const)
  obtain ⟨w1, hM1, hB1⟩ := zL_three_11_21_16 (d := d) (l := l) (D := D) (cy := cy) (sp := sp) hG hP hsp hB (p0 := p0) (by omega)
  replace b := zz_fVv b TK (rfl : zz_ent zP_157 92 = (0, za_callV 3 295 4 95)) hM1 rfl rfl (zB_12 hB) (zz_lb rfl)
  replace b := zz_fw b T9 (rfl : zz_ent zP_157 95 = (0, za_goto 337)) (ze_goto)
  have m := zz_M_B (yn := zYN) (cn := zCN) (ml := zMQ) (rt := zRT) (y := 157) (as := [.ref 12, .int p0, .int (Int32.ofNat f)]) rfl rfl rfl rfl rfl (by decide +kernel) (zz_lb rfl) (zz_lb rfl) (zz_end_v (zr_157.1 337 rfl).1) b
  exact ⟨_, m, by show zB W0 (T ++ ([32] ++ (zRg p0 11 ++ ([44] ++ (zRg p0 21 ++ ([44] ++ zRg p0 16)))))) _; simp only [List.append_assoc] at hB1 ⊢; exact hB1⟩
theorem zL_op_1 {W0 : zz_W} {l : Launch} {D : va_G} {cy : Nat → ClassId} {z0 : Nat} {sp : Nat → Nat} {G : State → Prop} {d : Nat} (hG : zz_GF z0 G) (hP : ∀ U, G U → zz_GD zS zS2 zLg z0 sp U) (hsp : sp 18446744073709551616 = 0) {T : List Nat} {w : zz_W} (hB : zB W0 T w) {p0 : Int32} {f : Nat} (h51 : f < 51) (q1 : zz_ki zS2 2000002 f = some 1) (hT : T.length ≤ 7) : ∃ w', zz_M l zTs D zcl zFK cy z0 sp (zTys cy) G zYN zCN zMQ zRT (d + 11) 157 [.ref 12, .int p0, .int (Int32.ofNat f)] w [] w' ∧ zB W0 (T ++ zOp 1 p0) w' := by
  have T9 := zt_157 (l := l) (D := D) (cy := cy) (z0 := z0) (sp := sp) (G := G) (d := (d + 10)) zz_k0_KS hG hP
  have TK := fun (K : zz_K) (h : zz_KS l D zcl zFK cy z0 sp (zTys cy) G zYN (fun y => Cond.code (zYN y) (zCN y) (zMQ y) (zRT y) :: zTs) (d + 10) K) => zt_157 h hG hP
  have b := zz_B_rf (l := l) (Ts := zTs) (D := D) (cl := zcl) (fk := zFK) (cy := cy) (z0 := z0) (sp := sp) (tys := zTys cy) (G := G) (own := "ToolMill$Codes") (mn := "operands") (nL := 4) (cc := prog_3_method_9_code) (d := (d + 10)) ((0, [(0, .ref 12), (1, .int p0), (2, .int (Int32.ofNat f))], [], w) : zz_F)
  replace b := zz_fw b T9 (rfl : zz_ent zP_157 0 = (0, za_iload 1 1)) (ze_iload rfl)
  replace b := zz_fw b T9 (rfl : zz_ent zP_157 1 = (0, za_i2s 2)) (ze_i2s rfl)
  replace b := zz_fw b T9 (rfl : zz_ent zP_157 2 = (0, za_istore 3 3)) (ze_istore (lv' := [(0, _), (1, _), (2, _)]) rfl)
  replace b := zz_fw b T9 (rfl : zz_ent zP_157 3 = (0, za_const (.ref 2000002) 6)) (ze_const)
  replace b := zz_fw b T9 (rfl : zz_ent zP_157 6 = (0, za_iload 2 7)) (ze_iload rfl)
  replace b := zz_fw b T9 (rfl : zz_ent zP_157 7 = (0, za_kl (zz_ki zS2) 8)) (ze_kl (by rw [zz_nI_ofNat (by omega)]; exact q1) rfl)
  replace b := zz_fw b T9 (rfl : zz_ent zP_157 8 = (0, za_tsw (0) (14) 337 [84, 98, 123, 137, 149, 161, 337, 173, 190, 190, 226, 248, 286, 305, 324])) (ze_tsw_k (t := 98) (by decide) (by decide))
  replace b := zz_fw b T9 (rfl : zz_ent zP_157 98 = (0, za_aload 0 99)) (ze_aload rfl)
  replace b := zz_fw b T9 (rfl : zz_ent zP_157 99 = (0, za_iload 1 100)) (ze_iload rfl)
  replace b := zz_fw b T9 (rfl : zz_ent zP_157 100 = (0, za_const (.int (Int32.ofNat 11)) 102)) (ze_const)
  replace b := zz_fw b T9 (rfl : zz_ent zP_157 102 = (0, za_const (.int (Int32.ofNat 16)) 104)) (ze_const)
  obtain ⟨w1, hM1, hB1⟩ := zL_two_11_16 (d := d + 1) (l := l) (D := D) (cy := cy) (sp := sp) hG hP hsp hB (p0 := p0) (by omega)
  replace b := zz_fVv b TK (rfl : zz_ent zP_157 104 = (0, za_callV 3 296 3 107)) hM1 rfl rfl (zB_12 hB) (zz_lb rfl)
  replace b := zz_fw b T9 (rfl : zz_ent zP_157 107 = (0, za_aload 0 108)) (ze_aload rfl)
  replace b := zz_fw b T9 (rfl : zz_ent zP_157 108 = (0, za_const (.int (Int32.ofNat 44)) 110)) (ze_const)
  replace b := zz_fw b T9 (rfl : zz_ent zP_157 110 = (0, za_iload 1 111)) (ze_iload rfl)
  replace b := zz_fw b T9 (rfl : zz_ent zP_157 111 = (0, za_const (.int (Int32.ofNat 6)) 113)) (ze_const)
  replace b := zz_fw b T9 (rfl : zz_ent zP_157 113 = (0, za_iushr 114)) (ze_iushr rfl)
  replace b := zz_fw b T9 (rfl : zz_ent zP_157 114 = (0, za_const (.int (Int32.ofNat 31)) 116)) (ze_const)
  replace b := zz_fw b T9 (rfl : zz_ent zP_157 116 = (0, za_iand 117)) (ze_iand (zF_eq p0 6 5 31 (by decide) (by decide) rfl))
  obtain ⟨w2, hM2, hB2⟩ := zL_amt (d := d + 3) (l := l) (D := D) (cy := cy) (sp := sp) hG hP hsp hB1 (p0 := Int32.ofNat (zF p0 6 5)) (a := 44) (by decide) (by have g11 := zRg_5 p0 11; have g16 := zRg_5 p0 16; (try simp only [List.length_append, List.length_singleton, List.length_cons, List.length_nil]); omega)
  replace b := zz_fVv b TK (rfl : zz_ent zP_157 117 = (0, za_callV 3 297 2 120)) hM2 rfl rfl (zB_12 hB1) (zz_lb rfl)
  replace b := zz_fw b T9 (rfl : zz_ent zP_157 120 = (0, za_goto 337)) (ze_goto)
  have m := zz_M_B (yn := zYN) (cn := zCN) (ml := zMQ) (rt := zRT) (y := 157) (as := [.ref 12, .int p0, .int (Int32.ofNat f)]) rfl rfl rfl rfl rfl (by decide +kernel) (zz_lb rfl) (zz_lb rfl) (zz_end_v (zr_157.1 337 rfl).1) b
  exact ⟨_, m, by show zB W0 (T ++ ([32] ++ (zRg p0 11 ++ ([44] ++ (zRg p0 16 ++ ([44] ++ zdc (Int32.ofNat (zF p0 6 5)))))))) _; simp only [List.append_assoc] at hB2 ⊢; exact hB2⟩
theorem zL_op_2 {W0 : zz_W} {l : Launch} {D : va_G} {cy : Nat → ClassId} {z0 : Nat} {sp : Nat → Nat} {G : State → Prop} {d : Nat} (hG : zz_GF z0 G) (hP : ∀ U, G U → zz_GD zS zS2 zLg z0 sp U) (hsp : sp 18446744073709551616 = 0) {T : List Nat} {w : zz_W} (hB : zB W0 T w) {p0 : Int32} {f : Nat} (h51 : f < 51) (q1 : zz_ki zS2 2000002 f = some 2) (hT : T.length ≤ 7) : ∃ w', zz_M l zTs D zcl zFK cy z0 sp (zTys cy) G zYN zCN zMQ zRT (d + 11) 157 [.ref 12, .int p0, .int (Int32.ofNat f)] w [] w' ∧ zB W0 (T ++ zOp 2 p0) w' := by
  have T9 := zt_157 (l := l) (D := D) (cy := cy) (z0 := z0) (sp := sp) (G := G) (d := (d + 10)) zz_k0_KS hG hP
  have TK := fun (K : zz_K) (h : zz_KS l D zcl zFK cy z0 sp (zTys cy) G zYN (fun y => Cond.code (zYN y) (zCN y) (zMQ y) (zRT y) :: zTs) (d + 10) K) => zt_157 h hG hP
  have b := zz_B_rf (l := l) (Ts := zTs) (D := D) (cl := zcl) (fk := zFK) (cy := cy) (z0 := z0) (sp := sp) (tys := zTys cy) (G := G) (own := "ToolMill$Codes") (mn := "operands") (nL := 4) (cc := prog_3_method_9_code) (d := (d + 10)) ((0, [(0, .ref 12), (1, .int p0), (2, .int (Int32.ofNat f))], [], w) : zz_F)
  replace b := zz_fw b T9 (rfl : zz_ent zP_157 0 = (0, za_iload 1 1)) (ze_iload rfl)
  replace b := zz_fw b T9 (rfl : zz_ent zP_157 1 = (0, za_i2s 2)) (ze_i2s rfl)
  replace b := zz_fw b T9 (rfl : zz_ent zP_157 2 = (0, za_istore 3 3)) (ze_istore (lv' := [(0, _), (1, _), (2, _)]) rfl)
  replace b := zz_fw b T9 (rfl : zz_ent zP_157 3 = (0, za_const (.ref 2000002) 6)) (ze_const)
  replace b := zz_fw b T9 (rfl : zz_ent zP_157 6 = (0, za_iload 2 7)) (ze_iload rfl)
  replace b := zz_fw b T9 (rfl : zz_ent zP_157 7 = (0, za_kl (zz_ki zS2) 8)) (ze_kl (by rw [zz_nI_ofNat (by omega)]; exact q1) rfl)
  replace b := zz_fw b T9 (rfl : zz_ent zP_157 8 = (0, za_tsw (0) (14) 337 [84, 98, 123, 137, 149, 161, 337, 173, 190, 190, 226, 248, 286, 305, 324])) (ze_tsw_k (t := 123) (by decide) (by decide))
  replace b := zz_fw b T9 (rfl : zz_ent zP_157 123 = (0, za_aload 0 124)) (ze_aload rfl)
  replace b := zz_fw b T9 (rfl : zz_ent zP_157 124 = (0, za_iload 1 125)) (ze_iload rfl)
  replace b := zz_fw b T9 (rfl : zz_ent zP_157 125 = (0, za_const (.int (Int32.ofNat 11)) 127)) (ze_const)
  replace b := zz_fw b T9 (rfl : zz_ent zP_157 127 = (0, za_const (.int (Int32.ofNat 16)) 129)) (ze_const)
  replace b := zz_fw b T9 (rfl : zz_ent zP_157 129 = (0, za_const (.int (Int32.ofNat 21)) 131)) (ze_const)
  obtain ⟨w1, hM1, hB1⟩ := zL_three_11_16_21 (d := d) (l := l) (D := D) (cy := cy) (sp := sp) hG hP hsp hB (p0 := p0) (by omega)
  replace b := zz_fVv b TK (rfl : zz_ent zP_157 131 = (0, za_callV 3 295 4 134)) hM1 rfl rfl (zB_12 hB) (zz_lb rfl)
  replace b := zz_fw b T9 (rfl : zz_ent zP_157 134 = (0, za_goto 337)) (ze_goto)
  have m := zz_M_B (yn := zYN) (cn := zCN) (ml := zMQ) (rt := zRT) (y := 157) (as := [.ref 12, .int p0, .int (Int32.ofNat f)]) rfl rfl rfl rfl rfl (by decide +kernel) (zz_lb rfl) (zz_lb rfl) (zz_end_v (zr_157.1 337 rfl).1) b
  exact ⟨_, m, by show zB W0 (T ++ ([32] ++ (zRg p0 11 ++ ([44] ++ (zRg p0 16 ++ ([44] ++ zRg p0 21)))))) _; simp only [List.append_assoc] at hB1 ⊢; exact hB1⟩
theorem zL_op_3 {W0 : zz_W} {l : Launch} {D : va_G} {cy : Nat → ClassId} {z0 : Nat} {sp : Nat → Nat} {G : State → Prop} {d : Nat} (hG : zz_GF z0 G) (hP : ∀ U, G U → zz_GD zS zS2 zLg z0 sp U) (hsp : sp 18446744073709551616 = 0) {T : List Nat} {w : zz_W} (hB : zB W0 T w) {p0 : Int32} {f : Nat} (h51 : f < 51) (q1 : zz_ki zS2 2000002 f = some 3) (hT : T.length ≤ 7) : ∃ w', zz_M l zTs D zcl zFK cy z0 sp (zTys cy) G zYN zCN zMQ zRT (d + 11) 157 [.ref 12, .int p0, .int (Int32.ofNat f)] w [] w' ∧ zB W0 (T ++ zOp 3 p0) w' := by
  have T9 := zt_157 (l := l) (D := D) (cy := cy) (z0 := z0) (sp := sp) (G := G) (d := (d + 10)) zz_k0_KS hG hP
  have TK := fun (K : zz_K) (h : zz_KS l D zcl zFK cy z0 sp (zTys cy) G zYN (fun y => Cond.code (zYN y) (zCN y) (zMQ y) (zRT y) :: zTs) (d + 10) K) => zt_157 h hG hP
  have b := zz_B_rf (l := l) (Ts := zTs) (D := D) (cl := zcl) (fk := zFK) (cy := cy) (z0 := z0) (sp := sp) (tys := zTys cy) (G := G) (own := "ToolMill$Codes") (mn := "operands") (nL := 4) (cc := prog_3_method_9_code) (d := (d + 10)) ((0, [(0, .ref 12), (1, .int p0), (2, .int (Int32.ofNat f))], [], w) : zz_F)
  replace b := zz_fw b T9 (rfl : zz_ent zP_157 0 = (0, za_iload 1 1)) (ze_iload rfl)
  replace b := zz_fw b T9 (rfl : zz_ent zP_157 1 = (0, za_i2s 2)) (ze_i2s rfl)
  replace b := zz_fw b T9 (rfl : zz_ent zP_157 2 = (0, za_istore 3 3)) (ze_istore (lv' := [(0, _), (1, _), (2, _)]) rfl)
  replace b := zz_fw b T9 (rfl : zz_ent zP_157 3 = (0, za_const (.ref 2000002) 6)) (ze_const)
  replace b := zz_fw b T9 (rfl : zz_ent zP_157 6 = (0, za_iload 2 7)) (ze_iload rfl)
  replace b := zz_fw b T9 (rfl : zz_ent zP_157 7 = (0, za_kl (zz_ki zS2) 8)) (ze_kl (by rw [zz_nI_ofNat (by omega)]; exact q1) rfl)
  replace b := zz_fw b T9 (rfl : zz_ent zP_157 8 = (0, za_tsw (0) (14) 337 [84, 98, 123, 137, 149, 161, 337, 173, 190, 190, 226, 248, 286, 305, 324])) (ze_tsw_k (t := 137) (by decide) (by decide))
  replace b := zz_fw b T9 (rfl : zz_ent zP_157 137 = (0, za_aload 0 138)) (ze_aload rfl)
  replace b := zz_fw b T9 (rfl : zz_ent zP_157 138 = (0, za_iload 1 139)) (ze_iload rfl)
  replace b := zz_fw b T9 (rfl : zz_ent zP_157 139 = (0, za_const (.int (Int32.ofNat 21)) 141)) (ze_const)
  replace b := zz_fw b T9 (rfl : zz_ent zP_157 141 = (0, za_const (.int (Int32.ofNat 16)) 143)) (ze_const)
  obtain ⟨w1, hM1, hB1⟩ := zL_two_21_16 (d := d + 1) (l := l) (D := D) (cy := cy) (sp := sp) hG hP hsp hB (p0 := p0) (by omega)
  replace b := zz_fVv b TK (rfl : zz_ent zP_157 143 = (0, za_callV 3 296 3 146)) hM1 rfl rfl (zB_12 hB) (zz_lb rfl)
  replace b := zz_fw b T9 (rfl : zz_ent zP_157 146 = (0, za_goto 337)) (ze_goto)
  have m := zz_M_B (yn := zYN) (cn := zCN) (ml := zMQ) (rt := zRT) (y := 157) (as := [.ref 12, .int p0, .int (Int32.ofNat f)]) rfl rfl rfl rfl rfl (by decide +kernel) (zz_lb rfl) (zz_lb rfl) (zz_end_v (zr_157.1 337 rfl).1) b
  exact ⟨_, m, by show zB W0 (T ++ ([32] ++ (zRg p0 21 ++ ([44] ++ zRg p0 16)))) _; simp only [List.append_assoc] at hB1 ⊢; exact hB1⟩
theorem zL_op_4 {W0 : zz_W} {l : Launch} {D : va_G} {cy : Nat → ClassId} {z0 : Nat} {sp : Nat → Nat} {G : State → Prop} {d : Nat} (hG : zz_GF z0 G) (hP : ∀ U, G U → zz_GD zS zS2 zLg z0 sp U) (hsp : sp 18446744073709551616 = 0) {T : List Nat} {w : zz_W} (hB : zB W0 T w) {p0 : Int32} {f : Nat} (h51 : f < 51) (q1 : zz_ki zS2 2000002 f = some 4) (hT : T.length ≤ 7) : ∃ w', zz_M l zTs D zcl zFK cy z0 sp (zTys cy) G zYN zCN zMQ zRT (d + 11) 157 [.ref 12, .int p0, .int (Int32.ofNat f)] w [] w' ∧ zB W0 (T ++ zOp 4 p0) w' := by
  have T9 := zt_157 (l := l) (D := D) (cy := cy) (z0 := z0) (sp := sp) (G := G) (d := (d + 10)) zz_k0_KS hG hP
  have TK := fun (K : zz_K) (h : zz_KS l D zcl zFK cy z0 sp (zTys cy) G zYN (fun y => Cond.code (zYN y) (zCN y) (zMQ y) (zRT y) :: zTs) (d + 10) K) => zt_157 h hG hP
  have b := zz_B_rf (l := l) (Ts := zTs) (D := D) (cl := zcl) (fk := zFK) (cy := cy) (z0 := z0) (sp := sp) (tys := zTys cy) (G := G) (own := "ToolMill$Codes") (mn := "operands") (nL := 4) (cc := prog_3_method_9_code) (d := (d + 10)) ((0, [(0, .ref 12), (1, .int p0), (2, .int (Int32.ofNat f))], [], w) : zz_F)
  replace b := zz_fw b T9 (rfl : zz_ent zP_157 0 = (0, za_iload 1 1)) (ze_iload rfl)
  replace b := zz_fw b T9 (rfl : zz_ent zP_157 1 = (0, za_i2s 2)) (ze_i2s rfl)
  replace b := zz_fw b T9 (rfl : zz_ent zP_157 2 = (0, za_istore 3 3)) (ze_istore (lv' := [(0, _), (1, _), (2, _)]) rfl)
  replace b := zz_fw b T9 (rfl : zz_ent zP_157 3 = (0, za_const (.ref 2000002) 6)) (ze_const)
  replace b := zz_fw b T9 (rfl : zz_ent zP_157 6 = (0, za_iload 2 7)) (ze_iload rfl)
  replace b := zz_fw b T9 (rfl : zz_ent zP_157 7 = (0, za_kl (zz_ki zS2) 8)) (ze_kl (by rw [zz_nI_ofNat (by omega)]; exact q1) rfl)
  replace b := zz_fw b T9 (rfl : zz_ent zP_157 8 = (0, za_tsw (0) (14) 337 [84, 98, 123, 137, 149, 161, 337, 173, 190, 190, 226, 248, 286, 305, 324])) (ze_tsw_k (t := 149) (by decide) (by decide))
  replace b := zz_fw b T9 (rfl : zz_ent zP_157 149 = (0, za_aload 0 150)) (ze_aload rfl)
  replace b := zz_fw b T9 (rfl : zz_ent zP_157 150 = (0, za_const (.int (Int32.ofNat 32)) 152)) (ze_const)
  replace b := zz_fw b T9 (rfl : zz_ent zP_157 152 = (0, za_iload 1 153)) (ze_iload rfl)
  replace b := zz_fw b T9 (rfl : zz_ent zP_157 153 = (0, za_const (.int (Int32.ofNat 11)) 155)) (ze_const)
  obtain ⟨w1, hM1, hB1⟩ := zL_one_11 (d := d + 2) (l := l) (D := D) (cy := cy) (sp := sp) hG hP hsp hB (p0 := p0) (a := 32) (by decide) (by (try simp only [List.length_append, List.length_singleton, List.length_cons, List.length_nil]); omega)
  replace b := zz_fVv b TK (rfl : zz_ent zP_157 155 = (0, za_callV 3 298 3 158)) hM1 rfl rfl (zB_12 hB) (zz_lb rfl)
  replace b := zz_fw b T9 (rfl : zz_ent zP_157 158 = (0, za_goto 337)) (ze_goto)
  have m := zz_M_B (yn := zYN) (cn := zCN) (ml := zMQ) (rt := zRT) (y := 157) (as := [.ref 12, .int p0, .int (Int32.ofNat f)]) rfl rfl rfl rfl rfl (by decide +kernel) (zz_lb rfl) (zz_lb rfl) (zz_end_v (zr_157.1 337 rfl).1) b
  exact ⟨_, m, by show zB W0 (T ++ ([32] ++ zRg p0 11)) _; simp only [List.append_assoc] at hB1 ⊢; exact hB1⟩
theorem zL_op_5 {W0 : zz_W} {l : Launch} {D : va_G} {cy : Nat → ClassId} {z0 : Nat} {sp : Nat → Nat} {G : State → Prop} {d : Nat} (hG : zz_GF z0 G) (hP : ∀ U, G U → zz_GD zS zS2 zLg z0 sp U) (hsp : sp 18446744073709551616 = 0) {T : List Nat} {w : zz_W} (hB : zB W0 T w) {p0 : Int32} {f : Nat} (h51 : f < 51) (q1 : zz_ki zS2 2000002 f = some 5) (hT : T.length ≤ 7) : ∃ w', zz_M l zTs D zcl zFK cy z0 sp (zTys cy) G zYN zCN zMQ zRT (d + 11) 157 [.ref 12, .int p0, .int (Int32.ofNat f)] w [] w' ∧ zB W0 (T ++ zOp 5 p0) w' := by
  have T9 := zt_157 (l := l) (D := D) (cy := cy) (z0 := z0) (sp := sp) (G := G) (d := (d + 10)) zz_k0_KS hG hP
  have TK := fun (K : zz_K) (h : zz_KS l D zcl zFK cy z0 sp (zTys cy) G zYN (fun y => Cond.code (zYN y) (zCN y) (zMQ y) (zRT y) :: zTs) (d + 10) K) => zt_157 h hG hP
  have b := zz_B_rf (l := l) (Ts := zTs) (D := D) (cl := zcl) (fk := zFK) (cy := cy) (z0 := z0) (sp := sp) (tys := zTys cy) (G := G) (own := "ToolMill$Codes") (mn := "operands") (nL := 4) (cc := prog_3_method_9_code) (d := (d + 10)) ((0, [(0, .ref 12), (1, .int p0), (2, .int (Int32.ofNat f))], [], w) : zz_F)
  replace b := zz_fw b T9 (rfl : zz_ent zP_157 0 = (0, za_iload 1 1)) (ze_iload rfl)
  replace b := zz_fw b T9 (rfl : zz_ent zP_157 1 = (0, za_i2s 2)) (ze_i2s rfl)
  replace b := zz_fw b T9 (rfl : zz_ent zP_157 2 = (0, za_istore 3 3)) (ze_istore (lv' := [(0, _), (1, _), (2, _)]) rfl)
  replace b := zz_fw b T9 (rfl : zz_ent zP_157 3 = (0, za_const (.ref 2000002) 6)) (ze_const)
  replace b := zz_fw b T9 (rfl : zz_ent zP_157 6 = (0, za_iload 2 7)) (ze_iload rfl)
  replace b := zz_fw b T9 (rfl : zz_ent zP_157 7 = (0, za_kl (zz_ki zS2) 8)) (ze_kl (by rw [zz_nI_ofNat (by omega)]; exact q1) rfl)
  replace b := zz_fw b T9 (rfl : zz_ent zP_157 8 = (0, za_tsw (0) (14) 337 [84, 98, 123, 137, 149, 161, 337, 173, 190, 190, 226, 248, 286, 305, 324])) (ze_tsw_k (t := 161) (by decide) (by decide))
  replace b := zz_fw b T9 (rfl : zz_ent zP_157 161 = (0, za_aload 0 162)) (ze_aload rfl)
  replace b := zz_fw b T9 (rfl : zz_ent zP_157 162 = (0, za_const (.int (Int32.ofNat 32)) 164)) (ze_const)
  replace b := zz_fw b T9 (rfl : zz_ent zP_157 164 = (0, za_iload 1 165)) (ze_iload rfl)
  replace b := zz_fw b T9 (rfl : zz_ent zP_157 165 = (0, za_const (.int (Int32.ofNat 21)) 167)) (ze_const)
  obtain ⟨w1, hM1, hB1⟩ := zL_one_21 (d := d + 2) (l := l) (D := D) (cy := cy) (sp := sp) hG hP hsp hB (p0 := p0) (a := 32) (by decide) (by (try simp only [List.length_append, List.length_singleton, List.length_cons, List.length_nil]); omega)
  replace b := zz_fVv b TK (rfl : zz_ent zP_157 167 = (0, za_callV 3 298 3 170)) hM1 rfl rfl (zB_12 hB) (zz_lb rfl)
  replace b := zz_fw b T9 (rfl : zz_ent zP_157 170 = (0, za_goto 337)) (ze_goto)
  have m := zz_M_B (yn := zYN) (cn := zCN) (ml := zMQ) (rt := zRT) (y := 157) (as := [.ref 12, .int p0, .int (Int32.ofNat f)]) rfl rfl rfl rfl rfl (by decide +kernel) (zz_lb rfl) (zz_lb rfl) (zz_end_v (zr_157.1 337 rfl).1) b
  exact ⟨_, m, by show zB W0 (T ++ ([32] ++ zRg p0 21)) _; simp only [List.append_assoc] at hB1 ⊢; exact hB1⟩
theorem zL_op_6 {W0 : zz_W} {l : Launch} {D : va_G} {cy : Nat → ClassId} {z0 : Nat} {sp : Nat → Nat} {G : State → Prop} {d : Nat} (hG : zz_GF z0 G) (hP : ∀ U, G U → zz_GD zS zS2 zLg z0 sp U) (hsp : sp 18446744073709551616 = 0) {T : List Nat} {w : zz_W} (hB : zB W0 T w) {p0 : Int32} {f : Nat} (h51 : f < 51) (q1 : zz_ki zS2 2000002 f = some 6) (hT : T.length ≤ 7) : ∃ w', zz_M l zTs D zcl zFK cy z0 sp (zTys cy) G zYN zCN zMQ zRT (d + 11) 157 [.ref 12, .int p0, .int (Int32.ofNat f)] w [] w' ∧ zB W0 (T ++ zOp 6 p0) w' := by
  have T9 := zt_157 (l := l) (D := D) (cy := cy) (z0 := z0) (sp := sp) (G := G) (d := (d + 10)) zz_k0_KS hG hP
  have TK := fun (K : zz_K) (h : zz_KS l D zcl zFK cy z0 sp (zTys cy) G zYN (fun y => Cond.code (zYN y) (zCN y) (zMQ y) (zRT y) :: zTs) (d + 10) K) => zt_157 h hG hP
  have b := zz_B_rf (l := l) (Ts := zTs) (D := D) (cl := zcl) (fk := zFK) (cy := cy) (z0 := z0) (sp := sp) (tys := zTys cy) (G := G) (own := "ToolMill$Codes") (mn := "operands") (nL := 4) (cc := prog_3_method_9_code) (d := (d + 10)) ((0, [(0, .ref 12), (1, .int p0), (2, .int (Int32.ofNat f))], [], w) : zz_F)
  replace b := zz_fw b T9 (rfl : zz_ent zP_157 0 = (0, za_iload 1 1)) (ze_iload rfl)
  replace b := zz_fw b T9 (rfl : zz_ent zP_157 1 = (0, za_i2s 2)) (ze_i2s rfl)
  replace b := zz_fw b T9 (rfl : zz_ent zP_157 2 = (0, za_istore 3 3)) (ze_istore (lv' := [(0, _), (1, _), (2, _)]) rfl)
  replace b := zz_fw b T9 (rfl : zz_ent zP_157 3 = (0, za_const (.ref 2000002) 6)) (ze_const)
  replace b := zz_fw b T9 (rfl : zz_ent zP_157 6 = (0, za_iload 2 7)) (ze_iload rfl)
  replace b := zz_fw b T9 (rfl : zz_ent zP_157 7 = (0, za_kl (zz_ki zS2) 8)) (ze_kl (by rw [zz_nI_ofNat (by omega)]; exact q1) rfl)
  replace b := zz_fw b T9 (rfl : zz_ent zP_157 8 = (0, za_tsw (0) (14) 337 [84, 98, 123, 137, 149, 161, 337, 173, 190, 190, 226, 248, 286, 305, 324])) (ze_tsw_k (t := 337) (by decide) (by decide))
  have m := zz_M_B (yn := zYN) (cn := zCN) (ml := zMQ) (rt := zRT) (y := 157) (as := [.ref 12, .int p0, .int (Int32.ofNat f)]) rfl rfl rfl rfl rfl (by decide +kernel) (zz_lb rfl) (zz_lb rfl) (zz_end_v (zr_157.1 337 rfl).1) b
  exact ⟨_, m, by show zB W0 (T ++ []) w; rw [List.append_nil]; exact hB⟩
theorem zL_op_7 {W0 : zz_W} {l : Launch} {D : va_G} {cy : Nat → ClassId} {z0 : Nat} {sp : Nat → Nat} {G : State → Prop} {d : Nat} (hG : zz_GF z0 G) (hP : ∀ U, G U → zz_GD zS zS2 zLg z0 sp U) (hsp : sp 18446744073709551616 = 0) {T : List Nat} {w : zz_W} (hB : zB W0 T w) {p0 : Int32} {f : Nat} (h51 : f < 51) (q1 : zz_ki zS2 2000002 f = some 7) (hT : T.length ≤ 7) : ∃ w', zz_M l zTs D zcl zFK cy z0 sp (zTys cy) G zYN zCN zMQ zRT (d + 11) 157 [.ref 12, .int p0, .int (Int32.ofNat f)] w [] w' ∧ zB W0 (T ++ zOp 7 p0) w' := by
  have T9 := zt_157 (l := l) (D := D) (cy := cy) (z0 := z0) (sp := sp) (G := G) (d := (d + 10)) zz_k0_KS hG hP
  have TK := fun (K : zz_K) (h : zz_KS l D zcl zFK cy z0 sp (zTys cy) G zYN (fun y => Cond.code (zYN y) (zCN y) (zMQ y) (zRT y) :: zTs) (d + 10) K) => zt_157 h hG hP
  have b := zz_B_rf (l := l) (Ts := zTs) (D := D) (cl := zcl) (fk := zFK) (cy := cy) (z0 := z0) (sp := sp) (tys := zTys cy) (G := G) (own := "ToolMill$Codes") (mn := "operands") (nL := 4) (cc := prog_3_method_9_code) (d := (d + 10)) ((0, [(0, .ref 12), (1, .int p0), (2, .int (Int32.ofNat f))], [], w) : zz_F)
  replace b := zz_fw b T9 (rfl : zz_ent zP_157 0 = (0, za_iload 1 1)) (ze_iload rfl)
  replace b := zz_fw b T9 (rfl : zz_ent zP_157 1 = (0, za_i2s 2)) (ze_i2s rfl)
  replace b := zz_fw b T9 (rfl : zz_ent zP_157 2 = (0, za_istore 3 3)) (ze_istore (lv' := [(0, _), (1, _), (2, _)]) rfl)
  replace b := zz_fw b T9 (rfl : zz_ent zP_157 3 = (0, za_const (.ref 2000002) 6)) (ze_const)
  replace b := zz_fw b T9 (rfl : zz_ent zP_157 6 = (0, za_iload 2 7)) (ze_iload rfl)
  replace b := zz_fw b T9 (rfl : zz_ent zP_157 7 = (0, za_kl (zz_ki zS2) 8)) (ze_kl (by rw [zz_nI_ofNat (by omega)]; exact q1) rfl)
  replace b := zz_fw b T9 (rfl : zz_ent zP_157 8 = (0, za_tsw (0) (14) 337 [84, 98, 123, 137, 149, 161, 337, 173, 190, 190, 226, 248, 286, 305, 324])) (ze_tsw_k (t := 173) (by decide) (by decide))
  replace b := zz_fw b T9 (rfl : zz_ent zP_157 173 = (0, za_aload 0 174)) (ze_aload rfl)
  replace b := zz_fw b T9 (rfl : zz_ent zP_157 174 = (0, za_const (.int (Int32.ofNat 32)) 176)) (ze_const)
  replace b := zz_fw b T9 (rfl : zz_ent zP_157 176 = (0, za_iload 1 177)) (ze_iload rfl)
  replace b := zz_fw b T9 (rfl : zz_ent zP_157 177 = (0, za_const (.int (Int32.ofNat 16)) 179)) (ze_const)
  replace b := zz_fw b T9 (rfl : zz_ent zP_157 179 = (0, za_iushr 180)) (ze_iushr rfl)
  replace b := zz_fw b T9 (rfl : zz_ent zP_157 180 = (0, za_const (.int (Int32.ofNat 1023)) 183)) (ze_const)
  replace b := zz_fw b T9 (rfl : zz_ent zP_157 183 = (0, za_iand 184)) (ze_iand (zF_eq p0 16 10 1023 (by decide) (by decide) rfl))
  obtain ⟨w1, hM1, hB1⟩ := zL_amt (d := d + 3) (l := l) (D := D) (cy := cy) (sp := sp) hG hP hsp hB (p0 := Int32.ofNat (zF p0 16 10)) (a := 32) (by decide) (by (try simp only [List.length_append, List.length_singleton, List.length_cons, List.length_nil]); omega)
  replace b := zz_fVv b TK (rfl : zz_ent zP_157 184 = (0, za_callV 3 297 2 187)) hM1 rfl rfl (zB_12 hB) (zz_lb rfl)
  replace b := zz_fw b T9 (rfl : zz_ent zP_157 187 = (0, za_goto 337)) (ze_goto)
  have m := zz_M_B (yn := zYN) (cn := zCN) (ml := zMQ) (rt := zRT) (y := 157) (as := [.ref 12, .int p0, .int (Int32.ofNat f)]) rfl rfl rfl rfl rfl (by decide +kernel) (zz_lb rfl) (zz_lb rfl) (zz_end_v (zr_157.1 337 rfl).1) b
  exact ⟨_, m, by show zB W0 (T ++ ([32] ++ zdc (Int32.ofNat (zF p0 16 10)))) _; simp only [List.append_assoc] at hB1 ⊢; exact hB1⟩
theorem zL_op_8 {W0 : zz_W} {l : Launch} {D : va_G} {cy : Nat → ClassId} {z0 : Nat} {sp : Nat → Nat} {G : State → Prop} {d : Nat} (hG : zz_GF z0 G) (hP : ∀ U, G U → zz_GD zS zS2 zLg z0 sp U) (hsp : sp 18446744073709551616 = 0) {T : List Nat} {w : zz_W} (hB : zB W0 T w) {p0 : Int32} {f : Nat} (h51 : f < 51) (q1 : zz_ki zS2 2000002 f = some 8) (hT : T.length ≤ 7) : ∃ w', zz_M l zTs D zcl zFK cy z0 sp (zTys cy) G zYN zCN zMQ zRT (d + 11) 157 [.ref 12, .int p0, .int (Int32.ofNat f)] w [] w' ∧ zB W0 (T ++ zOp 8 p0) w' := by
  have T9 := zt_157 (l := l) (D := D) (cy := cy) (z0 := z0) (sp := sp) (G := G) (d := (d + 10)) zz_k0_KS hG hP
  have TK := fun (K : zz_K) (h : zz_KS l D zcl zFK cy z0 sp (zTys cy) G zYN (fun y => Cond.code (zYN y) (zCN y) (zMQ y) (zRT y) :: zTs) (d + 10) K) => zt_157 h hG hP
  have b := zz_B_rf (l := l) (Ts := zTs) (D := D) (cl := zcl) (fk := zFK) (cy := cy) (z0 := z0) (sp := sp) (tys := zTys cy) (G := G) (own := "ToolMill$Codes") (mn := "operands") (nL := 4) (cc := prog_3_method_9_code) (d := (d + 10)) ((0, [(0, .ref 12), (1, .int p0), (2, .int (Int32.ofNat f))], [], w) : zz_F)
  replace b := zz_fw b T9 (rfl : zz_ent zP_157 0 = (0, za_iload 1 1)) (ze_iload rfl)
  replace b := zz_fw b T9 (rfl : zz_ent zP_157 1 = (0, za_i2s 2)) (ze_i2s rfl)
  replace b := zz_fw b T9 (rfl : zz_ent zP_157 2 = (0, za_istore 3 3)) (ze_istore (lv' := [(0, _), (1, _), (2, _)]) rfl)
  replace b := zz_fw b T9 (rfl : zz_ent zP_157 3 = (0, za_const (.ref 2000002) 6)) (ze_const)
  replace b := zz_fw b T9 (rfl : zz_ent zP_157 6 = (0, za_iload 2 7)) (ze_iload rfl)
  replace b := zz_fw b T9 (rfl : zz_ent zP_157 7 = (0, za_kl (zz_ki zS2) 8)) (ze_kl (by rw [zz_nI_ofNat (by omega)]; exact q1) rfl)
  replace b := zz_fw b T9 (rfl : zz_ent zP_157 8 = (0, za_tsw (0) (14) 337 [84, 98, 123, 137, 149, 161, 337, 173, 190, 190, 226, 248, 286, 305, 324])) (ze_tsw_k (t := 190) (by decide) (by decide))
  replace b := zz_fw b T9 (rfl : zz_ent zP_157 190 = (0, za_aload 0 191)) (ze_aload rfl)
  replace b := zz_fw b T9 (rfl : zz_ent zP_157 191 = (0, za_iload 1 192)) (ze_iload rfl)
  replace b := zz_fw b T9 (rfl : zz_ent zP_157 192 = (0, za_const (.int (Int32.ofNat 16)) 194)) (ze_const)
  replace b := zz_fw b T9 (rfl : zz_ent zP_157 194 = (0, za_const (.int (Int32.ofNat 21)) 196)) (ze_const)
  obtain ⟨w1, hM1, hB1⟩ := zL_two_16_21 (d := d + 1) (l := l) (D := D) (cy := cy) (sp := sp) hG hP hsp hB (p0 := p0) (by omega)
  replace b := zz_fVv b TK (rfl : zz_ent zP_157 196 = (0, za_callV 3 296 3 199)) hM1 rfl rfl (zB_12 hB) (zz_lb rfl)
  replace b := zz_fw b T9 (rfl : zz_ent zP_157 199 = (0, za_aload 0 200)) (ze_aload rfl)
  replace b := zz_fw b T9 (rfl : zz_ent zP_157 200 = (0, za_const (.int (Int32.ofNat 44)) 202)) (ze_const)
  replace b := zz_fw b T9 (rfl : zz_ent zP_157 202 = (0, za_const (.ref 2000002) 205)) (ze_const)
  replace b := zz_fw b T9 (rfl : zz_ent zP_157 205 = (0, za_iload 2 206)) (ze_iload rfl)
  replace b := zz_fw b T9 (rfl : zz_ent zP_157 206 = (0, za_kl (zz_ki zS2) 207)) (ze_kl (by rw [zz_nI_ofNat (by omega)]; exact q1) rfl)
  replace b := zz_fw b T9 (rfl : zz_ent zP_157 207 = (0, za_const (.int (Int32.ofNat 8)) 209)) (ze_const)
  replace b := zz_fw b T9 (rfl : zz_ent zP_157 209 = (0, za_icmp_ne 216 212)) (ze_icmp_ne_f (by decide))
  replace b := zz_fw b T9 (rfl : zz_ent zP_157 212 = (0, za_iload 3 213)) (ze_iload rfl)
  replace b := zz_fw b T9 (rfl : zz_ent zP_157 213 = (0, za_goto 220)) (ze_goto)
  obtain ⟨w2, hM2, hB2⟩ := zL_amt (d := d + 3) (l := l) (D := D) (cy := cy) (sp := sp) hG hP hsp hB1 (p0 := p0.toInt16.toInt32) (a := 44) (by decide) (by have g16 := zRg_5 p0 16; have g21 := zRg_5 p0 21; (try simp only [List.length_append, List.length_singleton, List.length_cons, List.length_nil]); omega)
  replace b := zz_fVv b TK (rfl : zz_ent zP_157 220 = (0, za_callV 3 297 2 223)) hM2 rfl rfl (zB_12 hB1) (zz_lb rfl)
  replace b := zz_fw b T9 (rfl : zz_ent zP_157 223 = (0, za_goto 337)) (ze_goto)
  have m := zz_M_B (yn := zYN) (cn := zCN) (ml := zMQ) (rt := zRT) (y := 157) (as := [.ref 12, .int p0, .int (Int32.ofNat f)]) rfl rfl rfl rfl rfl (by decide +kernel) (zz_lb rfl) (zz_lb rfl) (zz_end_v (zr_157.1 337 rfl).1) b
  exact ⟨_, m, by show zB W0 (T ++ ([32] ++ (zRg p0 16 ++ ([44] ++ (zRg p0 21 ++ ([44] ++ zdc p0.toInt16.toInt32)))))) _; simp only [List.append_assoc] at hB2 ⊢; exact hB2⟩
theorem zL_op_9 {W0 : zz_W} {l : Launch} {D : va_G} {cy : Nat → ClassId} {z0 : Nat} {sp : Nat → Nat} {G : State → Prop} {d : Nat} (hG : zz_GF z0 G) (hP : ∀ U, G U → zz_GD zS zS2 zLg z0 sp U) (hsp : sp 18446744073709551616 = 0) {T : List Nat} {w : zz_W} (hB : zB W0 T w) {p0 : Int32} {f : Nat} (h51 : f < 51) (q1 : zz_ki zS2 2000002 f = some 9) (hT : T.length ≤ 7) : ∃ w', zz_M l zTs D zcl zFK cy z0 sp (zTys cy) G zYN zCN zMQ zRT (d + 11) 157 [.ref 12, .int p0, .int (Int32.ofNat f)] w [] w' ∧ zB W0 (T ++ zOp 9 p0) w' := by
  have T9 := zt_157 (l := l) (D := D) (cy := cy) (z0 := z0) (sp := sp) (G := G) (d := (d + 10)) zz_k0_KS hG hP
  have TK := fun (K : zz_K) (h : zz_KS l D zcl zFK cy z0 sp (zTys cy) G zYN (fun y => Cond.code (zYN y) (zCN y) (zMQ y) (zRT y) :: zTs) (d + 10) K) => zt_157 h hG hP
  have b := zz_B_rf (l := l) (Ts := zTs) (D := D) (cl := zcl) (fk := zFK) (cy := cy) (z0 := z0) (sp := sp) (tys := zTys cy) (G := G) (own := "ToolMill$Codes") (mn := "operands") (nL := 4) (cc := prog_3_method_9_code) (d := (d + 10)) ((0, [(0, .ref 12), (1, .int p0), (2, .int (Int32.ofNat f))], [], w) : zz_F)
  replace b := zz_fw b T9 (rfl : zz_ent zP_157 0 = (0, za_iload 1 1)) (ze_iload rfl)
  replace b := zz_fw b T9 (rfl : zz_ent zP_157 1 = (0, za_i2s 2)) (ze_i2s rfl)
  replace b := zz_fw b T9 (rfl : zz_ent zP_157 2 = (0, za_istore 3 3)) (ze_istore (lv' := [(0, _), (1, _), (2, _)]) rfl)
  replace b := zz_fw b T9 (rfl : zz_ent zP_157 3 = (0, za_const (.ref 2000002) 6)) (ze_const)
  replace b := zz_fw b T9 (rfl : zz_ent zP_157 6 = (0, za_iload 2 7)) (ze_iload rfl)
  replace b := zz_fw b T9 (rfl : zz_ent zP_157 7 = (0, za_kl (zz_ki zS2) 8)) (ze_kl (by rw [zz_nI_ofNat (by omega)]; exact q1) rfl)
  replace b := zz_fw b T9 (rfl : zz_ent zP_157 8 = (0, za_tsw (0) (14) 337 [84, 98, 123, 137, 149, 161, 337, 173, 190, 190, 226, 248, 286, 305, 324])) (ze_tsw_k (t := 190) (by decide) (by decide))
  replace b := zz_fw b T9 (rfl : zz_ent zP_157 190 = (0, za_aload 0 191)) (ze_aload rfl)
  replace b := zz_fw b T9 (rfl : zz_ent zP_157 191 = (0, za_iload 1 192)) (ze_iload rfl)
  replace b := zz_fw b T9 (rfl : zz_ent zP_157 192 = (0, za_const (.int (Int32.ofNat 16)) 194)) (ze_const)
  replace b := zz_fw b T9 (rfl : zz_ent zP_157 194 = (0, za_const (.int (Int32.ofNat 21)) 196)) (ze_const)
  obtain ⟨w1, hM1, hB1⟩ := zL_two_16_21 (d := d + 1) (l := l) (D := D) (cy := cy) (sp := sp) hG hP hsp hB (p0 := p0) (by omega)
  replace b := zz_fVv b TK (rfl : zz_ent zP_157 196 = (0, za_callV 3 296 3 199)) hM1 rfl rfl (zB_12 hB) (zz_lb rfl)
  replace b := zz_fw b T9 (rfl : zz_ent zP_157 199 = (0, za_aload 0 200)) (ze_aload rfl)
  replace b := zz_fw b T9 (rfl : zz_ent zP_157 200 = (0, za_const (.int (Int32.ofNat 44)) 202)) (ze_const)
  replace b := zz_fw b T9 (rfl : zz_ent zP_157 202 = (0, za_const (.ref 2000002) 205)) (ze_const)
  replace b := zz_fw b T9 (rfl : zz_ent zP_157 205 = (0, za_iload 2 206)) (ze_iload rfl)
  replace b := zz_fw b T9 (rfl : zz_ent zP_157 206 = (0, za_kl (zz_ki zS2) 207)) (ze_kl (by rw [zz_nI_ofNat (by omega)]; exact q1) rfl)
  replace b := zz_fw b T9 (rfl : zz_ent zP_157 207 = (0, za_const (.int (Int32.ofNat 8)) 209)) (ze_const)
  replace b := zz_fw b T9 (rfl : zz_ent zP_157 209 = (0, za_icmp_ne 216 212)) (ze_icmp_ne_t (by decide))
  replace b := zz_fw b T9 (rfl : zz_ent zP_157 216 = (0, za_iload 3 217)) (ze_iload rfl)
  replace b := zz_fw b T9 (rfl : zz_ent zP_157 217 = (0, za_const (.int (Int32.ofNat 65535)) 219)) (ze_const)
  replace b := zz_fw b T9 (rfl : zz_ent zP_157 219 = (0, za_iand 220)) (ze_iand rfl)
  obtain ⟨w2, hM2, hB2⟩ := zL_amt (d := d + 3) (l := l) (D := D) (cy := cy) (sp := sp) hG hP hsp hB1 (p0 := (p0.toInt16.toInt32 &&& Int32.ofNat 65535)) (a := 44) (by decide) (by have g16 := zRg_5 p0 16; have g21 := zRg_5 p0 21; (try simp only [List.length_append, List.length_singleton, List.length_cons, List.length_nil]); omega)
  replace b := zz_fVv b TK (rfl : zz_ent zP_157 220 = (0, za_callV 3 297 2 223)) hM2 rfl rfl (zB_12 hB1) (zz_lb rfl)
  replace b := zz_fw b T9 (rfl : zz_ent zP_157 223 = (0, za_goto 337)) (ze_goto)
  have m := zz_M_B (yn := zYN) (cn := zCN) (ml := zMQ) (rt := zRT) (y := 157) (as := [.ref 12, .int p0, .int (Int32.ofNat f)]) rfl rfl rfl rfl rfl (by decide +kernel) (zz_lb rfl) (zz_lb rfl) (zz_end_v (zr_157.1 337 rfl).1) b
  exact ⟨_, m, by show zB W0 (T ++ ([32] ++ (zRg p0 16 ++ ([44] ++ (zRg p0 21 ++ ([44] ++ zdc (p0.toInt16.toInt32 &&& Int32.ofNat 65535))))))) _; simp only [List.append_assoc] at hB2 ⊢; exact hB2⟩
theorem zL_op_10 {W0 : zz_W} {l : Launch} {D : va_G} {cy : Nat → ClassId} {z0 : Nat} {sp : Nat → Nat} {G : State → Prop} {d : Nat} (hG : zz_GF z0 G) (hP : ∀ U, G U → zz_GD zS zS2 zLg z0 sp U) (hsp : sp 18446744073709551616 = 0) {T : List Nat} {w : zz_W} (hB : zB W0 T w) {p0 : Int32} {f : Nat} (h51 : f < 51) (q1 : zz_ki zS2 2000002 f = some 10) (hT : T.length ≤ 7) : ∃ w', zz_M l zTs D zcl zFK cy z0 sp (zTys cy) G zYN zCN zMQ zRT (d + 11) 157 [.ref 12, .int p0, .int (Int32.ofNat f)] w [] w' ∧ zB W0 (T ++ zOp 10 p0) w' := by
  have T9 := zt_157 (l := l) (D := D) (cy := cy) (z0 := z0) (sp := sp) (G := G) (d := (d + 10)) zz_k0_KS hG hP
  have TK := fun (K : zz_K) (h : zz_KS l D zcl zFK cy z0 sp (zTys cy) G zYN (fun y => Cond.code (zYN y) (zCN y) (zMQ y) (zRT y) :: zTs) (d + 10) K) => zt_157 h hG hP
  have b := zz_B_rf (l := l) (Ts := zTs) (D := D) (cl := zcl) (fk := zFK) (cy := cy) (z0 := z0) (sp := sp) (tys := zTys cy) (G := G) (own := "ToolMill$Codes") (mn := "operands") (nL := 4) (cc := prog_3_method_9_code) (d := (d + 10)) ((0, [(0, .ref 12), (1, .int p0), (2, .int (Int32.ofNat f))], [], w) : zz_F)
  replace b := zz_fw b T9 (rfl : zz_ent zP_157 0 = (0, za_iload 1 1)) (ze_iload rfl)
  replace b := zz_fw b T9 (rfl : zz_ent zP_157 1 = (0, za_i2s 2)) (ze_i2s rfl)
  replace b := zz_fw b T9 (rfl : zz_ent zP_157 2 = (0, za_istore 3 3)) (ze_istore (lv' := [(0, _), (1, _), (2, _)]) rfl)
  replace b := zz_fw b T9 (rfl : zz_ent zP_157 3 = (0, za_const (.ref 2000002) 6)) (ze_const)
  replace b := zz_fw b T9 (rfl : zz_ent zP_157 6 = (0, za_iload 2 7)) (ze_iload rfl)
  replace b := zz_fw b T9 (rfl : zz_ent zP_157 7 = (0, za_kl (zz_ki zS2) 8)) (ze_kl (by rw [zz_nI_ofNat (by omega)]; exact q1) rfl)
  replace b := zz_fw b T9 (rfl : zz_ent zP_157 8 = (0, za_tsw (0) (14) 337 [84, 98, 123, 137, 149, 161, 337, 173, 190, 190, 226, 248, 286, 305, 324])) (ze_tsw_k (t := 226) (by decide) (by decide))
  replace b := zz_fw b T9 (rfl : zz_ent zP_157 226 = (0, za_aload 0 227)) (ze_aload rfl)
  replace b := zz_fw b T9 (rfl : zz_ent zP_157 227 = (0, za_const (.int (Int32.ofNat 32)) 229)) (ze_const)
  replace b := zz_fw b T9 (rfl : zz_ent zP_157 229 = (0, za_iload 1 230)) (ze_iload rfl)
  replace b := zz_fw b T9 (rfl : zz_ent zP_157 230 = (0, za_const (.int (Int32.ofNat 16)) 232)) (ze_const)
  obtain ⟨w1, hM1, hB1⟩ := zL_one_16 (d := d + 2) (l := l) (D := D) (cy := cy) (sp := sp) hG hP hsp hB (p0 := p0) (a := 32) (by decide) (by (try simp only [List.length_append, List.length_singleton, List.length_cons, List.length_nil]); omega)
  replace b := zz_fVv b TK (rfl : zz_ent zP_157 232 = (0, za_callV 3 298 3 235)) hM1 rfl rfl (zB_12 hB) (zz_lb rfl)
  replace b := zz_fw b T9 (rfl : zz_ent zP_157 235 = (0, za_aload 0 236)) (ze_aload rfl)
  replace b := zz_fw b T9 (rfl : zz_ent zP_157 236 = (0, za_const (.int (Int32.ofNat 44)) 238)) (ze_const)
  replace b := zz_fw b T9 (rfl : zz_ent zP_157 238 = (0, za_iload 3 239)) (ze_iload rfl)
  replace b := zz_fw b T9 (rfl : zz_ent zP_157 239 = (0, za_const (.int (Int32.ofNat 65535)) 241)) (ze_const)
  replace b := zz_fw b T9 (rfl : zz_ent zP_157 241 = (0, za_iand 242)) (ze_iand rfl)
  obtain ⟨w2, hM2, hB2⟩ := zL_amt (d := d + 3) (l := l) (D := D) (cy := cy) (sp := sp) hG hP hsp hB1 (p0 := (p0.toInt16.toInt32 &&& Int32.ofNat 65535)) (a := 44) (by decide) (by have g16 := zRg_5 p0 16; (try simp only [List.length_append, List.length_singleton, List.length_cons, List.length_nil]); omega)
  replace b := zz_fVv b TK (rfl : zz_ent zP_157 242 = (0, za_callV 3 297 2 245)) hM2 rfl rfl (zB_12 hB1) (zz_lb rfl)
  replace b := zz_fw b T9 (rfl : zz_ent zP_157 245 = (0, za_goto 337)) (ze_goto)
  have m := zz_M_B (yn := zYN) (cn := zCN) (ml := zMQ) (rt := zRT) (y := 157) (as := [.ref 12, .int p0, .int (Int32.ofNat f)]) rfl rfl rfl rfl rfl (by decide +kernel) (zz_lb rfl) (zz_lb rfl) (zz_end_v (zr_157.1 337 rfl).1) b
  exact ⟨_, m, by show zB W0 (T ++ ([32] ++ (zRg p0 16 ++ ([44] ++ zdc (p0.toInt16.toInt32 &&& Int32.ofNat 65535))))) _; simp only [List.append_assoc] at hB2 ⊢; exact hB2⟩
theorem zL_op_11 {W0 : zz_W} {l : Launch} {D : va_G} {cy : Nat → ClassId} {z0 : Nat} {sp : Nat → Nat} {G : State → Prop} {d : Nat} (hG : zz_GF z0 G) (hP : ∀ U, G U → zz_GD zS zS2 zLg z0 sp U) (hsp : sp 18446744073709551616 = 0) {T : List Nat} {w : zz_W} (hB : zB W0 T w) {p0 : Int32} {f : Nat} (h51 : f < 51) (q1 : zz_ki zS2 2000002 f = some 11) (hT : T.length ≤ 7) : ∃ w', zz_M l zTs D zcl zFK cy z0 sp (zTys cy) G zYN zCN zMQ zRT (d + 11) 157 [.ref 12, .int p0, .int (Int32.ofNat f)] w [] w' ∧ zB W0 (T ++ zOp 11 p0) w' := by
  have T9 := zt_157 (l := l) (D := D) (cy := cy) (z0 := z0) (sp := sp) (G := G) (d := (d + 10)) zz_k0_KS hG hP
  have TK := fun (K : zz_K) (h : zz_KS l D zcl zFK cy z0 sp (zTys cy) G zYN (fun y => Cond.code (zYN y) (zCN y) (zMQ y) (zRT y) :: zTs) (d + 10) K) => zt_157 h hG hP
  have b := zz_B_rf (l := l) (Ts := zTs) (D := D) (cl := zcl) (fk := zFK) (cy := cy) (z0 := z0) (sp := sp) (tys := zTys cy) (G := G) (own := "ToolMill$Codes") (mn := "operands") (nL := 4) (cc := prog_3_method_9_code) (d := (d + 10)) ((0, [(0, .ref 12), (1, .int p0), (2, .int (Int32.ofNat f))], [], w) : zz_F)
  replace b := zz_fw b T9 (rfl : zz_ent zP_157 0 = (0, za_iload 1 1)) (ze_iload rfl)
  replace b := zz_fw b T9 (rfl : zz_ent zP_157 1 = (0, za_i2s 2)) (ze_i2s rfl)
  replace b := zz_fw b T9 (rfl : zz_ent zP_157 2 = (0, za_istore 3 3)) (ze_istore (lv' := [(0, _), (1, _), (2, _)]) rfl)
  replace b := zz_fw b T9 (rfl : zz_ent zP_157 3 = (0, za_const (.ref 2000002) 6)) (ze_const)
  replace b := zz_fw b T9 (rfl : zz_ent zP_157 6 = (0, za_iload 2 7)) (ze_iload rfl)
  replace b := zz_fw b T9 (rfl : zz_ent zP_157 7 = (0, za_kl (zz_ki zS2) 8)) (ze_kl (by rw [zz_nI_ofNat (by omega)]; exact q1) rfl)
  replace b := zz_fw b T9 (rfl : zz_ent zP_157 8 = (0, za_tsw (0) (14) 337 [84, 98, 123, 137, 149, 161, 337, 173, 190, 190, 226, 248, 286, 305, 324])) (ze_tsw_k (t := 248) (by decide) (by decide))
  replace b := zz_fw b T9 (rfl : zz_ent zP_157 248 = (0, za_aload 0 249)) (ze_aload rfl)
  replace b := zz_fw b T9 (rfl : zz_ent zP_157 249 = (0, za_const (.int (Int32.ofNat 32)) 251)) (ze_const)
  replace b := zz_fw b T9 (rfl : zz_ent zP_157 251 = (0, za_iload 1 252)) (ze_iload rfl)
  replace b := zz_fw b T9 (rfl : zz_ent zP_157 252 = (0, za_const (.int (Int32.ofNat 16)) 254)) (ze_const)
  obtain ⟨w1, hM1, hB1⟩ := zL_one_16 (d := d + 2) (l := l) (D := D) (cy := cy) (sp := sp) hG hP hsp hB (p0 := p0) (a := 32) (by decide) (by (try simp only [List.length_append, List.length_singleton, List.length_cons, List.length_nil]); omega)
  replace b := zz_fVv b TK (rfl : zz_ent zP_157 254 = (0, za_callV 3 298 3 257)) hM1 rfl rfl (zB_12 hB) (zz_lb rfl)
  replace b := zz_fw b T9 (rfl : zz_ent zP_157 257 = (0, za_aload 0 258)) (ze_aload rfl)
  replace b := zz_fw b T9 (rfl : zz_ent zP_157 258 = (0, za_const (.int (Int32.ofNat 44)) 260)) (ze_const)
  replace b := zz_fw b T9 (rfl : zz_ent zP_157 260 = (0, za_iload 3 261)) (ze_iload rfl)
  obtain ⟨w2, hM2, hB2⟩ := zL_amt (d := d + 3) (l := l) (D := D) (cy := cy) (sp := sp) hG hP hsp hB1 (p0 := p0.toInt16.toInt32) (a := 44) (by decide) (by have g16 := zRg_5 p0 16; (try simp only [List.length_append, List.length_singleton, List.length_cons, List.length_nil]); omega)
  replace b := zz_fVv b TK (rfl : zz_ent zP_157 261 = (0, za_callV 3 297 2 264)) hM2 rfl rfl (zB_12 hB1) (zz_lb rfl)
  replace b := zz_fw b T9 (rfl : zz_ent zP_157 264 = (0, za_aload 0 265)) (ze_aload rfl)
  replace b := zz_fw b T9 (rfl : zz_ent zP_157 265 = (0, za_const (.int (Int32.ofNat 40)) 267)) (ze_const)
  replace b := zz_fw b T9 (rfl : zz_ent zP_157 267 = (0, za_iload 1 268)) (ze_iload rfl)
  replace b := zz_fw b T9 (rfl : zz_ent zP_157 268 = (0, za_const (.int (Int32.ofNat 21)) 270)) (ze_const)
  obtain ⟨w3, hM3, hB3⟩ := zL_one_21 (d := d + 2) (l := l) (D := D) (cy := cy) (sp := sp) hG hP hsp hB2 (p0 := p0) (a := 40) (by decide) (by have g16 := zRg_5 p0 16; have h11 := zdc_11 p0.toInt16.toInt32; (try simp only [List.length_append, List.length_singleton, List.length_cons, List.length_nil]); omega)
  replace b := zz_fVv b TK (rfl : zz_ent zP_157 270 = (0, za_callV 3 298 3 273)) hM3 rfl rfl (zB_12 hB2) (zz_lb rfl)
  replace b := zz_fw b T9 (rfl : zz_ent zP_157 273 = (0, za_aload 0 274)) (ze_aload rfl)
  replace b := zz_fw b T9 (rfl : zz_ent zP_157 274 = (0, za_getA 3 4 277)) (ze_getA (zB_f12 hB3) (by decide) (zB_v12_4 hB3))
  replace b := zz_fw b T9 (rfl : zz_ent zP_157 277 = (0, za_const (.int (Int32.ofNat 41)) 279)) (ze_const)
  obtain ⟨w4, hM4, hB4⟩ := zL_apc (d := d + 4) (l := l) (D := D) (cy := cy) (sp := sp) hG hP hsp hB3 (x := 41) (by have g16 := zRg_5 p0 16; have g21 := zRg_5 p0 21; have h11 := zdc_11 p0.toInt16.toInt32; (try simp only [List.length_append, List.length_singleton, List.length_cons, List.length_nil]); omega) (by decide)
  replace b := zz_fVi b TK (rfl : zz_ent zP_157 279 = (0, za_callV 13 158 1 282)) hM4 rfl rfl (zB_ic hB3) (zz_lb rfl)
  replace b := zz_fw b T9 (rfl : zz_ent zP_157 282 = (0, za_pop 283)) (ze_pop rfl)
  replace b := zz_fw b T9 (rfl : zz_ent zP_157 283 = (0, za_goto 337)) (ze_goto)
  have m := zz_M_B (yn := zYN) (cn := zCN) (ml := zMQ) (rt := zRT) (y := 157) (as := [.ref 12, .int p0, .int (Int32.ofNat f)]) rfl rfl rfl rfl rfl (by decide +kernel) (zz_lb rfl) (zz_lb rfl) (zz_end_v (zr_157.1 337 rfl).1) b
  exact ⟨_, m, by show zB W0 (T ++ ([32] ++ (zRg p0 16 ++ ([44] ++ (zdc p0.toInt16.toInt32 ++ ([40] ++ (zRg p0 21 ++ [41]))))))) _; simp only [List.append_assoc] at hB4 ⊢; exact hB4⟩
theorem zL_op_12 {W0 : zz_W} {l : Launch} {D : va_G} {cy : Nat → ClassId} {z0 : Nat} {sp : Nat → Nat} {G : State → Prop} {d : Nat} (hG : zz_GF z0 G) (hP : ∀ U, G U → zz_GD zS zS2 zLg z0 sp U) (hsp : sp 18446744073709551616 = 0) {T : List Nat} {w : zz_W} (hB : zB W0 T w) {p0 : Int32} {f : Nat} (h51 : f < 51) (q1 : zz_ki zS2 2000002 f = some 12) (hT : T.length ≤ 7) : ∃ w', zz_M l zTs D zcl zFK cy z0 sp (zTys cy) G zYN zCN zMQ zRT (d + 11) 157 [.ref 12, .int p0, .int (Int32.ofNat f)] w [] w' ∧ zB W0 (T ++ zOp 12 p0) w' := by
  have T9 := zt_157 (l := l) (D := D) (cy := cy) (z0 := z0) (sp := sp) (G := G) (d := (d + 10)) zz_k0_KS hG hP
  have TK := fun (K : zz_K) (h : zz_KS l D zcl zFK cy z0 sp (zTys cy) G zYN (fun y => Cond.code (zYN y) (zCN y) (zMQ y) (zRT y) :: zTs) (d + 10) K) => zt_157 h hG hP
  have b := zz_B_rf (l := l) (Ts := zTs) (D := D) (cl := zcl) (fk := zFK) (cy := cy) (z0 := z0) (sp := sp) (tys := zTys cy) (G := G) (own := "ToolMill$Codes") (mn := "operands") (nL := 4) (cc := prog_3_method_9_code) (d := (d + 10)) ((0, [(0, .ref 12), (1, .int p0), (2, .int (Int32.ofNat f))], [], w) : zz_F)
  replace b := zz_fw b T9 (rfl : zz_ent zP_157 0 = (0, za_iload 1 1)) (ze_iload rfl)
  replace b := zz_fw b T9 (rfl : zz_ent zP_157 1 = (0, za_i2s 2)) (ze_i2s rfl)
  replace b := zz_fw b T9 (rfl : zz_ent zP_157 2 = (0, za_istore 3 3)) (ze_istore (lv' := [(0, _), (1, _), (2, _)]) rfl)
  replace b := zz_fw b T9 (rfl : zz_ent zP_157 3 = (0, za_const (.ref 2000002) 6)) (ze_const)
  replace b := zz_fw b T9 (rfl : zz_ent zP_157 6 = (0, za_iload 2 7)) (ze_iload rfl)
  replace b := zz_fw b T9 (rfl : zz_ent zP_157 7 = (0, za_kl (zz_ki zS2) 8)) (ze_kl (by rw [zz_nI_ofNat (by omega)]; exact q1) rfl)
  replace b := zz_fw b T9 (rfl : zz_ent zP_157 8 = (0, za_tsw (0) (14) 337 [84, 98, 123, 137, 149, 161, 337, 173, 190, 190, 226, 248, 286, 305, 324])) (ze_tsw_k (t := 286) (by decide) (by decide))
  replace b := zz_fw b T9 (rfl : zz_ent zP_157 286 = (0, za_aload 0 287)) (ze_aload rfl)
  replace b := zz_fw b T9 (rfl : zz_ent zP_157 287 = (0, za_iload 1 288)) (ze_iload rfl)
  replace b := zz_fw b T9 (rfl : zz_ent zP_157 288 = (0, za_const (.int (Int32.ofNat 21)) 290)) (ze_const)
  replace b := zz_fw b T9 (rfl : zz_ent zP_157 290 = (0, za_const (.int (Int32.ofNat 16)) 292)) (ze_const)
  obtain ⟨w1, hM1, hB1⟩ := zL_two_21_16 (d := d + 1) (l := l) (D := D) (cy := cy) (sp := sp) hG hP hsp hB (p0 := p0) (by omega)
  replace b := zz_fVv b TK (rfl : zz_ent zP_157 292 = (0, za_callV 3 296 3 295)) hM1 rfl rfl (zB_12 hB) (zz_lb rfl)
  replace b := zz_fw b T9 (rfl : zz_ent zP_157 295 = (0, za_aload 0 296)) (ze_aload rfl)
  replace b := zz_fw b T9 (rfl : zz_ent zP_157 296 = (0, za_const (.int (Int32.ofNat 44)) 298)) (ze_const)
  replace b := zz_fw b T9 (rfl : zz_ent zP_157 298 = (0, za_iload 3 299)) (ze_iload rfl)
  obtain ⟨w2, hM2, hB2⟩ := zL_amt (d := d + 3) (l := l) (D := D) (cy := cy) (sp := sp) hG hP hsp hB1 (p0 := p0.toInt16.toInt32) (a := 44) (by decide) (by have g21 := zRg_5 p0 21; have g16 := zRg_5 p0 16; (try simp only [List.length_append, List.length_singleton, List.length_cons, List.length_nil]); omega)
  replace b := zz_fVv b TK (rfl : zz_ent zP_157 299 = (0, za_callV 3 297 2 302)) hM2 rfl rfl (zB_12 hB1) (zz_lb rfl)
  replace b := zz_fw b T9 (rfl : zz_ent zP_157 302 = (0, za_goto 337)) (ze_goto)
  have m := zz_M_B (yn := zYN) (cn := zCN) (ml := zMQ) (rt := zRT) (y := 157) (as := [.ref 12, .int p0, .int (Int32.ofNat f)]) rfl rfl rfl rfl rfl (by decide +kernel) (zz_lb rfl) (zz_lb rfl) (zz_end_v (zr_157.1 337 rfl).1) b
  exact ⟨_, m, by show zB W0 (T ++ ([32] ++ (zRg p0 21 ++ ([44] ++ (zRg p0 16 ++ ([44] ++ zdc p0.toInt16.toInt32)))))) _; simp only [List.append_assoc] at hB2 ⊢; exact hB2⟩
theorem zL_op_13 {W0 : zz_W} {l : Launch} {D : va_G} {cy : Nat → ClassId} {z0 : Nat} {sp : Nat → Nat} {G : State → Prop} {d : Nat} (hG : zz_GF z0 G) (hP : ∀ U, G U → zz_GD zS zS2 zLg z0 sp U) (hsp : sp 18446744073709551616 = 0) {T : List Nat} {w : zz_W} (hB : zB W0 T w) {p0 : Int32} {f : Nat} (h51 : f < 51) (q1 : zz_ki zS2 2000002 f = some 13) (hT : T.length ≤ 7) : ∃ w', zz_M l zTs D zcl zFK cy z0 sp (zTys cy) G zYN zCN zMQ zRT (d + 11) 157 [.ref 12, .int p0, .int (Int32.ofNat f)] w [] w' ∧ zB W0 (T ++ zOp 13 p0) w' := by
  have T9 := zt_157 (l := l) (D := D) (cy := cy) (z0 := z0) (sp := sp) (G := G) (d := (d + 10)) zz_k0_KS hG hP
  have TK := fun (K : zz_K) (h : zz_KS l D zcl zFK cy z0 sp (zTys cy) G zYN (fun y => Cond.code (zYN y) (zCN y) (zMQ y) (zRT y) :: zTs) (d + 10) K) => zt_157 h hG hP
  have b := zz_B_rf (l := l) (Ts := zTs) (D := D) (cl := zcl) (fk := zFK) (cy := cy) (z0 := z0) (sp := sp) (tys := zTys cy) (G := G) (own := "ToolMill$Codes") (mn := "operands") (nL := 4) (cc := prog_3_method_9_code) (d := (d + 10)) ((0, [(0, .ref 12), (1, .int p0), (2, .int (Int32.ofNat f))], [], w) : zz_F)
  replace b := zz_fw b T9 (rfl : zz_ent zP_157 0 = (0, za_iload 1 1)) (ze_iload rfl)
  replace b := zz_fw b T9 (rfl : zz_ent zP_157 1 = (0, za_i2s 2)) (ze_i2s rfl)
  replace b := zz_fw b T9 (rfl : zz_ent zP_157 2 = (0, za_istore 3 3)) (ze_istore (lv' := [(0, _), (1, _), (2, _)]) rfl)
  replace b := zz_fw b T9 (rfl : zz_ent zP_157 3 = (0, za_const (.ref 2000002) 6)) (ze_const)
  replace b := zz_fw b T9 (rfl : zz_ent zP_157 6 = (0, za_iload 2 7)) (ze_iload rfl)
  replace b := zz_fw b T9 (rfl : zz_ent zP_157 7 = (0, za_kl (zz_ki zS2) 8)) (ze_kl (by rw [zz_nI_ofNat (by omega)]; exact q1) rfl)
  replace b := zz_fw b T9 (rfl : zz_ent zP_157 8 = (0, za_tsw (0) (14) 337 [84, 98, 123, 137, 149, 161, 337, 173, 190, 190, 226, 248, 286, 305, 324])) (ze_tsw_k (t := 305) (by decide) (by decide))
  replace b := zz_fw b T9 (rfl : zz_ent zP_157 305 = (0, za_aload 0 306)) (ze_aload rfl)
  replace b := zz_fw b T9 (rfl : zz_ent zP_157 306 = (0, za_const (.int (Int32.ofNat 32)) 308)) (ze_const)
  replace b := zz_fw b T9 (rfl : zz_ent zP_157 308 = (0, za_iload 1 309)) (ze_iload rfl)
  replace b := zz_fw b T9 (rfl : zz_ent zP_157 309 = (0, za_const (.int (Int32.ofNat 21)) 311)) (ze_const)
  obtain ⟨w1, hM1, hB1⟩ := zL_one_21 (d := d + 2) (l := l) (D := D) (cy := cy) (sp := sp) hG hP hsp hB (p0 := p0) (a := 32) (by decide) (by (try simp only [List.length_append, List.length_singleton, List.length_cons, List.length_nil]); omega)
  replace b := zz_fVv b TK (rfl : zz_ent zP_157 311 = (0, za_callV 3 298 3 314)) hM1 rfl rfl (zB_12 hB) (zz_lb rfl)
  replace b := zz_fw b T9 (rfl : zz_ent zP_157 314 = (0, za_aload 0 315)) (ze_aload rfl)
  replace b := zz_fw b T9 (rfl : zz_ent zP_157 315 = (0, za_const (.int (Int32.ofNat 44)) 317)) (ze_const)
  replace b := zz_fw b T9 (rfl : zz_ent zP_157 317 = (0, za_iload 3 318)) (ze_iload rfl)
  obtain ⟨w2, hM2, hB2⟩ := zL_amt (d := d + 3) (l := l) (D := D) (cy := cy) (sp := sp) hG hP hsp hB1 (p0 := p0.toInt16.toInt32) (a := 44) (by decide) (by have g21 := zRg_5 p0 21; (try simp only [List.length_append, List.length_singleton, List.length_cons, List.length_nil]); omega)
  replace b := zz_fVv b TK (rfl : zz_ent zP_157 318 = (0, za_callV 3 297 2 321)) hM2 rfl rfl (zB_12 hB1) (zz_lb rfl)
  replace b := zz_fw b T9 (rfl : zz_ent zP_157 321 = (0, za_goto 337)) (ze_goto)
  have m := zz_M_B (yn := zYN) (cn := zCN) (ml := zMQ) (rt := zRT) (y := 157) (as := [.ref 12, .int p0, .int (Int32.ofNat f)]) rfl rfl rfl rfl rfl (by decide +kernel) (zz_lb rfl) (zz_lb rfl) (zz_end_v (zr_157.1 337 rfl).1) b
  exact ⟨_, m, by show zB W0 (T ++ ([32] ++ (zRg p0 21 ++ ([44] ++ zdc p0.toInt16.toInt32)))) _; simp only [List.append_assoc] at hB2 ⊢; exact hB2⟩
theorem zL_op_14 {W0 : zz_W} {l : Launch} {D : va_G} {cy : Nat → ClassId} {z0 : Nat} {sp : Nat → Nat} {G : State → Prop} {d : Nat} (hG : zz_GF z0 G) (hP : ∀ U, G U → zz_GD zS zS2 zLg z0 sp U) (hsp : sp 18446744073709551616 = 0) {T : List Nat} {w : zz_W} (hB : zB W0 T w) {p0 : Int32} {f : Nat} (h51 : f < 51) (q1 : zz_ki zS2 2000002 f = some 14) (hT : T.length ≤ 7) : ∃ w', zz_M l zTs D zcl zFK cy z0 sp (zTys cy) G zYN zCN zMQ zRT (d + 11) 157 [.ref 12, .int p0, .int (Int32.ofNat f)] w [] w' ∧ zB W0 (T ++ zOp 14 p0) w' := by
  have T9 := zt_157 (l := l) (D := D) (cy := cy) (z0 := z0) (sp := sp) (G := G) (d := (d + 10)) zz_k0_KS hG hP
  have TK := fun (K : zz_K) (h : zz_KS l D zcl zFK cy z0 sp (zTys cy) G zYN (fun y => Cond.code (zYN y) (zCN y) (zMQ y) (zRT y) :: zTs) (d + 10) K) => zt_157 h hG hP
  have b := zz_B_rf (l := l) (Ts := zTs) (D := D) (cl := zcl) (fk := zFK) (cy := cy) (z0 := z0) (sp := sp) (tys := zTys cy) (G := G) (own := "ToolMill$Codes") (mn := "operands") (nL := 4) (cc := prog_3_method_9_code) (d := (d + 10)) ((0, [(0, .ref 12), (1, .int p0), (2, .int (Int32.ofNat f))], [], w) : zz_F)
  replace b := zz_fw b T9 (rfl : zz_ent zP_157 0 = (0, za_iload 1 1)) (ze_iload rfl)
  replace b := zz_fw b T9 (rfl : zz_ent zP_157 1 = (0, za_i2s 2)) (ze_i2s rfl)
  replace b := zz_fw b T9 (rfl : zz_ent zP_157 2 = (0, za_istore 3 3)) (ze_istore (lv' := [(0, _), (1, _), (2, _)]) rfl)
  replace b := zz_fw b T9 (rfl : zz_ent zP_157 3 = (0, za_const (.ref 2000002) 6)) (ze_const)
  replace b := zz_fw b T9 (rfl : zz_ent zP_157 6 = (0, za_iload 2 7)) (ze_iload rfl)
  replace b := zz_fw b T9 (rfl : zz_ent zP_157 7 = (0, za_kl (zz_ki zS2) 8)) (ze_kl (by rw [zz_nI_ofNat (by omega)]; exact q1) rfl)
  replace b := zz_fw b T9 (rfl : zz_ent zP_157 8 = (0, za_tsw (0) (14) 337 [84, 98, 123, 137, 149, 161, 337, 173, 190, 190, 226, 248, 286, 305, 324])) (ze_tsw_k (t := 324) (by decide) (by decide))
  replace b := zz_fw b T9 (rfl : zz_ent zP_157 324 = (0, za_aload 0 325)) (ze_aload rfl)
  replace b := zz_fw b T9 (rfl : zz_ent zP_157 325 = (0, za_const (.int (Int32.ofNat 32)) 327)) (ze_const)
  replace b := zz_fw b T9 (rfl : zz_ent zP_157 327 = (0, za_iload 1 328)) (ze_iload rfl)
  replace b := zz_fw b T9 (rfl : zz_ent zP_157 328 = (0, za_const (.int (Int32.ofNat 67108863)) 330)) (ze_const)
  replace b := zz_fw b T9 (rfl : zz_ent zP_157 330 = (0, za_iand 331)) (ze_iand (zF_lo p0 26 67108863 (by decide) rfl))
  obtain ⟨w1, hM1, hB1⟩ := zL_amt (d := d + 3) (l := l) (D := D) (cy := cy) (sp := sp) hG hP hsp hB (p0 := Int32.ofNat (zF p0 0 26)) (a := 32) (by decide) (by (try simp only [List.length_append, List.length_singleton, List.length_cons, List.length_nil]); omega)
  replace b := zz_fVv b TK (rfl : zz_ent zP_157 331 = (0, za_callV 3 297 2 334)) hM1 rfl rfl (zB_12 hB) (zz_lb rfl)
  replace b := zz_fw b T9 (rfl : zz_ent zP_157 334 = (0, za_goto 337)) (ze_goto)
  have m := zz_M_B (yn := zYN) (cn := zCN) (ml := zMQ) (rt := zRT) (y := 157) (as := [.ref 12, .int p0, .int (Int32.ofNat f)]) rfl rfl rfl rfl rfl (by decide +kernel) (zz_lb rfl) (zz_lb rfl) (zz_end_v (zr_157.1 337 rfl).1) b
  exact ⟨_, m, by show zB W0 (T ++ ([32] ++ zdc (Int32.ofNat (zF p0 0 26)))) _; simp only [List.append_assoc] at hB1 ⊢; exact hB1⟩
theorem zL_op {W0 : zz_W} {l : Launch} {D : va_G} {cy : Nat → ClassId} {z0 : Nat} {sp : Nat → Nat} {G : State → Prop} {d : Nat} (hG : zz_GF z0 G) (hP : ∀ U, G U → zz_GD zS zS2 zLg z0 sp U) (hsp : sp 18446744073709551616 = 0) {T : List Nat} {w : zz_W} (hB : zB W0 T w) {p0 : Int32} {f fo : Nat} (h51 : f < 51) (q1 : zz_ki zS2 2000002 f = some fo) (l1 : fo < 15) (hT : T.length ≤ 7) : ∃ w', zz_M l zTs D zcl zFK cy z0 sp (zTys cy) G zYN zCN zMQ zRT (d + 11) 157 [.ref 12, .int p0, .int (Int32.ofNat f)] w [] w' ∧ zB W0 (T ++ zOp fo p0) w' := by
  match fo, l1, q1 with
  | 0, _, q1 => exact zL_op_0 hG hP hsp hB h51 q1 hT
  | 1, _, q1 => exact zL_op_1 hG hP hsp hB h51 q1 hT
  | 2, _, q1 => exact zL_op_2 hG hP hsp hB h51 q1 hT
  | 3, _, q1 => exact zL_op_3 hG hP hsp hB h51 q1 hT
  | 4, _, q1 => exact zL_op_4 hG hP hsp hB h51 q1 hT
  | 5, _, q1 => exact zL_op_5 hG hP hsp hB h51 q1 hT
  | 6, _, q1 => exact zL_op_6 hG hP hsp hB h51 q1 hT
  | 7, _, q1 => exact zL_op_7 hG hP hsp hB h51 q1 hT
  | 8, _, q1 => exact zL_op_8 hG hP hsp hB h51 q1 hT
  | 9, _, q1 => exact zL_op_9 hG hP hsp hB h51 q1 hT
  | 10, _, q1 => exact zL_op_10 hG hP hsp hB h51 q1 hT
  | 11, _, q1 => exact zL_op_11 hG hP hsp hB h51 q1 hT
  | 12, _, q1 => exact zL_op_12 hG hP hsp hB h51 q1 hT
  | 13, _, q1 => exact zL_op_13 hG hP hsp hB h51 q1 hT
  | 14, _, q1 => exact zL_op_14 hG hP hsp hB h51 q1 hT
  | _ + 15, l1, _ => exact absurd l1 (by omega)
