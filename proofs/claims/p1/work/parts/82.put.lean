/-! put, by program -/
theorem zv_0_0 : zz_at 64 zc_0 0 = 2 := by decide +kernel
noncomputable def zc_1 : Nat := (zz_g zW3 1).2.2.2
theorem zh_1 : zz_has zW3 1 (0, 1, 3000, zc_1) := ⟨by decide +kernel, by decide, rfl⟩
theorem zv_171_0 : zz_at 64 zc_171 0 = 0 := by decide +kernel
theorem zv_171_1 : zz_at 64 zc_171 1 = 173 := by decide +kernel
noncomputable def zc_172 : Nat := (zz_g zW3 172).2.2.2
theorem zh_172 : zz_has zW3 172 (0, 0, 3000, zc_172) := ⟨by decide +kernel, by decide, rfl⟩
theorem zz_nI_ofNat {m : Nat} (h : m < 2 ^ 32) : zz_nI (Int32.ofNat m) = m := by
  show (BitVec.ofNat 32 m).toNat = m
  rw [BitVec.toNat_ofNat]
  exact Nat.mod_eq_of_lt h
theorem zz_gs2 {N k m : Nat} (h : m < 2 ^ 32) : zz_at 64 (zz_to 64 N k (zz_nI (Int32.ofNat m))) k = m := by
  rw [zz_at_to (Nat.lt_of_lt_of_le (zz_nI_lt _) (by decide)), if_pos rfl, zz_nI_ofNat h]
/-- the i-th of four signs, as the class and as the reference take it -/
def zpc (p i : Int32) : Int32 := (p.toUInt32 >>> ((Int32.ofNat 8 * i).toUInt32 &&& Int32.toUInt32 31)).toInt32 &&& Int32.ofNat 255
def zpr (p i : Int32) : Int32 := (p >>> ((Int32.ofNat 8 * i) &&& 31)) &&& Int32.ofNat 255
/-- a sign of a text, or none -/
def zpg (c : Int32) : Prop := c = 0 ∨ c = Int32.ofNat 10 ∨ (¬ c < Int32.ofNat 32 ∧ c ≤ Int32.ofNat 126)
def zpn (c : Int32) : Nat := if c = 0 then 0 else 1
theorem zpn_le (c : Int32) : zpn c ≤ 1 := by unfold zpn; split <;> decide
theorem zpn_0 {c : Int32} (h : c = 0) : zpn c = 0 := if_pos h
theorem zpn_1 {c : Int32} (h : ¬ c = 0) : zpn c = 1 := if_neg h
theorem zpC1_z {l : Launch} {D : va_G} {cy : Nat → ClassId} {z0 : Nat} {sp : Nat → Nat} {G : State → Prop} {d : Nat} (hG : zz_GF z0 G) (hP : ∀ U, G U → zz_GD zS zS2 zLg z0 sp U) {w : zz_W} {p0 c : Int32} {q j : Nat} (hi : ¬ Int32.ofNat 4 ≤ Int32.ofNat j) (hc : zpc p0 (Int32.ofNat j) = c) (h0 : c = 0) : zz_B l zTs D zcl zFK cy z0 sp (zTys cy) G "ToolMill" "put" 5 prog_1_method_2_code d (4, [(0, .ref 0), (1, .int p0), (2, .int (Int32.ofNat q)), (3, .int (Int32.ofNat j))], [], w) (4, [(0, .ref 0), (1, .int p0), (2, .int (Int32.ofNat (q + 0))), (3, .int (Int32.ofNat (j + 1)))], [], w) := by
  have T := zt_8 (l := l) (D := D) (cy := cy) (z0 := z0) (sp := sp) (G := G) (d := d) zz_k0_KS hG hP
  have TK := fun (K : zz_K) (h : zz_KS l D zcl zFK cy z0 sp (zTys cy) G zYN (fun y => Cond.code (zYN y) (zCN y) (zMQ y) (zRT y) :: zTs) d K) => zt_8 h hG hP
  have b := zz_B_rf (l := l) (Ts := zTs) (D := D) (cl := zcl) (fk := zFK) (cy := cy) (z0 := z0) (sp := sp) (tys := zTys cy) (G := G) (own := "ToolMill") (mn := "put") (nL := 5) (cc := prog_1_method_2_code) (d := d) ((4, [(0, .ref 0), (1, .int p0), (2, .int (Int32.ofNat q)), (3, .int (Int32.ofNat j))], [], w) : zz_F)
  replace b := zz_fw b T (rfl : zz_ent zP_8 4 = (0, za_iload 3 5)) (ze_iload rfl)
  replace b := zz_fw b T (rfl : zz_ent zP_8 5 = (0, za_const (.int (Int32.ofNat 4)) 6)) (ze_const)
  replace b := zz_fw b T (rfl : zz_ent zP_8 6 = (0, za_icmp_ge 76 9)) (ze_icmp_ge_f hi)
  replace b := zz_fw b T (rfl : zz_ent zP_8 9 = (0, za_iload 1 10)) (ze_iload rfl)
  replace b := zz_fw b T (rfl : zz_ent zP_8 10 = (0, za_const (.int (Int32.ofNat 8)) 12)) (ze_const)
  replace b := zz_fw b T (rfl : zz_ent zP_8 12 = (0, za_iload 3 13)) (ze_iload rfl)
  replace b := zz_fw b T (rfl : zz_ent zP_8 13 = (0, za_imul 14)) (ze_imul rfl)
  replace b := zz_fw b T (rfl : zz_ent zP_8 14 = (0, za_iushr 15)) (ze_iushr rfl)
  replace b := zz_fw b T (rfl : zz_ent zP_8 15 = (0, za_const (.int (Int32.ofNat 255)) 18)) (ze_const)
  replace b := zz_fw b T (rfl : zz_ent zP_8 18 = (0, za_iand 19)) (ze_iand hc)
  replace b := zz_fw b T (rfl : zz_ent zP_8 19 = (0, za_istore 4 21)) (ze_istore (lv' := [(0, _), (1, _), (2, _), (3, _)]) rfl)
  replace b := zz_fw b T (rfl : zz_ent zP_8 21 = (0, za_iload 4 23)) (ze_iload rfl)
  replace b := zz_fw b T (rfl : zz_ent zP_8 23 = (0, za_if_eq 57 26)) (ze_if_eq_t h0)
  replace b := zz_fw b T (rfl : zz_ent zP_8 57 = (0, za_iload 2 58)) (ze_iload rfl)
  replace b := zz_fw b T (rfl : zz_ent zP_8 58 = (0, za_iload 4 60)) (ze_iload rfl)
  replace b := zz_fw b T (rfl : zz_ent zP_8 60 = (0, za_if_ne 67 63)) (ze_if_ne_f (not_not_intro h0))
  replace b := zz_fw b T (rfl : zz_ent zP_8 63 = (0, za_const (.int (Int32.ofNat 0)) 64)) (ze_const)
  replace b := zz_fw b T (rfl : zz_ent zP_8 64 = (0, za_goto 68)) (ze_goto)
  replace b := zz_fw b T (rfl : zz_ent zP_8 68 = (0, za_iadd 69)) (ze_iadd (Int32.ofNat_add q 0).symm)
  replace b := zz_fw b T (rfl : zz_ent zP_8 69 = (0, za_istore 2 70)) (ze_istore (lv' := [(4, _), (0, _), (1, _), (3, _)]) rfl)
  replace b := zz_fw b T (rfl : zz_ent zP_8 70 = (0, za_iinc 3 (Int32.ofNat 1) 73)) (ze_iinc (lv' := [(2, _), (4, _), (0, _), (1, _)]) rfl (Int32.ofNat_add j 1).symm rfl)
  replace b := zz_fw b T (rfl : zz_ent zP_8 73 = (0, za_goto 4)) (ze_goto)
  replace b := zz_fl (lv' := [(0, .ref 0), (1, .int p0), (2, .int (Int32.ofNat (q + 0))), (3, .int (Int32.ofNat (j + 1)))]) b (zz_mc (List.mem_cons_of_mem _ (List.mem_cons_of_mem _ (List.mem_cons_of_mem _ List.mem_cons_self))) (zz_mc (List.mem_cons_of_mem _ (List.mem_cons_of_mem _ (List.mem_cons_of_mem _ (List.mem_cons_of_mem _ List.mem_cons_self)))) (zz_mc (List.mem_cons_of_mem _ List.mem_cons_self) (zz_mc List.mem_cons_self zz_mn))))
  exact b
theorem zpC1_n {l : Launch} {D : va_G} {cy : Nat → ClassId} {z0 : Nat} {sp : Nat → Nat} {G : State → Prop} {d : Nat} (hG : zz_GF z0 G) (hP : ∀ U, G U → zz_GD zS zS2 zLg z0 sp U) {w : zz_W} {p0 c : Int32} {q j : Nat} (hi : ¬ Int32.ofNat 4 ≤ Int32.ofNat j) (hc : zpc p0 (Int32.ofNat j) = c) (h0 : ¬ c = 0) (h1 : c = Int32.ofNat 10) : zz_B l zTs D zcl zFK cy z0 sp (zTys cy) G "ToolMill" "put" 5 prog_1_method_2_code d (4, [(0, .ref 0), (1, .int p0), (2, .int (Int32.ofNat q)), (3, .int (Int32.ofNat j))], [], w) (4, [(0, .ref 0), (1, .int p0), (2, .int (Int32.ofNat (q + 1))), (3, .int (Int32.ofNat (j + 1)))], [], w) := by
  have T := zt_8 (l := l) (D := D) (cy := cy) (z0 := z0) (sp := sp) (G := G) (d := d) zz_k0_KS hG hP
  have TK := fun (K : zz_K) (h : zz_KS l D zcl zFK cy z0 sp (zTys cy) G zYN (fun y => Cond.code (zYN y) (zCN y) (zMQ y) (zRT y) :: zTs) d K) => zt_8 h hG hP
  have b := zz_B_rf (l := l) (Ts := zTs) (D := D) (cl := zcl) (fk := zFK) (cy := cy) (z0 := z0) (sp := sp) (tys := zTys cy) (G := G) (own := "ToolMill") (mn := "put") (nL := 5) (cc := prog_1_method_2_code) (d := d) ((4, [(0, .ref 0), (1, .int p0), (2, .int (Int32.ofNat q)), (3, .int (Int32.ofNat j))], [], w) : zz_F)
  replace b := zz_fw b T (rfl : zz_ent zP_8 4 = (0, za_iload 3 5)) (ze_iload rfl)
  replace b := zz_fw b T (rfl : zz_ent zP_8 5 = (0, za_const (.int (Int32.ofNat 4)) 6)) (ze_const)
  replace b := zz_fw b T (rfl : zz_ent zP_8 6 = (0, za_icmp_ge 76 9)) (ze_icmp_ge_f hi)
  replace b := zz_fw b T (rfl : zz_ent zP_8 9 = (0, za_iload 1 10)) (ze_iload rfl)
  replace b := zz_fw b T (rfl : zz_ent zP_8 10 = (0, za_const (.int (Int32.ofNat 8)) 12)) (ze_const)
  replace b := zz_fw b T (rfl : zz_ent zP_8 12 = (0, za_iload 3 13)) (ze_iload rfl)
  replace b := zz_fw b T (rfl : zz_ent zP_8 13 = (0, za_imul 14)) (ze_imul rfl)
  replace b := zz_fw b T (rfl : zz_ent zP_8 14 = (0, za_iushr 15)) (ze_iushr rfl)
  replace b := zz_fw b T (rfl : zz_ent zP_8 15 = (0, za_const (.int (Int32.ofNat 255)) 18)) (ze_const)
  replace b := zz_fw b T (rfl : zz_ent zP_8 18 = (0, za_iand 19)) (ze_iand hc)
  replace b := zz_fw b T (rfl : zz_ent zP_8 19 = (0, za_istore 4 21)) (ze_istore (lv' := [(0, _), (1, _), (2, _), (3, _)]) rfl)
  replace b := zz_fw b T (rfl : zz_ent zP_8 21 = (0, za_iload 4 23)) (ze_iload rfl)
  replace b := zz_fw b T (rfl : zz_ent zP_8 23 = (0, za_if_eq 57 26)) (ze_if_eq_f h0)
  replace b := zz_fw b T (rfl : zz_ent zP_8 26 = (0, za_iload 4 28)) (ze_iload rfl)
  replace b := zz_fw b T (rfl : zz_ent zP_8 28 = (0, za_const (.int (Int32.ofNat 10)) 30)) (ze_const)
  replace b := zz_fw b T (rfl : zz_ent zP_8 30 = (0, za_icmp_eq 57 33)) (ze_icmp_eq_t h1)
  replace b := zz_fw b T (rfl : zz_ent zP_8 57 = (0, za_iload 2 58)) (ze_iload rfl)
  replace b := zz_fw b T (rfl : zz_ent zP_8 58 = (0, za_iload 4 60)) (ze_iload rfl)
  replace b := zz_fw b T (rfl : zz_ent zP_8 60 = (0, za_if_ne 67 63)) (ze_if_ne_t h0)
  replace b := zz_fw b T (rfl : zz_ent zP_8 67 = (0, za_const (.int (Int32.ofNat 1)) 68)) (ze_const)
  replace b := zz_fw b T (rfl : zz_ent zP_8 68 = (0, za_iadd 69)) (ze_iadd (Int32.ofNat_add q 1).symm)
  replace b := zz_fw b T (rfl : zz_ent zP_8 69 = (0, za_istore 2 70)) (ze_istore (lv' := [(4, _), (0, _), (1, _), (3, _)]) rfl)
  replace b := zz_fw b T (rfl : zz_ent zP_8 70 = (0, za_iinc 3 (Int32.ofNat 1) 73)) (ze_iinc (lv' := [(2, _), (4, _), (0, _), (1, _)]) rfl (Int32.ofNat_add j 1).symm rfl)
  replace b := zz_fw b T (rfl : zz_ent zP_8 73 = (0, za_goto 4)) (ze_goto)
  replace b := zz_fl (lv' := [(0, .ref 0), (1, .int p0), (2, .int (Int32.ofNat (q + 1))), (3, .int (Int32.ofNat (j + 1)))]) b (zz_mc (List.mem_cons_of_mem _ (List.mem_cons_of_mem _ (List.mem_cons_of_mem _ List.mem_cons_self))) (zz_mc (List.mem_cons_of_mem _ (List.mem_cons_of_mem _ (List.mem_cons_of_mem _ (List.mem_cons_of_mem _ List.mem_cons_self)))) (zz_mc (List.mem_cons_of_mem _ List.mem_cons_self) (zz_mc List.mem_cons_self zz_mn))))
  exact b
theorem zpC1_r {l : Launch} {D : va_G} {cy : Nat → ClassId} {z0 : Nat} {sp : Nat → Nat} {G : State → Prop} {d : Nat} (hG : zz_GF z0 G) (hP : ∀ U, G U → zz_GD zS zS2 zLg z0 sp U) {w : zz_W} {p0 c : Int32} {q j : Nat} (hi : ¬ Int32.ofNat 4 ≤ Int32.ofNat j) (hc : zpc p0 (Int32.ofNat j) = c) (h0 : ¬ c = 0) (h1 : ¬ c = Int32.ofNat 10) (h2 : ¬ c < Int32.ofNat 32) (h3 : c ≤ Int32.ofNat 126) : zz_B l zTs D zcl zFK cy z0 sp (zTys cy) G "ToolMill" "put" 5 prog_1_method_2_code d (4, [(0, .ref 0), (1, .int p0), (2, .int (Int32.ofNat q)), (3, .int (Int32.ofNat j))], [], w) (4, [(0, .ref 0), (1, .int p0), (2, .int (Int32.ofNat (q + 1))), (3, .int (Int32.ofNat (j + 1)))], [], w) := by
  have T := zt_8 (l := l) (D := D) (cy := cy) (z0 := z0) (sp := sp) (G := G) (d := d) zz_k0_KS hG hP
  have TK := fun (K : zz_K) (h : zz_KS l D zcl zFK cy z0 sp (zTys cy) G zYN (fun y => Cond.code (zYN y) (zCN y) (zMQ y) (zRT y) :: zTs) d K) => zt_8 h hG hP
  have b := zz_B_rf (l := l) (Ts := zTs) (D := D) (cl := zcl) (fk := zFK) (cy := cy) (z0 := z0) (sp := sp) (tys := zTys cy) (G := G) (own := "ToolMill") (mn := "put") (nL := 5) (cc := prog_1_method_2_code) (d := d) ((4, [(0, .ref 0), (1, .int p0), (2, .int (Int32.ofNat q)), (3, .int (Int32.ofNat j))], [], w) : zz_F)
  replace b := zz_fw b T (rfl : zz_ent zP_8 4 = (0, za_iload 3 5)) (ze_iload rfl)
  replace b := zz_fw b T (rfl : zz_ent zP_8 5 = (0, za_const (.int (Int32.ofNat 4)) 6)) (ze_const)
  replace b := zz_fw b T (rfl : zz_ent zP_8 6 = (0, za_icmp_ge 76 9)) (ze_icmp_ge_f hi)
  replace b := zz_fw b T (rfl : zz_ent zP_8 9 = (0, za_iload 1 10)) (ze_iload rfl)
  replace b := zz_fw b T (rfl : zz_ent zP_8 10 = (0, za_const (.int (Int32.ofNat 8)) 12)) (ze_const)
  replace b := zz_fw b T (rfl : zz_ent zP_8 12 = (0, za_iload 3 13)) (ze_iload rfl)
  replace b := zz_fw b T (rfl : zz_ent zP_8 13 = (0, za_imul 14)) (ze_imul rfl)
  replace b := zz_fw b T (rfl : zz_ent zP_8 14 = (0, za_iushr 15)) (ze_iushr rfl)
  replace b := zz_fw b T (rfl : zz_ent zP_8 15 = (0, za_const (.int (Int32.ofNat 255)) 18)) (ze_const)
  replace b := zz_fw b T (rfl : zz_ent zP_8 18 = (0, za_iand 19)) (ze_iand hc)
  replace b := zz_fw b T (rfl : zz_ent zP_8 19 = (0, za_istore 4 21)) (ze_istore (lv' := [(0, _), (1, _), (2, _), (3, _)]) rfl)
  replace b := zz_fw b T (rfl : zz_ent zP_8 21 = (0, za_iload 4 23)) (ze_iload rfl)
  replace b := zz_fw b T (rfl : zz_ent zP_8 23 = (0, za_if_eq 57 26)) (ze_if_eq_f h0)
  replace b := zz_fw b T (rfl : zz_ent zP_8 26 = (0, za_iload 4 28)) (ze_iload rfl)
  replace b := zz_fw b T (rfl : zz_ent zP_8 28 = (0, za_const (.int (Int32.ofNat 10)) 30)) (ze_const)
  replace b := zz_fw b T (rfl : zz_ent zP_8 30 = (0, za_icmp_eq 57 33)) (ze_icmp_eq_f h1)
  replace b := zz_fw b T (rfl : zz_ent zP_8 33 = (0, za_iload 4 35)) (ze_iload rfl)
  replace b := zz_fw b T (rfl : zz_ent zP_8 35 = (0, za_const (.int (Int32.ofNat 32)) 37)) (ze_const)
  replace b := zz_fw b T (rfl : zz_ent zP_8 37 = (0, za_icmp_lt 47 40)) (ze_icmp_lt_f h2)
  replace b := zz_fw b T (rfl : zz_ent zP_8 40 = (0, za_iload 4 42)) (ze_iload rfl)
  replace b := zz_fw b T (rfl : zz_ent zP_8 42 = (0, za_const (.int (Int32.ofNat 126)) 44)) (ze_const)
  replace b := zz_fw b T (rfl : zz_ent zP_8 44 = (0, za_icmp_le 57 47)) (ze_icmp_le_t h3)
  replace b := zz_fw b T (rfl : zz_ent zP_8 57 = (0, za_iload 2 58)) (ze_iload rfl)
  replace b := zz_fw b T (rfl : zz_ent zP_8 58 = (0, za_iload 4 60)) (ze_iload rfl)
  replace b := zz_fw b T (rfl : zz_ent zP_8 60 = (0, za_if_ne 67 63)) (ze_if_ne_t h0)
  replace b := zz_fw b T (rfl : zz_ent zP_8 67 = (0, za_const (.int (Int32.ofNat 1)) 68)) (ze_const)
  replace b := zz_fw b T (rfl : zz_ent zP_8 68 = (0, za_iadd 69)) (ze_iadd (Int32.ofNat_add q 1).symm)
  replace b := zz_fw b T (rfl : zz_ent zP_8 69 = (0, za_istore 2 70)) (ze_istore (lv' := [(4, _), (0, _), (1, _), (3, _)]) rfl)
  replace b := zz_fw b T (rfl : zz_ent zP_8 70 = (0, za_iinc 3 (Int32.ofNat 1) 73)) (ze_iinc (lv' := [(2, _), (4, _), (0, _), (1, _)]) rfl (Int32.ofNat_add j 1).symm rfl)
  replace b := zz_fw b T (rfl : zz_ent zP_8 73 = (0, za_goto 4)) (ze_goto)
  replace b := zz_fl (lv' := [(0, .ref 0), (1, .int p0), (2, .int (Int32.ofNat (q + 1))), (3, .int (Int32.ofNat (j + 1)))]) b (zz_mc (List.mem_cons_of_mem _ (List.mem_cons_of_mem _ (List.mem_cons_of_mem _ List.mem_cons_self))) (zz_mc (List.mem_cons_of_mem _ (List.mem_cons_of_mem _ (List.mem_cons_of_mem _ (List.mem_cons_of_mem _ List.mem_cons_self)))) (zz_mc (List.mem_cons_of_mem _ List.mem_cons_self) (zz_mc List.mem_cons_self zz_mn))))
  exact b
theorem zpC1 {l : Launch} {D : va_G} {cy : Nat → ClassId} {z0 : Nat} {sp : Nat → Nat} {G : State → Prop} {d : Nat} (hG : zz_GF z0 G) (hP : ∀ U, G U → zz_GD zS zS2 zLg z0 sp U) {w : zz_W} {p0 c : Int32} {q j : Nat} (hi : ¬ Int32.ofNat 4 ≤ Int32.ofNat j) (hc : zpc p0 (Int32.ofNat j) = c) (hg : zpg c) : zz_B l zTs D zcl zFK cy z0 sp (zTys cy) G "ToolMill" "put" 5 prog_1_method_2_code d (4, [(0, .ref 0), (1, .int p0), (2, .int (Int32.ofNat q)), (3, .int (Int32.ofNat j))], [], w) (4, [(0, .ref 0), (1, .int p0), (2, .int (Int32.ofNat (q + zpn c))), (3, .int (Int32.ofNat (j + 1)))], [], w) := by
  by_cases h0 : c = 0
  · rw [zpn_0 h0]; exact zpC1_z hG hP hi hc h0
  · rw [zpn_1 h0]
    rcases hg with h | h | ⟨h2, h3⟩
    · exact absurd h h0
    · exact zpC1_n hG hP hi hc h0 h
    · by_cases h1 : c = Int32.ofNat 10
      · exact zpC1_n hG hP hi hc h0 h1
      · exact zpC1_r hG hP hi hc h0 h1 h2 h3
theorem zpC1_xl {l : Launch} {D : va_G} {cy : Nat → ClassId} {z0 : Nat} {sp : Nat → Nat} {G : State → Prop} {d : Nat} (hG : zz_GF z0 G) (hP : ∀ U, G U → zz_GD zS zS2 zLg z0 sp U) (hl : l.stackTraces = false) (hE : ∀ U, G U → zGX z0 U) {p0 c : Int32} {q j : Nat} (hi : ¬ Int32.ofNat 4 ≤ Int32.ofNat j) (hc : zpc p0 (Int32.ofNat j) = c) (h0 : ¬ c = 0) (h1 : ¬ c = Int32.ofNat 10) (h2 : c < Int32.ofNat 32) : zz_TX l zTs D zcl zFK cy z0 sp (zTys cy) G "ToolMill" "put" 5 prog_1_method_2_code (d + 5) (4, [(0, .ref 0), (1, .int p0), (2, .int (Int32.ofNat q)), (3, .int (Int32.ofNat j))], [], zW3) "java/lang/IllegalArgumentException" (zz_pu zW3 (3, 14, 0, 0) 6) := by
  have T := zt_8 (l := l) (D := D) (cy := cy) (z0 := z0) (sp := sp) (G := G) (d := (d + 5)) zz_k0_KS hG hP
  have TK := fun (K : zz_K) (h : zz_KS l D zcl zFK cy z0 sp (zTys cy) G zYN (fun y => Cond.code (zYN y) (zCN y) (zMQ y) (zRT y) :: zTs) (d + 5) K) => zt_8 h hG hP
  have b := zz_B_rf (l := l) (Ts := zTs) (D := D) (cl := zcl) (fk := zFK) (cy := cy) (z0 := z0) (sp := sp) (tys := zTys cy) (G := G) (own := "ToolMill") (mn := "put") (nL := 5) (cc := prog_1_method_2_code) (d := (d + 5)) ((4, [(0, .ref 0), (1, .int p0), (2, .int (Int32.ofNat q)), (3, .int (Int32.ofNat j))], [], zW3) : zz_F)
  replace b := zz_fw b T (rfl : zz_ent zP_8 4 = (0, za_iload 3 5)) (ze_iload rfl)
  replace b := zz_fw b T (rfl : zz_ent zP_8 5 = (0, za_const (.int (Int32.ofNat 4)) 6)) (ze_const)
  replace b := zz_fw b T (rfl : zz_ent zP_8 6 = (0, za_icmp_ge 76 9)) (ze_icmp_ge_f hi)
  replace b := zz_fw b T (rfl : zz_ent zP_8 9 = (0, za_iload 1 10)) (ze_iload rfl)
  replace b := zz_fw b T (rfl : zz_ent zP_8 10 = (0, za_const (.int (Int32.ofNat 8)) 12)) (ze_const)
  replace b := zz_fw b T (rfl : zz_ent zP_8 12 = (0, za_iload 3 13)) (ze_iload rfl)
  replace b := zz_fw b T (rfl : zz_ent zP_8 13 = (0, za_imul 14)) (ze_imul rfl)
  replace b := zz_fw b T (rfl : zz_ent zP_8 14 = (0, za_iushr 15)) (ze_iushr rfl)
  replace b := zz_fw b T (rfl : zz_ent zP_8 15 = (0, za_const (.int (Int32.ofNat 255)) 18)) (ze_const)
  replace b := zz_fw b T (rfl : zz_ent zP_8 18 = (0, za_iand 19)) (ze_iand hc)
  replace b := zz_fw b T (rfl : zz_ent zP_8 19 = (0, za_istore 4 21)) (ze_istore (lv' := [(0, _), (1, _), (2, _), (3, _)]) rfl)
  replace b := zz_fw b T (rfl : zz_ent zP_8 21 = (0, za_iload 4 23)) (ze_iload rfl)
  replace b := zz_fw b T (rfl : zz_ent zP_8 23 = (0, za_if_eq 57 26)) (ze_if_eq_f h0)
  replace b := zz_fw b T (rfl : zz_ent zP_8 26 = (0, za_iload 4 28)) (ze_iload rfl)
  replace b := zz_fw b T (rfl : zz_ent zP_8 28 = (0, za_const (.int (Int32.ofNat 10)) 30)) (ze_const)
  replace b := zz_fw b T (rfl : zz_ent zP_8 30 = (0, za_icmp_eq 57 33)) (ze_icmp_eq_f h1)
  replace b := zz_fw b T (rfl : zz_ent zP_8 33 = (0, za_iload 4 35)) (ze_iload rfl)
  replace b := zz_fw b T (rfl : zz_ent zP_8 35 = (0, za_const (.int (Int32.ofNat 32)) 37)) (ze_const)
  replace b := zz_fw b T (rfl : zz_ent zP_8 37 = (0, za_icmp_lt 47 40)) (ze_icmp_lt_t h2)
  replace b := zz_fl (lv' := [(4, .int c), (0, .ref 0), (1, .int p0), (2, .int (Int32.ofNat q)), (3, .int (Int32.ofNat j))]) b (zz_mc List.mem_cons_self (zz_mc (List.mem_cons_of_mem _ List.mem_cons_self) (zz_mc (List.mem_cons_of_mem _ (List.mem_cons_of_mem _ List.mem_cons_self)) (zz_mc (List.mem_cons_of_mem _ (List.mem_cons_of_mem _ (List.mem_cons_of_mem _ List.mem_cons_self))) (zz_mc (List.mem_cons_of_mem _ (List.mem_cons_of_mem _ (List.mem_cons_of_mem _ (List.mem_cons_of_mem _ List.mem_cons_self)))) zz_mn)))))
  exact (zz_TX_B b (zth_8_47 hl hP hE (by omega) (zz_lb rfl) zs3 (by decide +kernel)))
theorem zpC1_xg {l : Launch} {D : va_G} {cy : Nat → ClassId} {z0 : Nat} {sp : Nat → Nat} {G : State → Prop} {d : Nat} (hG : zz_GF z0 G) (hP : ∀ U, G U → zz_GD zS zS2 zLg z0 sp U) (hl : l.stackTraces = false) (hE : ∀ U, G U → zGX z0 U) {p0 c : Int32} {q j : Nat} (hi : ¬ Int32.ofNat 4 ≤ Int32.ofNat j) (hc : zpc p0 (Int32.ofNat j) = c) (h0 : ¬ c = 0) (h1 : ¬ c = Int32.ofNat 10) (h2 : ¬ c < Int32.ofNat 32) (h3 : ¬ c ≤ Int32.ofNat 126) : zz_TX l zTs D zcl zFK cy z0 sp (zTys cy) G "ToolMill" "put" 5 prog_1_method_2_code (d + 5) (4, [(0, .ref 0), (1, .int p0), (2, .int (Int32.ofNat q)), (3, .int (Int32.ofNat j))], [], zW3) "java/lang/IllegalArgumentException" (zz_pu zW3 (3, 14, 0, 0) 6) := by
  have T := zt_8 (l := l) (D := D) (cy := cy) (z0 := z0) (sp := sp) (G := G) (d := (d + 5)) zz_k0_KS hG hP
  have TK := fun (K : zz_K) (h : zz_KS l D zcl zFK cy z0 sp (zTys cy) G zYN (fun y => Cond.code (zYN y) (zCN y) (zMQ y) (zRT y) :: zTs) (d + 5) K) => zt_8 h hG hP
  have b := zz_B_rf (l := l) (Ts := zTs) (D := D) (cl := zcl) (fk := zFK) (cy := cy) (z0 := z0) (sp := sp) (tys := zTys cy) (G := G) (own := "ToolMill") (mn := "put") (nL := 5) (cc := prog_1_method_2_code) (d := (d + 5)) ((4, [(0, .ref 0), (1, .int p0), (2, .int (Int32.ofNat q)), (3, .int (Int32.ofNat j))], [], zW3) : zz_F)
  replace b := zz_fw b T (rfl : zz_ent zP_8 4 = (0, za_iload 3 5)) (ze_iload rfl)
  replace b := zz_fw b T (rfl : zz_ent zP_8 5 = (0, za_const (.int (Int32.ofNat 4)) 6)) (ze_const)
  replace b := zz_fw b T (rfl : zz_ent zP_8 6 = (0, za_icmp_ge 76 9)) (ze_icmp_ge_f hi)
  replace b := zz_fw b T (rfl : zz_ent zP_8 9 = (0, za_iload 1 10)) (ze_iload rfl)
  replace b := zz_fw b T (rfl : zz_ent zP_8 10 = (0, za_const (.int (Int32.ofNat 8)) 12)) (ze_const)
  replace b := zz_fw b T (rfl : zz_ent zP_8 12 = (0, za_iload 3 13)) (ze_iload rfl)
  replace b := zz_fw b T (rfl : zz_ent zP_8 13 = (0, za_imul 14)) (ze_imul rfl)
  replace b := zz_fw b T (rfl : zz_ent zP_8 14 = (0, za_iushr 15)) (ze_iushr rfl)
  replace b := zz_fw b T (rfl : zz_ent zP_8 15 = (0, za_const (.int (Int32.ofNat 255)) 18)) (ze_const)
  replace b := zz_fw b T (rfl : zz_ent zP_8 18 = (0, za_iand 19)) (ze_iand hc)
  replace b := zz_fw b T (rfl : zz_ent zP_8 19 = (0, za_istore 4 21)) (ze_istore (lv' := [(0, _), (1, _), (2, _), (3, _)]) rfl)
  replace b := zz_fw b T (rfl : zz_ent zP_8 21 = (0, za_iload 4 23)) (ze_iload rfl)
  replace b := zz_fw b T (rfl : zz_ent zP_8 23 = (0, za_if_eq 57 26)) (ze_if_eq_f h0)
  replace b := zz_fw b T (rfl : zz_ent zP_8 26 = (0, za_iload 4 28)) (ze_iload rfl)
  replace b := zz_fw b T (rfl : zz_ent zP_8 28 = (0, za_const (.int (Int32.ofNat 10)) 30)) (ze_const)
  replace b := zz_fw b T (rfl : zz_ent zP_8 30 = (0, za_icmp_eq 57 33)) (ze_icmp_eq_f h1)
  replace b := zz_fw b T (rfl : zz_ent zP_8 33 = (0, za_iload 4 35)) (ze_iload rfl)
  replace b := zz_fw b T (rfl : zz_ent zP_8 35 = (0, za_const (.int (Int32.ofNat 32)) 37)) (ze_const)
  replace b := zz_fw b T (rfl : zz_ent zP_8 37 = (0, za_icmp_lt 47 40)) (ze_icmp_lt_f h2)
  replace b := zz_fw b T (rfl : zz_ent zP_8 40 = (0, za_iload 4 42)) (ze_iload rfl)
  replace b := zz_fw b T (rfl : zz_ent zP_8 42 = (0, za_const (.int (Int32.ofNat 126)) 44)) (ze_const)
  replace b := zz_fw b T (rfl : zz_ent zP_8 44 = (0, za_icmp_le 57 47)) (ze_icmp_le_f h3)
  replace b := zz_fl (lv' := [(4, .int c), (0, .ref 0), (1, .int p0), (2, .int (Int32.ofNat q)), (3, .int (Int32.ofNat j))]) b (zz_mc List.mem_cons_self (zz_mc (List.mem_cons_of_mem _ List.mem_cons_self) (zz_mc (List.mem_cons_of_mem _ (List.mem_cons_of_mem _ List.mem_cons_self)) (zz_mc (List.mem_cons_of_mem _ (List.mem_cons_of_mem _ (List.mem_cons_of_mem _ List.mem_cons_self))) (zz_mc (List.mem_cons_of_mem _ (List.mem_cons_of_mem _ (List.mem_cons_of_mem _ (List.mem_cons_of_mem _ List.mem_cons_self)))) zz_mn)))))
  exact (zz_TX_B b (zth_8_47 hl hP hE (by omega) (zz_lb rfl) zs3 (by decide +kernel)))
theorem zpC1_x {l : Launch} {D : va_G} {cy : Nat → ClassId} {z0 : Nat} {sp : Nat → Nat} {G : State → Prop} {d : Nat} (hG : zz_GF z0 G) (hP : ∀ U, G U → zz_GD zS zS2 zLg z0 sp U) (hl : l.stackTraces = false) (hE : ∀ U, G U → zGX z0 U) {p0 c : Int32} {q j : Nat} (hi : ¬ Int32.ofNat 4 ≤ Int32.ofNat j) (hc : zpc p0 (Int32.ofNat j) = c) (hg : ¬ zpg c) : zz_TX l zTs D zcl zFK cy z0 sp (zTys cy) G "ToolMill" "put" 5 prog_1_method_2_code (d + 5) (4, [(0, .ref 0), (1, .int p0), (2, .int (Int32.ofNat q)), (3, .int (Int32.ofNat j))], [], zW3) "java/lang/IllegalArgumentException" (zz_pu zW3 (3, 14, 0, 0) 6) := by
  have h0 : ¬ c = 0 := fun h => hg (Or.inl h)
  have h1 : ¬ c = Int32.ofNat 10 := fun h => hg (Or.inr (Or.inl h))
  by_cases h2 : c < Int32.ofNat 32
  · exact zpC1_xl hG hP hl hE hi hc h0 h1 h2
  · exact zpC1_xg hG hP hl hE hi hc h0 h1 h2 (fun h3 => hg (Or.inr (Or.inr ⟨h2, h3⟩)))
/-- the class with n signs, all else that matters as in zW3 -/
def zPc (n : Nat) (w : zz_W) : Prop := zz_sh w ∧ w.1 = 329 ∧ w.2.1 = 2300586 ∧ (∀ i, 171 ≤ i → i < 329 → zz_g w i = zz_g zW3 i) ∧ ∃ M N, zz_has w 0 (3, 1, 17, M) ∧ zz_at 64 M 0 = 2 ∧ zz_at 64 M 1 = n ∧ zz_has w 1 (0, 1, 3000, N)
theorem zpC2_z {l : Launch} {D : va_G} {cy : Nat → ClassId} {z0 : Nat} {sp : Nat → Nat} {G : State → Prop} {d : Nat} (hG : zz_GF z0 G) (hP : ∀ U, G U → zz_GD zS zS2 zLg z0 sp U) {w : zz_W} {p0 c : Int32} {n j : Nat} (hw : zPc n w) (hn4 : n < 2000) (hi : ¬ Int32.ofNat 4 ≤ Int32.ofNat j) (hc : zpc p0 (Int32.ofNat j) = c) (h0 : c = 0) : zz_B l zTs D zcl zFK cy z0 sp (zTys cy) G "ToolMill" "put" 5 prog_1_method_2_code d (100, [(0, .ref 0), (1, .int p0), (3, .int (Int32.ofNat j))], [], w) (100, [(0, .ref 0), (1, .int p0), (3, .int (Int32.ofNat (j + 1)))], [], w) := by
  have T := zt_8 (l := l) (D := D) (cy := cy) (z0 := z0) (sp := sp) (G := G) (d := d) zz_k0_KS hG hP
  have TK := fun (K : zz_K) (h : zz_KS l D zcl zFK cy z0 sp (zTys cy) G zYN (fun y => Cond.code (zYN y) (zCN y) (zMQ y) (zRT y) :: zTs) d K) => zt_8 h hG hP
  have b := zz_B_rf (l := l) (Ts := zTs) (D := D) (cl := zcl) (fk := zFK) (cy := cy) (z0 := z0) (sp := sp) (tys := zTys cy) (G := G) (own := "ToolMill") (mn := "put") (nL := 5) (cc := prog_1_method_2_code) (d := d) ((100, [(0, .ref 0), (1, .int p0), (3, .int (Int32.ofNat j))], [], w) : zz_F)
  replace b := zz_fw b T (rfl : zz_ent zP_8 100 = (0, za_iload 3 101)) (ze_iload rfl)
  replace b := zz_fw b T (rfl : zz_ent zP_8 101 = (0, za_const (.int (Int32.ofNat 4)) 102)) (ze_const)
  replace b := zz_fw b T (rfl : zz_ent zP_8 102 = (0, za_icmp_ge 150 105)) (ze_icmp_ge_f hi)
  replace b := zz_fw b T (rfl : zz_ent zP_8 105 = (0, za_iload 1 106)) (ze_iload rfl)
  replace b := zz_fw b T (rfl : zz_ent zP_8 106 = (0, za_const (.int (Int32.ofNat 8)) 108)) (ze_const)
  replace b := zz_fw b T (rfl : zz_ent zP_8 108 = (0, za_iload 3 109)) (ze_iload rfl)
  replace b := zz_fw b T (rfl : zz_ent zP_8 109 = (0, za_imul 110)) (ze_imul rfl)
  replace b := zz_fw b T (rfl : zz_ent zP_8 110 = (0, za_iushr 111)) (ze_iushr rfl)
  replace b := zz_fw b T (rfl : zz_ent zP_8 111 = (0, za_const (.int (Int32.ofNat 255)) 114)) (ze_const)
  replace b := zz_fw b T (rfl : zz_ent zP_8 114 = (0, za_iand 115)) (ze_iand hc)
  replace b := zz_fw b T (rfl : zz_ent zP_8 115 = (0, za_istore 4 117)) (ze_istore (lv' := [(0, _), (1, _), (3, _)]) rfl)
  replace b := zz_fw b T (rfl : zz_ent zP_8 117 = (0, za_iload 4 119)) (ze_iload rfl)
  replace b := zz_fw b T (rfl : zz_ent zP_8 119 = (0, za_if_eq 144 122)) (ze_if_eq_t h0)
  replace b := zz_fw b T (rfl : zz_ent zP_8 144 = (0, za_iinc 3 (Int32.ofNat 1) 147)) (ze_iinc (lv' := [(4, _), (0, _), (1, _)]) rfl (Int32.ofNat_add j 1).symm rfl)
  replace b := zz_fw b T (rfl : zz_ent zP_8 147 = (0, za_goto 100)) (ze_goto)
  replace b := zz_fl (lv' := [(0, .ref 0), (1, .int p0), (3, .int (Int32.ofNat (j + 1)))]) b (zz_mc (List.mem_cons_of_mem _ (List.mem_cons_of_mem _ List.mem_cons_self)) (zz_mc (List.mem_cons_of_mem _ (List.mem_cons_of_mem _ (List.mem_cons_of_mem _ List.mem_cons_self))) (zz_mc List.mem_cons_self zz_mn)))
  exact b
theorem zpC2_k {l : Launch} {D : va_G} {cy : Nat → ClassId} {z0 : Nat} {sp : Nat → Nat} {G : State → Prop} {d : Nat} (hG : zz_GF z0 G) (hP : ∀ U, G U → zz_GD zS zS2 zLg z0 sp U) {w : zz_W} {p0 c : Int32} {n j : Nat} (hw : zPc n w) (hn4 : n < 2000) (hi : ¬ Int32.ofNat 4 ≤ Int32.ofNat j) (hc : zpc p0 (Int32.ofNat j) = c) (hc0 : ¬ c = 0) : ∃ w', zz_B l zTs D zcl zFK cy z0 sp (zTys cy) G "ToolMill" "put" 5 prog_1_method_2_code d (100, [(0, .ref 0), (1, .int p0), (3, .int (Int32.ofNat j))], [], w) (100, [(0, .ref 0), (1, .int p0), (3, .int (Int32.ofNat (j + 1)))], [], w') ∧ zPc (n + 1) w' := by
  obtain ⟨hs, s1, s2, ho, M, N, h0, ht, hn, hr⟩ := hw
  have T := zt_8 (l := l) (D := D) (cy := cy) (z0 := z0) (sp := sp) (G := G) (d := d) zz_k0_KS hG hP
  have TK := fun (K : zz_K) (h : zz_KS l D zcl zFK cy z0 sp (zTys cy) G zYN (fun y => Cond.code (zYN y) (zCN y) (zMQ y) (zRT y) :: zTs) d K) => zt_8 h hG hP
  have b := zz_B_rf (l := l) (Ts := zTs) (D := D) (cl := zcl) (fk := zFK) (cy := cy) (z0 := z0) (sp := sp) (tys := zTys cy) (G := G) (own := "ToolMill") (mn := "put") (nL := 5) (cc := prog_1_method_2_code) (d := d) ((100, [(0, .ref 0), (1, .int p0), (3, .int (Int32.ofNat j))], [], w) : zz_F)
  replace b := zz_fw b T (rfl : zz_ent zP_8 100 = (0, za_iload 3 101)) (ze_iload rfl)
  replace b := zz_fw b T (rfl : zz_ent zP_8 101 = (0, za_const (.int (Int32.ofNat 4)) 102)) (ze_const)
  replace b := zz_fw b T (rfl : zz_ent zP_8 102 = (0, za_icmp_ge 150 105)) (ze_icmp_ge_f hi)
  replace b := zz_fw b T (rfl : zz_ent zP_8 105 = (0, za_iload 1 106)) (ze_iload rfl)
  replace b := zz_fw b T (rfl : zz_ent zP_8 106 = (0, za_const (.int (Int32.ofNat 8)) 108)) (ze_const)
  replace b := zz_fw b T (rfl : zz_ent zP_8 108 = (0, za_iload 3 109)) (ze_iload rfl)
  replace b := zz_fw b T (rfl : zz_ent zP_8 109 = (0, za_imul 110)) (ze_imul rfl)
  replace b := zz_fw b T (rfl : zz_ent zP_8 110 = (0, za_iushr 111)) (ze_iushr rfl)
  replace b := zz_fw b T (rfl : zz_ent zP_8 111 = (0, za_const (.int (Int32.ofNat 255)) 114)) (ze_const)
  replace b := zz_fw b T (rfl : zz_ent zP_8 114 = (0, za_iand 115)) (ze_iand hc)
  replace b := zz_fw b T (rfl : zz_ent zP_8 115 = (0, za_istore 4 117)) (ze_istore (lv' := [(0, _), (1, _), (3, _)]) rfl)
  replace b := zz_fw b T (rfl : zz_ent zP_8 117 = (0, za_iload 4 119)) (ze_iload rfl)
  replace b := zz_fw b T (rfl : zz_ent zP_8 119 = (0, za_if_eq 144 122)) (ze_if_eq_f hc0)
  replace b := zz_fw b T (rfl : zz_ent zP_8 122 = (0, za_aload 0 123)) (ze_aload rfl)
  replace b := zz_fw b T (rfl : zz_ent zP_8 123 = (0, za_getA 1 0 126)) (ze_getA h0 (by decide) ht)
  replace b := zz_fw b T (rfl : zz_ent zP_8 126 = (0, za_aload 0 127)) (ze_aload rfl)
  replace b := zz_fw b T (rfl : zz_ent zP_8 127 = (0, za_getI 1 1 130)) (ze_getI h0 (by decide) (congrArg Int32.ofNat hn))
  replace b := zz_fw b T (rfl : zz_ent zP_8 130 = (0, za_iload 4 132)) (ze_iload rfl)
  replace b := zz_fw b T (rfl : zz_ent zP_8 132 = (0, za_i2b 133)) (ze_i2b rfl)
  replace b := zz_fw b T (rfl : zz_ent zP_8 133 = (0, za_astB 1 134)) (ze_astB hs hr (by rw [zz_nI_ofNat (by omega)]; omega) (by decide))
  replace b := zz_fw b T (rfl : zz_ent zP_8 134 = (0, za_aload 0 135)) (ze_aload rfl)
  replace b := zz_fw b T (rfl : zz_ent zP_8 135 = (0, za_dup 136)) (ze_dup rfl)
  replace b := zz_fw b T (rfl : zz_ent zP_8 136 = (0, za_getI 1 1 139)) (ze_getI (zz_has_ne hs (by decide) h0 (by decide)) (by decide) (congrArg Int32.ofNat hn))
  replace b := zz_fw b T (rfl : zz_ent zP_8 139 = (0, za_const (.int (Int32.ofNat 1)) 140)) (ze_const)
  replace b := zz_fw b T (rfl : zz_ent zP_8 140 = (0, za_iadd 141)) (ze_iadd (Int32.ofNat_add n 1).symm)
  replace b := zz_fw b T (rfl : zz_ent zP_8 141 = (0, za_putI 1 1 144)) (ze_putI (zz_up_sh hs) (zz_has_ne hs (by decide) h0 (by decide)) (by decide))
  replace b := zz_fw b T (rfl : zz_ent zP_8 144 = (0, za_iinc 3 (Int32.ofNat 1) 147)) (ze_iinc (lv' := [(4, _), (0, _), (1, _)]) rfl (Int32.ofNat_add j 1).symm rfl)
  replace b := zz_fw b T (rfl : zz_ent zP_8 147 = (0, za_goto 100)) (ze_goto)
  replace b := zz_fl (lv' := [(0, .ref 0), (1, .int p0), (3, .int (Int32.ofNat (j + 1)))]) b (zz_mc (List.mem_cons_of_mem _ (List.mem_cons_of_mem _ List.mem_cons_self)) (zz_mc (List.mem_cons_of_mem _ (List.mem_cons_of_mem _ (List.mem_cons_of_mem _ List.mem_cons_self))) (zz_mc List.mem_cons_self zz_mn)))
  exact ⟨_, b, ⟨zz_up_sh (zz_up_sh hs), s1, s2, fun i a1 a2 => (zz_up_ne (zz_up_sh hs) (by decide) (by omega)).trans ((zz_up_ne hs (by decide) (by omega)).trans (ho i a1 a2)), _, _, zz_has_up (zz_up_sh hs) (zz_has_ne hs (by decide) h0 (by decide)), (zz_gn (by decide)).trans ht, zz_gs2 (by omega), zz_has_ne (zz_up_sh hs) (by decide) (zz_has_up hs hr) (by decide)⟩⟩
theorem zpC2 {l : Launch} {D : va_G} {cy : Nat → ClassId} {z0 : Nat} {sp : Nat → Nat} {G : State → Prop} {d : Nat} (hG : zz_GF z0 G) (hP : ∀ U, G U → zz_GD zS zS2 zLg z0 sp U) {w : zz_W} {p0 c : Int32} {n j : Nat} (hw : zPc n w) (hn4 : n < 2000) (hi : ¬ Int32.ofNat 4 ≤ Int32.ofNat j) (hc : zpc p0 (Int32.ofNat j) = c) : ∃ w', zz_B l zTs D zcl zFK cy z0 sp (zTys cy) G "ToolMill" "put" 5 prog_1_method_2_code d (100, [(0, .ref 0), (1, .int p0), (3, .int (Int32.ofNat j))], [], w) (100, [(0, .ref 0), (1, .int p0), (3, .int (Int32.ofNat (j + 1)))], [], w') ∧ zPc (n + zpn c) w' := by
  by_cases h0 : c = 0
  · rw [zpn_0 h0]; exact ⟨w, zpC2_z hG hP hw hn4 hi hc h0, hw⟩
  · rw [zpn_1 h0]; exact zpC2_k hG hP hw hn4 hi hc h0
theorem zpC_1 {l : Launch} {D : va_G} {cy : Nat → ClassId} {z0 : Nat} {sp : Nat → Nat} {G : State → Prop} {d : Nat} (hG : zz_GF z0 G) (hP : ∀ U, G U → zz_GD zS zS2 zLg z0 sp U) {p0 : Int32} {q : Nat} (h : Int32.ofNat q ≤ Int32.ofNat 3000) : zz_B l zTs D zcl zFK cy z0 sp (zTys cy) G "ToolMill" "put" 5 prog_1_method_2_code d (76, [(0, .ref 0), (1, .int p0), (2, .int (Int32.ofNat q)), (3, .int (Int32.ofNat 4))], [], zW3) (100, [(0, .ref 0), (1, .int p0), (3, .int (Int32.ofNat 0))], [], zW3) := by
  have T := zt_8 (l := l) (D := D) (cy := cy) (z0 := z0) (sp := sp) (G := G) (d := d) zz_k0_KS hG hP
  have TK := fun (K : zz_K) (h : zz_KS l D zcl zFK cy z0 sp (zTys cy) G zYN (fun y => Cond.code (zYN y) (zCN y) (zMQ y) (zRT y) :: zTs) d K) => zt_8 h hG hP
  have b := zz_B_rf (l := l) (Ts := zTs) (D := D) (cl := zcl) (fk := zFK) (cy := cy) (z0 := z0) (sp := sp) (tys := zTys cy) (G := G) (own := "ToolMill") (mn := "put") (nL := 5) (cc := prog_1_method_2_code) (d := d) ((76, [(0, .ref 0), (1, .int p0), (2, .int (Int32.ofNat q)), (3, .int (Int32.ofNat 4))], [], zW3) : zz_F)
  replace b := zz_fw b T (rfl : zz_ent zP_8 76 = (0, za_aload 0 77)) (ze_aload rfl)
  replace b := zz_fw b T (rfl : zz_ent zP_8 77 = (0, za_getI 1 1 80)) (ze_getI zh_0 (by decide) (congrArg Int32.ofNat zv_0_1))
  replace b := zz_fw b T (rfl : zz_ent zP_8 80 = (0, za_iload 2 81)) (ze_iload rfl)
  replace b := zz_fw b T (rfl : zz_ent zP_8 81 = (0, za_iadd 82)) (ze_iadd (show Int32.ofNat 0 + Int32.ofNat q = Int32.ofNat q by rw [← Int32.ofNat_add, Nat.zero_add]))
  replace b := zz_fw b T (rfl : zz_ent zP_8 82 = (0, za_const (.int (Int32.ofNat 3000)) 85)) (ze_const)
  replace b := zz_fw b T (rfl : zz_ent zP_8 85 = (0, za_icmp_le 98 88)) (ze_icmp_le_t h)
  replace b := zz_fw b T (rfl : zz_ent zP_8 98 = (0, za_const (.int (Int32.ofNat 0)) 99)) (ze_const)
  replace b := zz_fw b T (rfl : zz_ent zP_8 99 = (0, za_istore 3 100)) (ze_istore (lv' := [(0, _), (1, _), (2, _)]) rfl)
  replace b := zz_fl (lv' := [(0, .ref 0), (1, .int p0), (3, .int (Int32.ofNat 0))]) b (zz_mc (List.mem_cons_of_mem _ List.mem_cons_self) (zz_mc (List.mem_cons_of_mem _ (List.mem_cons_of_mem _ List.mem_cons_self)) (zz_mc List.mem_cons_self zz_mn)))
  exact b
theorem zpC_0 {l : Launch} {D : va_G} {cy : Nat → ClassId} {z0 : Nat} {sp : Nat → Nat} {G : State → Prop} {d : Nat} (hG : zz_GF z0 G) (hP : ∀ U, G U → zz_GD zS zS2 zLg z0 sp U) {w : zz_W} {p0 : Int32} : zz_B l zTs D zcl zFK cy z0 sp (zTys cy) G "ToolMill" "put" 5 prog_1_method_2_code d (0, [(0, .ref 0), (1, .int p0)], [], w) (4, [(0, .ref 0), (1, .int p0), (2, .int (Int32.ofNat 0)), (3, .int (Int32.ofNat 0))], [], w) := by
  have T := zt_8 (l := l) (D := D) (cy := cy) (z0 := z0) (sp := sp) (G := G) (d := d) zz_k0_KS hG hP
  have TK := fun (K : zz_K) (h : zz_KS l D zcl zFK cy z0 sp (zTys cy) G zYN (fun y => Cond.code (zYN y) (zCN y) (zMQ y) (zRT y) :: zTs) d K) => zt_8 h hG hP
  have b := zz_B_rf (l := l) (Ts := zTs) (D := D) (cl := zcl) (fk := zFK) (cy := cy) (z0 := z0) (sp := sp) (tys := zTys cy) (G := G) (own := "ToolMill") (mn := "put") (nL := 5) (cc := prog_1_method_2_code) (d := d) ((0, [(0, .ref 0), (1, .int p0)], [], w) : zz_F)
  replace b := zz_fw b T (rfl : zz_ent zP_8 0 = (0, za_const (.int (Int32.ofNat 0)) 1)) (ze_const)
  replace b := zz_fw b T (rfl : zz_ent zP_8 1 = (0, za_istore 2 2)) (ze_istore (lv' := [(0, _), (1, _)]) rfl)
  replace b := zz_fw b T (rfl : zz_ent zP_8 2 = (0, za_const (.int (Int32.ofNat 0)) 3)) (ze_const)
  replace b := zz_fw b T (rfl : zz_ent zP_8 3 = (0, za_istore 3 4)) (ze_istore (lv' := [(2, _), (0, _), (1, _)]) rfl)
  replace b := zz_fl (lv' := [(0, .ref 0), (1, .int p0), (2, .int (Int32.ofNat 0)), (3, .int (Int32.ofNat 0))]) b (zz_mc (List.mem_cons_of_mem _ (List.mem_cons_of_mem _ List.mem_cons_self)) (zz_mc (List.mem_cons_of_mem _ (List.mem_cons_of_mem _ (List.mem_cons_of_mem _ List.mem_cons_self))) (zz_mc (List.mem_cons_of_mem _ List.mem_cons_self) (zz_mc List.mem_cons_self zz_mn))))
  exact b
theorem zpC_4 {l : Launch} {D : va_G} {cy : Nat → ClassId} {z0 : Nat} {sp : Nat → Nat} {G : State → Prop} {d : Nat} (hG : zz_GF z0 G) (hP : ∀ U, G U → zz_GD zS zS2 zLg z0 sp U) {w : zz_W} {p0 : Int32} {q : Nat} : zz_B l zTs D zcl zFK cy z0 sp (zTys cy) G "ToolMill" "put" 5 prog_1_method_2_code d (4, [(0, .ref 0), (1, .int p0), (2, .int (Int32.ofNat q)), (3, .int (Int32.ofNat 4))], [], w) (76, [(0, .ref 0), (1, .int p0), (2, .int (Int32.ofNat q)), (3, .int (Int32.ofNat 4))], [], w) := by
  have T := zt_8 (l := l) (D := D) (cy := cy) (z0 := z0) (sp := sp) (G := G) (d := d) zz_k0_KS hG hP
  have TK := fun (K : zz_K) (h : zz_KS l D zcl zFK cy z0 sp (zTys cy) G zYN (fun y => Cond.code (zYN y) (zCN y) (zMQ y) (zRT y) :: zTs) d K) => zt_8 h hG hP
  have b := zz_B_rf (l := l) (Ts := zTs) (D := D) (cl := zcl) (fk := zFK) (cy := cy) (z0 := z0) (sp := sp) (tys := zTys cy) (G := G) (own := "ToolMill") (mn := "put") (nL := 5) (cc := prog_1_method_2_code) (d := d) ((4, [(0, .ref 0), (1, .int p0), (2, .int (Int32.ofNat q)), (3, .int (Int32.ofNat 4))], [], w) : zz_F)
  replace b := zz_fw b T (rfl : zz_ent zP_8 4 = (0, za_iload 3 5)) (ze_iload rfl)
  replace b := zz_fw b T (rfl : zz_ent zP_8 5 = (0, za_const (.int (Int32.ofNat 4)) 6)) (ze_const)
  replace b := zz_fw b T (rfl : zz_ent zP_8 6 = (0, za_icmp_ge 76 9)) (ze_icmp_ge_t (by decide))
  replace b := zz_fl (lv' := [(0, .ref 0), (1, .int p0), (2, .int (Int32.ofNat q)), (3, .int (Int32.ofNat 4))]) b (zz_mc List.mem_cons_self (zz_mc (List.mem_cons_of_mem _ List.mem_cons_self) (zz_mc (List.mem_cons_of_mem _ (List.mem_cons_of_mem _ List.mem_cons_self)) (zz_mc (List.mem_cons_of_mem _ (List.mem_cons_of_mem _ (List.mem_cons_of_mem _ List.mem_cons_self))) zz_mn))))
  exact b
theorem zpC_e {l : Launch} {D : va_G} {cy : Nat → ClassId} {z0 : Nat} {sp : Nat → Nat} {G : State → Prop} {d : Nat} (hG : zz_GF z0 G) (hP : ∀ U, G U → zz_GD zS zS2 zLg z0 sp U) {w : zz_W} {p0 : Int32} {n : Nat} (hw : zPc n w) : zz_B l zTs D zcl zFK cy z0 sp (zTys cy) G "ToolMill" "put" 5 prog_1_method_2_code d (100, [(0, .ref 0), (1, .int p0), (3, .int (Int32.ofNat 4))], [], w) (154, [(0, .ref 0), (1, .int p0), (3, .int (Int32.ofNat 4))], [.int (Int32.ofNat n)], w) := by
  obtain ⟨hs, s1, s2, ho, M, N, h0, ht, hn, hr⟩ := hw
  have T := zt_8 (l := l) (D := D) (cy := cy) (z0 := z0) (sp := sp) (G := G) (d := d) zz_k0_KS hG hP
  have b := zz_B_rf (l := l) (Ts := zTs) (D := D) (cl := zcl) (fk := zFK) (cy := cy) (z0 := z0) (sp := sp) (tys := zTys cy) (G := G) (own := "ToolMill") (mn := "put") (nL := 5) (cc := prog_1_method_2_code) (d := d) ((100, [(0, .ref 0), (1, .int p0), (3, .int (Int32.ofNat 4))], [], w) : zz_F)
  replace b := zz_fw b T (rfl : zz_ent zP_8 100 = (0, za_iload 3 101)) (ze_iload rfl)
  replace b := zz_fw b T (rfl : zz_ent zP_8 101 = (0, za_const (.int (Int32.ofNat 4)) 102)) (ze_const)
  replace b := zz_fw b T (rfl : zz_ent zP_8 102 = (0, za_icmp_ge 150 105)) (ze_icmp_ge_t (by decide))
  replace b := zz_fw b T (rfl : zz_ent zP_8 150 = (0, za_aload 0 151)) (ze_aload rfl)
  replace b := zz_fw b T (rfl : zz_ent zP_8 151 = (0, za_getI 1 1 154)) (ze_getI h0 (by decide) (congrArg Int32.ofNat hn))
  exact b
theorem zpC_sm {p0 : Int32} : (0 + zpn (zpc p0 (Int32.ofNat 0)) + zpn (zpc p0 (Int32.ofNat 1)) + zpn (zpc p0 (Int32.ofNat 2)) + zpn (zpc p0 (Int32.ofNat 3))) ≤ 4 := by
  have a0 := zpn_le (zpc p0 (Int32.ofNat 0))
  have a1 := zpn_le (zpc p0 (Int32.ofNat 1))
  have a2 := zpn_le (zpc p0 (Int32.ofNat 2))
  have a3 := zpn_le (zpc p0 (Int32.ofNat 3))
  omega
theorem zpI_le : ∀ q : Nat, q < 5 → Int32.ofNat q ≤ Int32.ofNat 3000 := by decide
theorem zPc_0 : zPc 0 zW3 := ⟨zs3, by decide +kernel, by decide +kernel, fun _ _ _ => rfl, _, _, zh_0, zv_0_0, zv_0_1, zh_1⟩
theorem zMc_put {l : Launch} {D : va_G} {cy : Nat → ClassId} {z0 : Nat} {sp : Nat → Nat} {G : State → Prop} {d : Nat} (hG : zz_GF z0 G) (hP : ∀ U, G U → zz_GD zS zS2 zLg z0 sp U) {p0 : Int32} (g0 : zpg (zpc p0 (Int32.ofNat 0))) (g1 : zpg (zpc p0 (Int32.ofNat 1))) (g2 : zpg (zpc p0 (Int32.ofNat 2))) (g3 : zpg (zpc p0 (Int32.ofNat 3))) : ∃ w', zz_M l zTs D zcl zFK cy z0 sp (zTys cy) G zYN zCN zMQ zRT (d + 1) 8 [.ref 0, .int p0] zW3 [.int (Int32.ofNat (0 + zpn (zpc p0 (Int32.ofNat 0)) + zpn (zpc p0 (Int32.ofNat 1)) + zpn (zpc p0 (Int32.ofNat 2)) + zpn (zpc p0 (Int32.ofNat 3))))] w' ∧ zPc (0 + zpn (zpc p0 (Int32.ofNat 0)) + zpn (zpc p0 (Int32.ofNat 1)) + zpn (zpc p0 (Int32.ofNat 2)) + zpn (zpc p0 (Int32.ofNat 3))) w' := by
  have b := zpC_0 (w := zW3) (p0 := p0) (d := d) (l := l) (D := D) (cy := cy) (z0 := z0) (sp := sp) (G := G) hG hP
  replace b := zz_B_tr b (zpC1 hG hP (by decide) rfl g0)
  replace b := zz_B_tr b (zpC1 hG hP (by decide) rfl g1)
  replace b := zz_B_tr b (zpC1 hG hP (by decide) rfl g2)
  replace b := zz_B_tr b (zpC1 hG hP (by decide) rfl g3)
  replace b := zz_B_tr b (zpC_4 hG hP)
  replace b := zz_B_tr b (zpC_1 hG hP (zpI_le _ (Nat.lt_succ_of_le zpC_sm)))
  have hw := zPc_0
  have a0 := zpn_le (zpc p0 (Int32.ofNat 0))
  have a1 := zpn_le (zpc p0 (Int32.ofNat 1))
  have a2 := zpn_le (zpc p0 (Int32.ofNat 2))
  have a3 := zpn_le (zpc p0 (Int32.ofNat 3))
  obtain ⟨w0, b0, hw0⟩ := zpC2 (c := zpc p0 (Int32.ofNat 0)) (d := d) (l := l) (D := D) (cy := cy) (sp := sp) hG hP hw (by omega) (by decide) rfl
  replace b := zz_B_tr b b0
  obtain ⟨w1, b1, hw1⟩ := zpC2 (c := zpc p0 (Int32.ofNat 1)) (d := d) (l := l) (D := D) (cy := cy) (sp := sp) hG hP hw0 (by omega) (by decide) rfl
  replace b := zz_B_tr b b1
  obtain ⟨w2, b2, hw2⟩ := zpC2 (c := zpc p0 (Int32.ofNat 2)) (d := d) (l := l) (D := D) (cy := cy) (sp := sp) hG hP hw1 (by omega) (by decide) rfl
  replace b := zz_B_tr b b2
  obtain ⟨w3, b3, hw3⟩ := zpC2 (c := zpc p0 (Int32.ofNat 3)) (d := d) (l := l) (D := D) (cy := cy) (sp := sp) hG hP hw2 (by omega) (by decide) rfl
  replace b := zz_B_tr b b3
  replace b := zz_B_tr b (zpC_e hG hP hw3)
  exact ⟨w3, zz_M_B rfl rfl rfl rfl rfl (by decide +kernel) (zz_lb rfl) (zz_lb rfl) (zz_end_i (zr_8.2.1 154 rfl).1) b, hw3⟩
theorem zXc_put {l : Launch} {D : va_G} {cy : Nat → ClassId} {z0 : Nat} {sp : Nat → Nat} {G : State → Prop} {d : Nat} (hG : zz_GF z0 G) (hP : ∀ U, G U → zz_GD zS zS2 zLg z0 sp U) (hl : l.stackTraces = false) (hE : ∀ U, G U → zGX z0 U) {p0 : Int32} (hg : ¬ (zpg (zpc p0 (Int32.ofNat 0)) ∧ zpg (zpc p0 (Int32.ofNat 1)) ∧ zpg (zpc p0 (Int32.ofNat 2)) ∧ zpg (zpc p0 (Int32.ofNat 3)))) : zz_MX l zTs D zcl zFK cy z0 sp (zTys cy) G zYN zCN zMQ zRT (d + 6) 8 [.ref 0, .int p0] zW3 "java/lang/IllegalArgumentException" (zz_pu zW3 (3, 14, 0, 0) 6) := by
  have b := zpC_0 (w := zW3) (p0 := p0) (d := d + 5) (l := l) (D := D) (cy := cy) (z0 := z0) (sp := sp) (G := G) hG hP
  by_cases g0 : zpg (zpc p0 (Int32.ofNat 0))
  case neg => exact zz_MX_B rfl rfl rfl rfl (by decide +kernel) (zz_lb rfl) (zz_TX_B b (zpC1_x hG hP hl hE (by decide) rfl g0))
  replace b := zz_B_tr b (zpC1 hG hP (by decide) rfl g0)
  by_cases g1 : zpg (zpc p0 (Int32.ofNat 1))
  case neg => exact zz_MX_B rfl rfl rfl rfl (by decide +kernel) (zz_lb rfl) (zz_TX_B b (zpC1_x hG hP hl hE (by decide) rfl g1))
  replace b := zz_B_tr b (zpC1 hG hP (by decide) rfl g1)
  by_cases g2 : zpg (zpc p0 (Int32.ofNat 2))
  case neg => exact zz_MX_B rfl rfl rfl rfl (by decide +kernel) (zz_lb rfl) (zz_TX_B b (zpC1_x hG hP hl hE (by decide) rfl g2))
  replace b := zz_B_tr b (zpC1 hG hP (by decide) rfl g2)
  by_cases g3 : zpg (zpc p0 (Int32.ofNat 3))
  case neg => exact zz_MX_B rfl rfl rfl rfl (by decide +kernel) (zz_lb rfl) (zz_TX_B b (zpC1_x hG hP hl hE (by decide) rfl g3))
  replace b := zz_B_tr b (zpC1 hG hP (by decide) rfl g3)
  exact absurd ⟨g0, g1, g2, g3⟩ hg
theorem zpR1_z {l : Launch} {D : va_G} {cy : Nat → ClassId} {z0 : Nat} {sp : Nat → Nat} {G : State → Prop} {d : Nat} (hG : zz_GF z0 G) (hP : ∀ U, G U → zz_GD zS zS2 zLg z0 sp U) {w : zz_W} {p0 c : Int32} {q j : Nat} (hi : ¬ Int32.ofNat 4 ≤ Int32.ofNat j) (hc : zpr p0 (Int32.ofNat j) = c) (hz : c = 0) (h0 : c ≤ 0) : zz_B l zTs D zcl zFK cy z0 sp (zTys cy) G "ToolMillModel" "put" 6 prog_14_method_5_code (d + 1) (7, [(0, .ref 171), (1, .int p0), (2, .int (Int32.ofNat q)), (3, .int (Int32.ofNat 1)), (4, .int (Int32.ofNat j))], [], w) (7, [(0, .ref 171), (1, .int p0), (2, .int (Int32.ofNat (q + 0))), (3, .int (Int32.ofNat 1)), (4, .int (Int32.ofNat (j + 1)))], [], w) := by
  have T := zt_28 (l := l) (D := D) (cy := cy) (z0 := z0) (sp := sp) (G := G) (d := (d + 1)) zz_k0_KS hG hP
  have TK := fun (K : zz_K) (h : zz_KS l D zcl zFK cy z0 sp (zTys cy) G zYN (fun y => Cond.code (zYN y) (zCN y) (zMQ y) (zRT y) :: zTs) (d + 1) K) => zt_28 h hG hP
  have b := zz_B_rf (l := l) (Ts := zTs) (D := D) (cl := zcl) (fk := zFK) (cy := cy) (z0 := z0) (sp := sp) (tys := zTys cy) (G := G) (own := "ToolMillModel") (mn := "put") (nL := 6) (cc := prog_14_method_5_code) (d := (d + 1)) ((7, [(0, .ref 171), (1, .int p0), (2, .int (Int32.ofNat q)), (3, .int (Int32.ofNat 1)), (4, .int (Int32.ofNat j))], [], w) : zz_F)
  replace b := zz_fw b T (rfl : zz_ent zP_28 7 = (0, za_iload 4 9)) (ze_iload rfl)
  replace b := zz_fw b T (rfl : zz_ent zP_28 9 = (0, za_const (.int (Int32.ofNat 4)) 10)) (ze_const)
  replace b := zz_fw b T (rfl : zz_ent zP_28 10 = (0, za_icmp_ge 79 13)) (ze_icmp_ge_f hi)
  replace b := zz_fw b T (rfl : zz_ent zP_28 13 = (0, za_iload 1 14)) (ze_iload rfl)
  replace b := zz_fw b T (rfl : zz_ent zP_28 14 = (0, za_const (.int (Int32.ofNat 8)) 16)) (ze_const)
  replace b := zz_fw b T (rfl : zz_ent zP_28 16 = (0, za_iload 4 18)) (ze_iload rfl)
  replace b := zz_fw b T (rfl : zz_ent zP_28 18 = (0, za_imul 19)) (ze_imul rfl)
  replace b := zz_fw b T (rfl : zz_ent zP_28 19 = (0, za_ishr 20)) (ze_ishr rfl)
  replace b := zz_fw b T (rfl : zz_ent zP_28 20 = (0, za_const (.int (Int32.ofNat 255)) 23)) (ze_const)
  replace b := zz_fw b T (rfl : zz_ent zP_28 23 = (0, za_iand 24)) (ze_iand hc)
  replace b := zz_fw b T (rfl : zz_ent zP_28 24 = (0, za_istore 5 26)) (ze_istore (lv' := [(0, _), (1, _), (2, _), (3, _), (4, _)]) rfl)
  replace b := zz_fw b T (rfl : zz_ent zP_28 26 = (0, za_iload 3 27)) (ze_iload rfl)
  replace b := zz_fw b T (rfl : zz_ent zP_28 27 = (0, za_if_eq 58 30)) (ze_if_eq_f (by decide))
  replace b := zz_fw b T (rfl : zz_ent zP_28 30 = (0, za_iload 5 32)) (ze_iload rfl)
  replace b := zz_fw b T (rfl : zz_ent zP_28 32 = (0, za_if_eq 54 35)) (ze_if_eq_t hz)
  replace b := zz_fw b T (rfl : zz_ent zP_28 54 = (0, za_const (.int (Int32.ofNat 1)) 55)) (ze_const)
  replace b := zz_fw b T (rfl : zz_ent zP_28 55 = (0, za_goto 59)) (ze_goto)
  replace b := zz_fw b T (rfl : zz_ent zP_28 59 = (0, za_istore 3 60)) (ze_istore (lv' := [(5, _), (0, _), (1, _), (2, _), (4, _)]) rfl)
  replace b := zz_fw b T (rfl : zz_ent zP_28 60 = (0, za_iload 5 62)) (ze_iload rfl)
  replace b := zz_fw b T (rfl : zz_ent zP_28 62 = (0, za_if_le 71 65)) (ze_if_le_t h0)
  replace b := zz_fw b T (rfl : zz_ent zP_28 71 = (0, za_iload 2 72)) (ze_iload rfl)
  replace b := zz_fw b T (rfl : zz_ent zP_28 72 = (0, za_istore 2 73)) (ze_istore (lv' := [(3, _), (5, _), (0, _), (1, _), (4, _)]) rfl)
  replace b := zz_fw b T (rfl : zz_ent zP_28 73 = (0, za_iinc 4 (Int32.ofNat 1) 76)) (ze_iinc (lv' := [(2, _), (3, _), (5, _), (0, _), (1, _)]) rfl (Int32.ofNat_add j 1).symm rfl)
  replace b := zz_fw b T (rfl : zz_ent zP_28 76 = (0, za_goto 7)) (ze_goto)
  replace b := zz_fl (lv' := [(0, .ref 171), (1, .int p0), (2, .int (Int32.ofNat (q + 0))), (3, .int (Int32.ofNat 1)), (4, .int (Int32.ofNat (j + 1)))]) b (zz_mc (List.mem_cons_of_mem _ (List.mem_cons_of_mem _ (List.mem_cons_of_mem _ (List.mem_cons_of_mem _ List.mem_cons_self)))) (zz_mc (List.mem_cons_of_mem _ (List.mem_cons_of_mem _ (List.mem_cons_of_mem _ (List.mem_cons_of_mem _ (List.mem_cons_of_mem _ List.mem_cons_self))))) (zz_mc (List.mem_cons_of_mem _ List.mem_cons_self) (zz_mc (List.mem_cons_of_mem _ (List.mem_cons_of_mem _ List.mem_cons_self)) (zz_mc List.mem_cons_self zz_mn)))))
  exact b
theorem zpR1_n {l : Launch} {D : va_G} {cy : Nat → ClassId} {z0 : Nat} {sp : Nat → Nat} {G : State → Prop} {d : Nat} (hG : zz_GF z0 G) (hP : ∀ U, G U → zz_GD zS zS2 zLg z0 sp U) {w : zz_W} {p0 c : Int32} {q j : Nat} (hi : ¬ Int32.ofNat 4 ≤ Int32.ofNat j) (hc : zpr p0 (Int32.ofNat j) = c) (hz : ¬ c = 0) (h1 : c = Int32.ofNat 10) (h4 : ¬ c ≤ 0) : zz_B l zTs D zcl zFK cy z0 sp (zTys cy) G "ToolMillModel" "put" 6 prog_14_method_5_code (d + 1) (7, [(0, .ref 171), (1, .int p0), (2, .int (Int32.ofNat q)), (3, .int (Int32.ofNat 1)), (4, .int (Int32.ofNat j))], [], w) (7, [(0, .ref 171), (1, .int p0), (2, .int (Int32.ofNat (q + 1))), (3, .int (Int32.ofNat 1)), (4, .int (Int32.ofNat (j + 1)))], [], w) := by
  have T := zt_28 (l := l) (D := D) (cy := cy) (z0 := z0) (sp := sp) (G := G) (d := (d + 1)) zz_k0_KS hG hP
  have TK := fun (K : zz_K) (h : zz_KS l D zcl zFK cy z0 sp (zTys cy) G zYN (fun y => Cond.code (zYN y) (zCN y) (zMQ y) (zRT y) :: zTs) (d + 1) K) => zt_28 h hG hP
  have b := zz_B_rf (l := l) (Ts := zTs) (D := D) (cl := zcl) (fk := zFK) (cy := cy) (z0 := z0) (sp := sp) (tys := zTys cy) (G := G) (own := "ToolMillModel") (mn := "put") (nL := 6) (cc := prog_14_method_5_code) (d := (d + 1)) ((7, [(0, .ref 171), (1, .int p0), (2, .int (Int32.ofNat q)), (3, .int (Int32.ofNat 1)), (4, .int (Int32.ofNat j))], [], w) : zz_F)
  replace b := zz_fw b T (rfl : zz_ent zP_28 7 = (0, za_iload 4 9)) (ze_iload rfl)
  replace b := zz_fw b T (rfl : zz_ent zP_28 9 = (0, za_const (.int (Int32.ofNat 4)) 10)) (ze_const)
  replace b := zz_fw b T (rfl : zz_ent zP_28 10 = (0, za_icmp_ge 79 13)) (ze_icmp_ge_f hi)
  replace b := zz_fw b T (rfl : zz_ent zP_28 13 = (0, za_iload 1 14)) (ze_iload rfl)
  replace b := zz_fw b T (rfl : zz_ent zP_28 14 = (0, za_const (.int (Int32.ofNat 8)) 16)) (ze_const)
  replace b := zz_fw b T (rfl : zz_ent zP_28 16 = (0, za_iload 4 18)) (ze_iload rfl)
  replace b := zz_fw b T (rfl : zz_ent zP_28 18 = (0, za_imul 19)) (ze_imul rfl)
  replace b := zz_fw b T (rfl : zz_ent zP_28 19 = (0, za_ishr 20)) (ze_ishr rfl)
  replace b := zz_fw b T (rfl : zz_ent zP_28 20 = (0, za_const (.int (Int32.ofNat 255)) 23)) (ze_const)
  replace b := zz_fw b T (rfl : zz_ent zP_28 23 = (0, za_iand 24)) (ze_iand hc)
  replace b := zz_fw b T (rfl : zz_ent zP_28 24 = (0, za_istore 5 26)) (ze_istore (lv' := [(0, _), (1, _), (2, _), (3, _), (4, _)]) rfl)
  replace b := zz_fw b T (rfl : zz_ent zP_28 26 = (0, za_iload 3 27)) (ze_iload rfl)
  replace b := zz_fw b T (rfl : zz_ent zP_28 27 = (0, za_if_eq 58 30)) (ze_if_eq_f (by decide))
  replace b := zz_fw b T (rfl : zz_ent zP_28 30 = (0, za_iload 5 32)) (ze_iload rfl)
  replace b := zz_fw b T (rfl : zz_ent zP_28 32 = (0, za_if_eq 54 35)) (ze_if_eq_f hz)
  replace b := zz_fw b T (rfl : zz_ent zP_28 35 = (0, za_iload 5 37)) (ze_iload rfl)
  replace b := zz_fw b T (rfl : zz_ent zP_28 37 = (0, za_const (.int (Int32.ofNat 10)) 39)) (ze_const)
  replace b := zz_fw b T (rfl : zz_ent zP_28 39 = (0, za_icmp_eq 54 42)) (ze_icmp_eq_t h1)
  replace b := zz_fw b T (rfl : zz_ent zP_28 54 = (0, za_const (.int (Int32.ofNat 1)) 55)) (ze_const)
  replace b := zz_fw b T (rfl : zz_ent zP_28 55 = (0, za_goto 59)) (ze_goto)
  replace b := zz_fw b T (rfl : zz_ent zP_28 59 = (0, za_istore 3 60)) (ze_istore (lv' := [(5, _), (0, _), (1, _), (2, _), (4, _)]) rfl)
  replace b := zz_fw b T (rfl : zz_ent zP_28 60 = (0, za_iload 5 62)) (ze_iload rfl)
  replace b := zz_fw b T (rfl : zz_ent zP_28 62 = (0, za_if_le 71 65)) (ze_if_le_f h4)
  replace b := zz_fw b T (rfl : zz_ent zP_28 65 = (0, za_iload 2 66)) (ze_iload rfl)
  replace b := zz_fw b T (rfl : zz_ent zP_28 66 = (0, za_const (.int (Int32.ofNat 1)) 67)) (ze_const)
  replace b := zz_fw b T (rfl : zz_ent zP_28 67 = (0, za_iadd 68)) (ze_iadd (Int32.ofNat_add q 1).symm)
  replace b := zz_fw b T (rfl : zz_ent zP_28 68 = (0, za_goto 72)) (ze_goto)
  replace b := zz_fw b T (rfl : zz_ent zP_28 72 = (0, za_istore 2 73)) (ze_istore (lv' := [(3, _), (5, _), (0, _), (1, _), (4, _)]) rfl)
  replace b := zz_fw b T (rfl : zz_ent zP_28 73 = (0, za_iinc 4 (Int32.ofNat 1) 76)) (ze_iinc (lv' := [(2, _), (3, _), (5, _), (0, _), (1, _)]) rfl (Int32.ofNat_add j 1).symm rfl)
  replace b := zz_fw b T (rfl : zz_ent zP_28 76 = (0, za_goto 7)) (ze_goto)
  replace b := zz_fl (lv' := [(0, .ref 171), (1, .int p0), (2, .int (Int32.ofNat (q + 1))), (3, .int (Int32.ofNat 1)), (4, .int (Int32.ofNat (j + 1)))]) b (zz_mc (List.mem_cons_of_mem _ (List.mem_cons_of_mem _ (List.mem_cons_of_mem _ (List.mem_cons_of_mem _ List.mem_cons_self)))) (zz_mc (List.mem_cons_of_mem _ (List.mem_cons_of_mem _ (List.mem_cons_of_mem _ (List.mem_cons_of_mem _ (List.mem_cons_of_mem _ List.mem_cons_self))))) (zz_mc (List.mem_cons_of_mem _ List.mem_cons_self) (zz_mc (List.mem_cons_of_mem _ (List.mem_cons_of_mem _ List.mem_cons_self)) (zz_mc List.mem_cons_self zz_mn)))))
  exact b
theorem zpR1_r {l : Launch} {D : va_G} {cy : Nat → ClassId} {z0 : Nat} {sp : Nat → Nat} {G : State → Prop} {d : Nat} (hG : zz_GF z0 G) (hP : ∀ U, G U → zz_GD zS zS2 zLg z0 sp U) {w : zz_W} {p0 c : Int32} {q j : Nat} (hi : ¬ Int32.ofNat 4 ≤ Int32.ofNat j) (hc : zpr p0 (Int32.ofNat j) = c) (hz : ¬ c = 0) (h1 : ¬ c = Int32.ofNat 10) (h2 : ¬ c < Int32.ofNat 32) (h3 : ¬ Int32.ofNat 126 < c) (h4 : ¬ c ≤ 0) : zz_B l zTs D zcl zFK cy z0 sp (zTys cy) G "ToolMillModel" "put" 6 prog_14_method_5_code (d + 1) (7, [(0, .ref 171), (1, .int p0), (2, .int (Int32.ofNat q)), (3, .int (Int32.ofNat 1)), (4, .int (Int32.ofNat j))], [], w) (7, [(0, .ref 171), (1, .int p0), (2, .int (Int32.ofNat (q + 1))), (3, .int (Int32.ofNat 1)), (4, .int (Int32.ofNat (j + 1)))], [], w) := by
  have T := zt_28 (l := l) (D := D) (cy := cy) (z0 := z0) (sp := sp) (G := G) (d := (d + 1)) zz_k0_KS hG hP
  have TK := fun (K : zz_K) (h : zz_KS l D zcl zFK cy z0 sp (zTys cy) G zYN (fun y => Cond.code (zYN y) (zCN y) (zMQ y) (zRT y) :: zTs) (d + 1) K) => zt_28 h hG hP
  have b := zz_B_rf (l := l) (Ts := zTs) (D := D) (cl := zcl) (fk := zFK) (cy := cy) (z0 := z0) (sp := sp) (tys := zTys cy) (G := G) (own := "ToolMillModel") (mn := "put") (nL := 6) (cc := prog_14_method_5_code) (d := (d + 1)) ((7, [(0, .ref 171), (1, .int p0), (2, .int (Int32.ofNat q)), (3, .int (Int32.ofNat 1)), (4, .int (Int32.ofNat j))], [], w) : zz_F)
  replace b := zz_fw b T (rfl : zz_ent zP_28 7 = (0, za_iload 4 9)) (ze_iload rfl)
  replace b := zz_fw b T (rfl : zz_ent zP_28 9 = (0, za_const (.int (Int32.ofNat 4)) 10)) (ze_const)
  replace b := zz_fw b T (rfl : zz_ent zP_28 10 = (0, za_icmp_ge 79 13)) (ze_icmp_ge_f hi)
  replace b := zz_fw b T (rfl : zz_ent zP_28 13 = (0, za_iload 1 14)) (ze_iload rfl)
  replace b := zz_fw b T (rfl : zz_ent zP_28 14 = (0, za_const (.int (Int32.ofNat 8)) 16)) (ze_const)
  replace b := zz_fw b T (rfl : zz_ent zP_28 16 = (0, za_iload 4 18)) (ze_iload rfl)
  replace b := zz_fw b T (rfl : zz_ent zP_28 18 = (0, za_imul 19)) (ze_imul rfl)
  replace b := zz_fw b T (rfl : zz_ent zP_28 19 = (0, za_ishr 20)) (ze_ishr rfl)
  replace b := zz_fw b T (rfl : zz_ent zP_28 20 = (0, za_const (.int (Int32.ofNat 255)) 23)) (ze_const)
  replace b := zz_fw b T (rfl : zz_ent zP_28 23 = (0, za_iand 24)) (ze_iand hc)
  replace b := zz_fw b T (rfl : zz_ent zP_28 24 = (0, za_istore 5 26)) (ze_istore (lv' := [(0, _), (1, _), (2, _), (3, _), (4, _)]) rfl)
  replace b := zz_fw b T (rfl : zz_ent zP_28 26 = (0, za_iload 3 27)) (ze_iload rfl)
  replace b := zz_fw b T (rfl : zz_ent zP_28 27 = (0, za_if_eq 58 30)) (ze_if_eq_f (by decide))
  replace b := zz_fw b T (rfl : zz_ent zP_28 30 = (0, za_iload 5 32)) (ze_iload rfl)
  replace b := zz_fw b T (rfl : zz_ent zP_28 32 = (0, za_if_eq 54 35)) (ze_if_eq_f hz)
  replace b := zz_fw b T (rfl : zz_ent zP_28 35 = (0, za_iload 5 37)) (ze_iload rfl)
  replace b := zz_fw b T (rfl : zz_ent zP_28 37 = (0, za_const (.int (Int32.ofNat 10)) 39)) (ze_const)
  replace b := zz_fw b T (rfl : zz_ent zP_28 39 = (0, za_icmp_eq 54 42)) (ze_icmp_eq_f h1)
  replace b := zz_fw b T (rfl : zz_ent zP_28 42 = (0, za_iload 5 44)) (ze_iload rfl)
  replace b := zz_fw b T (rfl : zz_ent zP_28 44 = (0, za_const (.int (Int32.ofNat 32)) 46)) (ze_const)
  replace b := zz_fw b T (rfl : zz_ent zP_28 46 = (0, za_const (.int (Int32.ofNat 126)) 48)) (ze_const)
  replace b := zz_fSi b TK (rfl : zz_ent zP_28 48 = (0, za_callS 80 3 51)) (zM_in_k hG hP h2 h3) rfl rfl (zz_lb rfl)
  replace b := zz_fw b T (rfl : zz_ent zP_28 51 = (0, za_if_eq 58 54)) (ze_if_eq_f (by decide))
  replace b := zz_fw b T (rfl : zz_ent zP_28 54 = (0, za_const (.int (Int32.ofNat 1)) 55)) (ze_const)
  replace b := zz_fw b T (rfl : zz_ent zP_28 55 = (0, za_goto 59)) (ze_goto)
  replace b := zz_fw b T (rfl : zz_ent zP_28 59 = (0, za_istore 3 60)) (ze_istore (lv' := [(5, _), (0, _), (1, _), (2, _), (4, _)]) rfl)
  replace b := zz_fw b T (rfl : zz_ent zP_28 60 = (0, za_iload 5 62)) (ze_iload rfl)
  replace b := zz_fw b T (rfl : zz_ent zP_28 62 = (0, za_if_le 71 65)) (ze_if_le_f h4)
  replace b := zz_fw b T (rfl : zz_ent zP_28 65 = (0, za_iload 2 66)) (ze_iload rfl)
  replace b := zz_fw b T (rfl : zz_ent zP_28 66 = (0, za_const (.int (Int32.ofNat 1)) 67)) (ze_const)
  replace b := zz_fw b T (rfl : zz_ent zP_28 67 = (0, za_iadd 68)) (ze_iadd (Int32.ofNat_add q 1).symm)
  replace b := zz_fw b T (rfl : zz_ent zP_28 68 = (0, za_goto 72)) (ze_goto)
  replace b := zz_fw b T (rfl : zz_ent zP_28 72 = (0, za_istore 2 73)) (ze_istore (lv' := [(3, _), (5, _), (0, _), (1, _), (4, _)]) rfl)
  replace b := zz_fw b T (rfl : zz_ent zP_28 73 = (0, za_iinc 4 (Int32.ofNat 1) 76)) (ze_iinc (lv' := [(2, _), (3, _), (5, _), (0, _), (1, _)]) rfl (Int32.ofNat_add j 1).symm rfl)
  replace b := zz_fw b T (rfl : zz_ent zP_28 76 = (0, za_goto 7)) (ze_goto)
  replace b := zz_fl (lv' := [(0, .ref 171), (1, .int p0), (2, .int (Int32.ofNat (q + 1))), (3, .int (Int32.ofNat 1)), (4, .int (Int32.ofNat (j + 1)))]) b (zz_mc (List.mem_cons_of_mem _ (List.mem_cons_of_mem _ (List.mem_cons_of_mem _ (List.mem_cons_of_mem _ List.mem_cons_self)))) (zz_mc (List.mem_cons_of_mem _ (List.mem_cons_of_mem _ (List.mem_cons_of_mem _ (List.mem_cons_of_mem _ (List.mem_cons_of_mem _ List.mem_cons_self))))) (zz_mc (List.mem_cons_of_mem _ List.mem_cons_self) (zz_mc (List.mem_cons_of_mem _ (List.mem_cons_of_mem _ List.mem_cons_self)) (zz_mc List.mem_cons_self zz_mn)))))
  exact b
theorem zpR1_x {l : Launch} {D : va_G} {cy : Nat → ClassId} {z0 : Nat} {sp : Nat → Nat} {G : State → Prop} {d : Nat} (hG : zz_GF z0 G) (hP : ∀ U, G U → zz_GD zS zS2 zLg z0 sp U) {w : zz_W} {p0 c : Int32} {q j : Nat} (hi : ¬ Int32.ofNat 4 ≤ Int32.ofNat j) (hc : zpr p0 (Int32.ofNat j) = c) (hz : ¬ c = 0) (h1 : ¬ c = Int32.ofNat 10) (h2 : c < Int32.ofNat 32 ∨ Int32.ofNat 126 < c) (h4 : ¬ c ≤ 0) : zz_B l zTs D zcl zFK cy z0 sp (zTys cy) G "ToolMillModel" "put" 6 prog_14_method_5_code (d + 1) (7, [(0, .ref 171), (1, .int p0), (2, .int (Int32.ofNat q)), (3, .int (Int32.ofNat 1)), (4, .int (Int32.ofNat j))], [], w) (7, [(0, .ref 171), (1, .int p0), (2, .int (Int32.ofNat (q + 1))), (3, .int (Int32.ofNat 0)), (4, .int (Int32.ofNat (j + 1)))], [], w) := by
  have T := zt_28 (l := l) (D := D) (cy := cy) (z0 := z0) (sp := sp) (G := G) (d := (d + 1)) zz_k0_KS hG hP
  have TK := fun (K : zz_K) (h : zz_KS l D zcl zFK cy z0 sp (zTys cy) G zYN (fun y => Cond.code (zYN y) (zCN y) (zMQ y) (zRT y) :: zTs) (d + 1) K) => zt_28 h hG hP
  have b := zz_B_rf (l := l) (Ts := zTs) (D := D) (cl := zcl) (fk := zFK) (cy := cy) (z0 := z0) (sp := sp) (tys := zTys cy) (G := G) (own := "ToolMillModel") (mn := "put") (nL := 6) (cc := prog_14_method_5_code) (d := (d + 1)) ((7, [(0, .ref 171), (1, .int p0), (2, .int (Int32.ofNat q)), (3, .int (Int32.ofNat 1)), (4, .int (Int32.ofNat j))], [], w) : zz_F)
  replace b := zz_fw b T (rfl : zz_ent zP_28 7 = (0, za_iload 4 9)) (ze_iload rfl)
  replace b := zz_fw b T (rfl : zz_ent zP_28 9 = (0, za_const (.int (Int32.ofNat 4)) 10)) (ze_const)
  replace b := zz_fw b T (rfl : zz_ent zP_28 10 = (0, za_icmp_ge 79 13)) (ze_icmp_ge_f hi)
  replace b := zz_fw b T (rfl : zz_ent zP_28 13 = (0, za_iload 1 14)) (ze_iload rfl)
  replace b := zz_fw b T (rfl : zz_ent zP_28 14 = (0, za_const (.int (Int32.ofNat 8)) 16)) (ze_const)
  replace b := zz_fw b T (rfl : zz_ent zP_28 16 = (0, za_iload 4 18)) (ze_iload rfl)
  replace b := zz_fw b T (rfl : zz_ent zP_28 18 = (0, za_imul 19)) (ze_imul rfl)
  replace b := zz_fw b T (rfl : zz_ent zP_28 19 = (0, za_ishr 20)) (ze_ishr rfl)
  replace b := zz_fw b T (rfl : zz_ent zP_28 20 = (0, za_const (.int (Int32.ofNat 255)) 23)) (ze_const)
  replace b := zz_fw b T (rfl : zz_ent zP_28 23 = (0, za_iand 24)) (ze_iand hc)
  replace b := zz_fw b T (rfl : zz_ent zP_28 24 = (0, za_istore 5 26)) (ze_istore (lv' := [(0, _), (1, _), (2, _), (3, _), (4, _)]) rfl)
  replace b := zz_fw b T (rfl : zz_ent zP_28 26 = (0, za_iload 3 27)) (ze_iload rfl)
  replace b := zz_fw b T (rfl : zz_ent zP_28 27 = (0, za_if_eq 58 30)) (ze_if_eq_f (by decide))
  replace b := zz_fw b T (rfl : zz_ent zP_28 30 = (0, za_iload 5 32)) (ze_iload rfl)
  replace b := zz_fw b T (rfl : zz_ent zP_28 32 = (0, za_if_eq 54 35)) (ze_if_eq_f hz)
  replace b := zz_fw b T (rfl : zz_ent zP_28 35 = (0, za_iload 5 37)) (ze_iload rfl)
  replace b := zz_fw b T (rfl : zz_ent zP_28 37 = (0, za_const (.int (Int32.ofNat 10)) 39)) (ze_const)
  replace b := zz_fw b T (rfl : zz_ent zP_28 39 = (0, za_icmp_eq 54 42)) (ze_icmp_eq_f h1)
  replace b := zz_fw b T (rfl : zz_ent zP_28 42 = (0, za_iload 5 44)) (ze_iload rfl)
  replace b := zz_fw b T (rfl : zz_ent zP_28 44 = (0, za_const (.int (Int32.ofNat 32)) 46)) (ze_const)
  replace b := zz_fw b T (rfl : zz_ent zP_28 46 = (0, za_const (.int (Int32.ofNat 126)) 48)) (ze_const)
  replace b := zz_fSi b TK (rfl : zz_ent zP_28 48 = (0, za_callS 80 3 51)) (zM_in_n hG hP h2) rfl rfl (zz_lb rfl)
  replace b := zz_fw b T (rfl : zz_ent zP_28 51 = (0, za_if_eq 58 54)) (ze_if_eq_t (by decide))
  replace b := zz_fw b T (rfl : zz_ent zP_28 58 = (0, za_const (.int (Int32.ofNat 0)) 59)) (ze_const)
  replace b := zz_fw b T (rfl : zz_ent zP_28 59 = (0, za_istore 3 60)) (ze_istore (lv' := [(5, _), (0, _), (1, _), (2, _), (4, _)]) rfl)
  replace b := zz_fw b T (rfl : zz_ent zP_28 60 = (0, za_iload 5 62)) (ze_iload rfl)
  replace b := zz_fw b T (rfl : zz_ent zP_28 62 = (0, za_if_le 71 65)) (ze_if_le_f h4)
  replace b := zz_fw b T (rfl : zz_ent zP_28 65 = (0, za_iload 2 66)) (ze_iload rfl)
  replace b := zz_fw b T (rfl : zz_ent zP_28 66 = (0, za_const (.int (Int32.ofNat 1)) 67)) (ze_const)
  replace b := zz_fw b T (rfl : zz_ent zP_28 67 = (0, za_iadd 68)) (ze_iadd (Int32.ofNat_add q 1).symm)
  replace b := zz_fw b T (rfl : zz_ent zP_28 68 = (0, za_goto 72)) (ze_goto)
  replace b := zz_fw b T (rfl : zz_ent zP_28 72 = (0, za_istore 2 73)) (ze_istore (lv' := [(3, _), (5, _), (0, _), (1, _), (4, _)]) rfl)
  replace b := zz_fw b T (rfl : zz_ent zP_28 73 = (0, za_iinc 4 (Int32.ofNat 1) 76)) (ze_iinc (lv' := [(2, _), (3, _), (5, _), (0, _), (1, _)]) rfl (Int32.ofNat_add j 1).symm rfl)
  replace b := zz_fw b T (rfl : zz_ent zP_28 76 = (0, za_goto 7)) (ze_goto)
  replace b := zz_fl (lv' := [(0, .ref 171), (1, .int p0), (2, .int (Int32.ofNat (q + 1))), (3, .int (Int32.ofNat 0)), (4, .int (Int32.ofNat (j + 1)))]) b (zz_mc (List.mem_cons_of_mem _ (List.mem_cons_of_mem _ (List.mem_cons_of_mem _ (List.mem_cons_of_mem _ List.mem_cons_self)))) (zz_mc (List.mem_cons_of_mem _ (List.mem_cons_of_mem _ (List.mem_cons_of_mem _ (List.mem_cons_of_mem _ (List.mem_cons_of_mem _ List.mem_cons_self))))) (zz_mc (List.mem_cons_of_mem _ List.mem_cons_self) (zz_mc (List.mem_cons_of_mem _ (List.mem_cons_of_mem _ List.mem_cons_self)) (zz_mc List.mem_cons_self zz_mn)))))
  exact b
theorem zpR1_0 {l : Launch} {D : va_G} {cy : Nat → ClassId} {z0 : Nat} {sp : Nat → Nat} {G : State → Prop} {d : Nat} (hG : zz_GF z0 G) (hP : ∀ U, G U → zz_GD zS zS2 zLg z0 sp U) {w : zz_W} {p0 c : Int32} {q j : Nat} (hi : ¬ Int32.ofNat 4 ≤ Int32.ofNat j) (hc : zpr p0 (Int32.ofNat j) = c) (h0 : c ≤ 0) : zz_B l zTs D zcl zFK cy z0 sp (zTys cy) G "ToolMillModel" "put" 6 prog_14_method_5_code (d + 1) (7, [(0, .ref 171), (1, .int p0), (2, .int (Int32.ofNat q)), (3, .int (Int32.ofNat 0)), (4, .int (Int32.ofNat j))], [], w) (7, [(0, .ref 171), (1, .int p0), (2, .int (Int32.ofNat (q + 0))), (3, .int (Int32.ofNat 0)), (4, .int (Int32.ofNat (j + 1)))], [], w) := by
  have T := zt_28 (l := l) (D := D) (cy := cy) (z0 := z0) (sp := sp) (G := G) (d := (d + 1)) zz_k0_KS hG hP
  have TK := fun (K : zz_K) (h : zz_KS l D zcl zFK cy z0 sp (zTys cy) G zYN (fun y => Cond.code (zYN y) (zCN y) (zMQ y) (zRT y) :: zTs) (d + 1) K) => zt_28 h hG hP
  have b := zz_B_rf (l := l) (Ts := zTs) (D := D) (cl := zcl) (fk := zFK) (cy := cy) (z0 := z0) (sp := sp) (tys := zTys cy) (G := G) (own := "ToolMillModel") (mn := "put") (nL := 6) (cc := prog_14_method_5_code) (d := (d + 1)) ((7, [(0, .ref 171), (1, .int p0), (2, .int (Int32.ofNat q)), (3, .int (Int32.ofNat 0)), (4, .int (Int32.ofNat j))], [], w) : zz_F)
  replace b := zz_fw b T (rfl : zz_ent zP_28 7 = (0, za_iload 4 9)) (ze_iload rfl)
  replace b := zz_fw b T (rfl : zz_ent zP_28 9 = (0, za_const (.int (Int32.ofNat 4)) 10)) (ze_const)
  replace b := zz_fw b T (rfl : zz_ent zP_28 10 = (0, za_icmp_ge 79 13)) (ze_icmp_ge_f hi)
  replace b := zz_fw b T (rfl : zz_ent zP_28 13 = (0, za_iload 1 14)) (ze_iload rfl)
  replace b := zz_fw b T (rfl : zz_ent zP_28 14 = (0, za_const (.int (Int32.ofNat 8)) 16)) (ze_const)
  replace b := zz_fw b T (rfl : zz_ent zP_28 16 = (0, za_iload 4 18)) (ze_iload rfl)
  replace b := zz_fw b T (rfl : zz_ent zP_28 18 = (0, za_imul 19)) (ze_imul rfl)
  replace b := zz_fw b T (rfl : zz_ent zP_28 19 = (0, za_ishr 20)) (ze_ishr rfl)
  replace b := zz_fw b T (rfl : zz_ent zP_28 20 = (0, za_const (.int (Int32.ofNat 255)) 23)) (ze_const)
  replace b := zz_fw b T (rfl : zz_ent zP_28 23 = (0, za_iand 24)) (ze_iand hc)
  replace b := zz_fw b T (rfl : zz_ent zP_28 24 = (0, za_istore 5 26)) (ze_istore (lv' := [(0, _), (1, _), (2, _), (3, _), (4, _)]) rfl)
  replace b := zz_fw b T (rfl : zz_ent zP_28 26 = (0, za_iload 3 27)) (ze_iload rfl)
  replace b := zz_fw b T (rfl : zz_ent zP_28 27 = (0, za_if_eq 58 30)) (ze_if_eq_t (by decide))
  replace b := zz_fw b T (rfl : zz_ent zP_28 58 = (0, za_const (.int (Int32.ofNat 0)) 59)) (ze_const)
  replace b := zz_fw b T (rfl : zz_ent zP_28 59 = (0, za_istore 3 60)) (ze_istore (lv' := [(5, _), (0, _), (1, _), (2, _), (4, _)]) rfl)
  replace b := zz_fw b T (rfl : zz_ent zP_28 60 = (0, za_iload 5 62)) (ze_iload rfl)
  replace b := zz_fw b T (rfl : zz_ent zP_28 62 = (0, za_if_le 71 65)) (ze_if_le_t h0)
  replace b := zz_fw b T (rfl : zz_ent zP_28 71 = (0, za_iload 2 72)) (ze_iload rfl)
  replace b := zz_fw b T (rfl : zz_ent zP_28 72 = (0, za_istore 2 73)) (ze_istore (lv' := [(3, _), (5, _), (0, _), (1, _), (4, _)]) rfl)
  replace b := zz_fw b T (rfl : zz_ent zP_28 73 = (0, za_iinc 4 (Int32.ofNat 1) 76)) (ze_iinc (lv' := [(2, _), (3, _), (5, _), (0, _), (1, _)]) rfl (Int32.ofNat_add j 1).symm rfl)
  replace b := zz_fw b T (rfl : zz_ent zP_28 76 = (0, za_goto 7)) (ze_goto)
  replace b := zz_fl (lv' := [(0, .ref 171), (1, .int p0), (2, .int (Int32.ofNat (q + 0))), (3, .int (Int32.ofNat 0)), (4, .int (Int32.ofNat (j + 1)))]) b (zz_mc (List.mem_cons_of_mem _ (List.mem_cons_of_mem _ (List.mem_cons_of_mem _ (List.mem_cons_of_mem _ List.mem_cons_self)))) (zz_mc (List.mem_cons_of_mem _ (List.mem_cons_of_mem _ (List.mem_cons_of_mem _ (List.mem_cons_of_mem _ (List.mem_cons_of_mem _ List.mem_cons_self))))) (zz_mc (List.mem_cons_of_mem _ List.mem_cons_self) (zz_mc (List.mem_cons_of_mem _ (List.mem_cons_of_mem _ List.mem_cons_self)) (zz_mc List.mem_cons_self zz_mn)))))
  exact b
theorem zpR1_1 {l : Launch} {D : va_G} {cy : Nat → ClassId} {z0 : Nat} {sp : Nat → Nat} {G : State → Prop} {d : Nat} (hG : zz_GF z0 G) (hP : ∀ U, G U → zz_GD zS zS2 zLg z0 sp U) {w : zz_W} {p0 c : Int32} {q j : Nat} (hi : ¬ Int32.ofNat 4 ≤ Int32.ofNat j) (hc : zpr p0 (Int32.ofNat j) = c) (h4 : ¬ c ≤ 0) : zz_B l zTs D zcl zFK cy z0 sp (zTys cy) G "ToolMillModel" "put" 6 prog_14_method_5_code (d + 1) (7, [(0, .ref 171), (1, .int p0), (2, .int (Int32.ofNat q)), (3, .int (Int32.ofNat 0)), (4, .int (Int32.ofNat j))], [], w) (7, [(0, .ref 171), (1, .int p0), (2, .int (Int32.ofNat (q + 1))), (3, .int (Int32.ofNat 0)), (4, .int (Int32.ofNat (j + 1)))], [], w) := by
  have T := zt_28 (l := l) (D := D) (cy := cy) (z0 := z0) (sp := sp) (G := G) (d := (d + 1)) zz_k0_KS hG hP
  have TK := fun (K : zz_K) (h : zz_KS l D zcl zFK cy z0 sp (zTys cy) G zYN (fun y => Cond.code (zYN y) (zCN y) (zMQ y) (zRT y) :: zTs) (d + 1) K) => zt_28 h hG hP
  have b := zz_B_rf (l := l) (Ts := zTs) (D := D) (cl := zcl) (fk := zFK) (cy := cy) (z0 := z0) (sp := sp) (tys := zTys cy) (G := G) (own := "ToolMillModel") (mn := "put") (nL := 6) (cc := prog_14_method_5_code) (d := (d + 1)) ((7, [(0, .ref 171), (1, .int p0), (2, .int (Int32.ofNat q)), (3, .int (Int32.ofNat 0)), (4, .int (Int32.ofNat j))], [], w) : zz_F)
  replace b := zz_fw b T (rfl : zz_ent zP_28 7 = (0, za_iload 4 9)) (ze_iload rfl)
  replace b := zz_fw b T (rfl : zz_ent zP_28 9 = (0, za_const (.int (Int32.ofNat 4)) 10)) (ze_const)
  replace b := zz_fw b T (rfl : zz_ent zP_28 10 = (0, za_icmp_ge 79 13)) (ze_icmp_ge_f hi)
  replace b := zz_fw b T (rfl : zz_ent zP_28 13 = (0, za_iload 1 14)) (ze_iload rfl)
  replace b := zz_fw b T (rfl : zz_ent zP_28 14 = (0, za_const (.int (Int32.ofNat 8)) 16)) (ze_const)
  replace b := zz_fw b T (rfl : zz_ent zP_28 16 = (0, za_iload 4 18)) (ze_iload rfl)
  replace b := zz_fw b T (rfl : zz_ent zP_28 18 = (0, za_imul 19)) (ze_imul rfl)
  replace b := zz_fw b T (rfl : zz_ent zP_28 19 = (0, za_ishr 20)) (ze_ishr rfl)
  replace b := zz_fw b T (rfl : zz_ent zP_28 20 = (0, za_const (.int (Int32.ofNat 255)) 23)) (ze_const)
  replace b := zz_fw b T (rfl : zz_ent zP_28 23 = (0, za_iand 24)) (ze_iand hc)
  replace b := zz_fw b T (rfl : zz_ent zP_28 24 = (0, za_istore 5 26)) (ze_istore (lv' := [(0, _), (1, _), (2, _), (3, _), (4, _)]) rfl)
  replace b := zz_fw b T (rfl : zz_ent zP_28 26 = (0, za_iload 3 27)) (ze_iload rfl)
  replace b := zz_fw b T (rfl : zz_ent zP_28 27 = (0, za_if_eq 58 30)) (ze_if_eq_t (by decide))
  replace b := zz_fw b T (rfl : zz_ent zP_28 58 = (0, za_const (.int (Int32.ofNat 0)) 59)) (ze_const)
  replace b := zz_fw b T (rfl : zz_ent zP_28 59 = (0, za_istore 3 60)) (ze_istore (lv' := [(5, _), (0, _), (1, _), (2, _), (4, _)]) rfl)
  replace b := zz_fw b T (rfl : zz_ent zP_28 60 = (0, za_iload 5 62)) (ze_iload rfl)
  replace b := zz_fw b T (rfl : zz_ent zP_28 62 = (0, za_if_le 71 65)) (ze_if_le_f h4)
  replace b := zz_fw b T (rfl : zz_ent zP_28 65 = (0, za_iload 2 66)) (ze_iload rfl)
  replace b := zz_fw b T (rfl : zz_ent zP_28 66 = (0, za_const (.int (Int32.ofNat 1)) 67)) (ze_const)
  replace b := zz_fw b T (rfl : zz_ent zP_28 67 = (0, za_iadd 68)) (ze_iadd (Int32.ofNat_add q 1).symm)
  replace b := zz_fw b T (rfl : zz_ent zP_28 68 = (0, za_goto 72)) (ze_goto)
  replace b := zz_fw b T (rfl : zz_ent zP_28 72 = (0, za_istore 2 73)) (ze_istore (lv' := [(3, _), (5, _), (0, _), (1, _), (4, _)]) rfl)
  replace b := zz_fw b T (rfl : zz_ent zP_28 73 = (0, za_iinc 4 (Int32.ofNat 1) 76)) (ze_iinc (lv' := [(2, _), (3, _), (5, _), (0, _), (1, _)]) rfl (Int32.ofNat_add j 1).symm rfl)
  replace b := zz_fw b T (rfl : zz_ent zP_28 76 = (0, za_goto 7)) (ze_goto)
  replace b := zz_fl (lv' := [(0, .ref 171), (1, .int p0), (2, .int (Int32.ofNat (q + 1))), (3, .int (Int32.ofNat 0)), (4, .int (Int32.ofNat (j + 1)))]) b (zz_mc (List.mem_cons_of_mem _ (List.mem_cons_of_mem _ (List.mem_cons_of_mem _ (List.mem_cons_of_mem _ List.mem_cons_self)))) (zz_mc (List.mem_cons_of_mem _ (List.mem_cons_of_mem _ (List.mem_cons_of_mem _ (List.mem_cons_of_mem _ (List.mem_cons_of_mem _ List.mem_cons_self))))) (zz_mc (List.mem_cons_of_mem _ List.mem_cons_self) (zz_mc (List.mem_cons_of_mem _ (List.mem_cons_of_mem _ List.mem_cons_self)) (zz_mc List.mem_cons_self zz_mn)))))
  exact b
theorem zpr_nn (p i : Int32) : ¬ zpr p i < 0 := by
  unfold zpr
  rw [Int32.lt_iff_toInt_lt]
  have h : ((p >>> ((Int32.ofNat 8 * i) &&& 31)) &&& Int32.ofNat 255).toBitVec.toNat < 256 := by
    rw [Int32.toBitVec_and, BitVec.toNat_and]
    exact Nat.lt_of_le_of_lt Nat.and_le_right (by decide)
  show ¬ ((p >>> ((Int32.ofNat 8 * i) &&& 31)) &&& Int32.ofNat 255).toBitVec.toInt < 0
  rw [BitVec.toInt_eq_toNat_of_lt (by omega)]
  omega
theorem zpr_le {p i c : Int32} (hc : zpr p i = c) (h : ¬ c = 0) : ¬ c ≤ 0 := fun h2 => by
  have h1 := zpr_nn p i
  rw [hc] at h1
  rw [Int32.lt_iff_toInt_lt] at h1
  rw [Int32.le_iff_toInt_le] at h2
  exact h (Int32.toInt_inj.mp (by omega))
theorem zpr_l0 {c : Int32} (h : c = 0) : c ≤ 0 := by subst h; decide
theorem zpR1 {l : Launch} {D : va_G} {cy : Nat → ClassId} {z0 : Nat} {sp : Nat → Nat} {G : State → Prop} {d : Nat} (hG : zz_GF z0 G) (hP : ∀ U, G U → zz_GD zS zS2 zLg z0 sp U) {w : zz_W} {p0 c : Int32} {q j : Nat} (hi : ¬ Int32.ofNat 4 ≤ Int32.ofNat j) (hc : zpr p0 (Int32.ofNat j) = c) (hg : zpg c) : zz_B l zTs D zcl zFK cy z0 sp (zTys cy) G "ToolMillModel" "put" 6 prog_14_method_5_code (d + 1) (7, [(0, .ref 171), (1, .int p0), (2, .int (Int32.ofNat q)), (3, .int (Int32.ofNat 1)), (4, .int (Int32.ofNat j))], [], w) (7, [(0, .ref 171), (1, .int p0), (2, .int (Int32.ofNat (q + zpn c))), (3, .int (Int32.ofNat 1)), (4, .int (Int32.ofNat (j + 1)))], [], w) := by
  by_cases h0 : c = 0
  · rw [zpn_0 h0]; exact zpR1_z hG hP hi hc h0 (zpr_l0 h0)
  · rw [zpn_1 h0]
    have h4 := zpr_le hc h0
    rcases hg with h | h | ⟨h2, h3⟩
    · exact absurd h h0
    · exact zpR1_n hG hP hi hc h0 h h4
    · by_cases h1 : c = Int32.ofNat 10
      · exact zpR1_n hG hP hi hc h0 h1 h4
      · exact zpR1_r hG hP hi hc h0 h1 h2 (by rw [Int32.le_iff_toInt_le] at h3; rw [Int32.lt_iff_toInt_lt]; omega) h4
theorem zpR1_b {l : Launch} {D : va_G} {cy : Nat → ClassId} {z0 : Nat} {sp : Nat → Nat} {G : State → Prop} {d : Nat} (hG : zz_GF z0 G) (hP : ∀ U, G U → zz_GD zS zS2 zLg z0 sp U) {w : zz_W} {p0 c : Int32} {q j : Nat} (hi : ¬ Int32.ofNat 4 ≤ Int32.ofNat j) (hc : zpr p0 (Int32.ofNat j) = c) (hg : ¬ zpg c) : zz_B l zTs D zcl zFK cy z0 sp (zTys cy) G "ToolMillModel" "put" 6 prog_14_method_5_code (d + 1) (7, [(0, .ref 171), (1, .int p0), (2, .int (Int32.ofNat q)), (3, .int (Int32.ofNat 1)), (4, .int (Int32.ofNat j))], [], w) (7, [(0, .ref 171), (1, .int p0), (2, .int (Int32.ofNat (q + 1))), (3, .int (Int32.ofNat 0)), (4, .int (Int32.ofNat (j + 1)))], [], w) := by
  have h0 : ¬ c = 0 := fun h => hg (Or.inl h)
  have h1 : ¬ c = Int32.ofNat 10 := fun h => hg (Or.inr (Or.inl h))
  refine zpR1_x hG hP hi hc h0 h1 ?_ (zpr_le hc h0)
  by_cases h2 : c < Int32.ofNat 32
  · exact Or.inl h2
  · refine Or.inr ?_
    have h3 : ¬ c ≤ Int32.ofNat 126 := fun h3 => hg (Or.inr (Or.inr ⟨h2, h3⟩))
    rw [Int32.le_iff_toInt_le] at h3
    rw [Int32.lt_iff_toInt_lt]
    omega
theorem zpR1_o {l : Launch} {D : va_G} {cy : Nat → ClassId} {z0 : Nat} {sp : Nat → Nat} {G : State → Prop} {d : Nat} (hG : zz_GF z0 G) (hP : ∀ U, G U → zz_GD zS zS2 zLg z0 sp U) {w : zz_W} {p0 c : Int32} {q j : Nat} (hi : ¬ Int32.ofNat 4 ≤ Int32.ofNat j) (hc : zpr p0 (Int32.ofNat j) = c) : ∃ q', zz_B l zTs D zcl zFK cy z0 sp (zTys cy) G "ToolMillModel" "put" 6 prog_14_method_5_code (d + 1) (7, [(0, .ref 171), (1, .int p0), (2, .int (Int32.ofNat q)), (3, .int (Int32.ofNat 0)), (4, .int (Int32.ofNat j))], [], w) (7, [(0, .ref 171), (1, .int p0), (2, .int (Int32.ofNat q')), (3, .int (Int32.ofNat 0)), (4, .int (Int32.ofNat (j + 1)))], [], w) := by
  by_cases h0 : c = 0
  · exact ⟨_, zpR1_0 hG hP hi hc (zpr_l0 h0)⟩
  · exact ⟨_, zpR1_1 hG hP hi hc (zpr_le hc h0)⟩
theorem zpR_0 {l : Launch} {D : va_G} {cy : Nat → ClassId} {z0 : Nat} {sp : Nat → Nat} {G : State → Prop} {d : Nat} (hG : zz_GF z0 G) (hP : ∀ U, G U → zz_GD zS zS2 zLg z0 sp U) {w : zz_W} {p0 : Int32} : zz_B l zTs D zcl zFK cy z0 sp (zTys cy) G "ToolMillModel" "put" 6 prog_14_method_5_code (d + 1) (0, [(0, .ref 171), (1, .int p0)], [], w) (7, [(0, .ref 171), (1, .int p0), (2, .int (Int32.ofNat 0)), (3, .int (Int32.ofNat 1)), (4, .int (Int32.ofNat 0))], [], w) := by
  have T := zt_28 (l := l) (D := D) (cy := cy) (z0 := z0) (sp := sp) (G := G) (d := (d + 1)) zz_k0_KS hG hP
  have TK := fun (K : zz_K) (h : zz_KS l D zcl zFK cy z0 sp (zTys cy) G zYN (fun y => Cond.code (zYN y) (zCN y) (zMQ y) (zRT y) :: zTs) (d + 1) K) => zt_28 h hG hP
  have b := zz_B_rf (l := l) (Ts := zTs) (D := D) (cl := zcl) (fk := zFK) (cy := cy) (z0 := z0) (sp := sp) (tys := zTys cy) (G := G) (own := "ToolMillModel") (mn := "put") (nL := 6) (cc := prog_14_method_5_code) (d := (d + 1)) ((0, [(0, .ref 171), (1, .int p0)], [], w) : zz_F)
  replace b := zz_fw b T (rfl : zz_ent zP_28 0 = (0, za_const (.int (Int32.ofNat 0)) 1)) (ze_const)
  replace b := zz_fw b T (rfl : zz_ent zP_28 1 = (0, za_istore 2 2)) (ze_istore (lv' := [(0, _), (1, _)]) rfl)
  replace b := zz_fw b T (rfl : zz_ent zP_28 2 = (0, za_const (.int (Int32.ofNat 1)) 3)) (ze_const)
  replace b := zz_fw b T (rfl : zz_ent zP_28 3 = (0, za_istore 3 4)) (ze_istore (lv' := [(2, _), (0, _), (1, _)]) rfl)
  replace b := zz_fw b T (rfl : zz_ent zP_28 4 = (0, za_const (.int (Int32.ofNat 0)) 5)) (ze_const)
  replace b := zz_fw b T (rfl : zz_ent zP_28 5 = (0, za_istore 4 7)) (ze_istore (lv' := [(3, _), (2, _), (0, _), (1, _)]) rfl)
  replace b := zz_fl (lv' := [(0, .ref 171), (1, .int p0), (2, .int (Int32.ofNat 0)), (3, .int (Int32.ofNat 1)), (4, .int (Int32.ofNat 0))]) b (zz_mc (List.mem_cons_of_mem _ (List.mem_cons_of_mem _ (List.mem_cons_of_mem _ List.mem_cons_self))) (zz_mc (List.mem_cons_of_mem _ (List.mem_cons_of_mem _ (List.mem_cons_of_mem _ (List.mem_cons_of_mem _ List.mem_cons_self)))) (zz_mc (List.mem_cons_of_mem _ (List.mem_cons_of_mem _ List.mem_cons_self)) (zz_mc (List.mem_cons_of_mem _ List.mem_cons_self) (zz_mc List.mem_cons_self zz_mn)))))
  exact b
theorem zpR_x {l : Launch} {D : va_G} {cy : Nat → ClassId} {z0 : Nat} {sp : Nat → Nat} {G : State → Prop} {d : Nat} (hG : zz_GF z0 G) (hP : ∀ U, G U → zz_GD zS zS2 zLg z0 sp U) {w : zz_W} (hw : zR w) {p0 : Int32} {q : Nat} : zz_B l zTs D zcl zFK cy z0 sp (zTys cy) G "ToolMillModel" "put" 6 prog_14_method_5_code (d + 1) (7, [(0, .ref 171), (1, .int p0), (2, .int (Int32.ofNat q)), (3, .int (Int32.ofNat 0)), (4, .int (Int32.ofNat 4))], [], w) (117, [(0, .ref 171), (1, .int p0), (2, .int (Int32.ofNat q)), (3, .int (Int32.ofNat 0)), (4, .int (Int32.ofNat 4))], [.int (Int32.ofNat 0)], (zz_up w 171 (3, 0, 243, zz_to 64 zc_171 0 (zz_nI (Int32.ofNat 1))))) := by
  have T := zt_28 (l := l) (D := D) (cy := cy) (z0 := z0) (sp := sp) (G := G) (d := (d + 1)) zz_k0_KS hG hP
  have TK := fun (K : zz_K) (h : zz_KS l D zcl zFK cy z0 sp (zTys cy) G zYN (fun y => Cond.code (zYN y) (zCN y) (zMQ y) (zRT y) :: zTs) (d + 1) K) => zt_28 h hG hP
  have b := zz_B_rf (l := l) (Ts := zTs) (D := D) (cl := zcl) (fk := zFK) (cy := cy) (z0 := z0) (sp := sp) (tys := zTys cy) (G := G) (own := "ToolMillModel") (mn := "put") (nL := 6) (cc := prog_14_method_5_code) (d := (d + 1)) ((7, [(0, .ref 171), (1, .int p0), (2, .int (Int32.ofNat q)), (3, .int (Int32.ofNat 0)), (4, .int (Int32.ofNat 4))], [], w) : zz_F)
  replace b := zz_fw b T (rfl : zz_ent zP_28 7 = (0, za_iload 4 9)) (ze_iload rfl)
  replace b := zz_fw b T (rfl : zz_ent zP_28 9 = (0, za_const (.int (Int32.ofNat 4)) 10)) (ze_const)
  replace b := zz_fw b T (rfl : zz_ent zP_28 10 = (0, za_icmp_ge 79 13)) (ze_icmp_ge_t (by decide))
  replace b := zz_fw b T (rfl : zz_ent zP_28 79 = (0, za_aload 0 80)) (ze_aload rfl)
  replace b := zz_fw b T (rfl : zz_ent zP_28 80 = (0, za_iload 3 81)) (ze_iload rfl)
  replace b := zz_fw b T (rfl : zz_ent zP_28 81 = (0, za_if_ne 88 84)) (ze_if_ne_f (by decide))
  replace b := zz_fw b T (rfl : zz_ent zP_28 84 = (0, za_const (.int (Int32.ofNat 1)) 85)) (ze_const)
  replace b := zz_fw b T (rfl : zz_ent zP_28 85 = (0, za_goto 89)) (ze_goto)
  replace b := zz_fw b T (rfl : zz_ent zP_28 89 = (0, za_iload 3 90)) (ze_iload rfl)
  replace b := zz_fw b T (rfl : zz_ent zP_28 90 = (0, za_if_eq 109 93)) (ze_if_eq_t (by decide))
  replace b := zz_fw b T (rfl : zz_ent zP_28 109 = (0, za_const (.int (Int32.ofNat 0)) 110)) (ze_const)
  replace b := zz_fVi b TK (rfl : zz_ent zP_28 110 = (0, za_callV 0 71 2 113)) (zM_rf10 hG hP hw.1 (zR_has hw zh_171 (by decide) (by decide))) rfl rfl (zz_has_c (zR_has hw zh_171 (by decide) (by decide))) (zz_lb rfl)
  replace b := zz_fw b T (rfl : zz_ent zP_28 113 = (0, za_if_eq 118 116)) (ze_if_eq_f (by decide))
  replace b := zz_fw b T (rfl : zz_ent zP_28 116 = (0, za_const (.int (Int32.ofNat 0)) 117)) (ze_const)
  exact b
theorem zpR_g {l : Launch} {D : va_G} {cy : Nat → ClassId} {z0 : Nat} {sp : Nat → Nat} {G : State → Prop} {d : Nat} (hG : zz_GF z0 G) (hP : ∀ U, G U → zz_GD zS zS2 zLg z0 sp U) {w : zz_W} (hw : zR w) {p0 : Int32} {q : Nat} (h : Int32.ofNat q ≤ Int32.ofNat 3000) : zz_B l zTs D zcl zFK cy z0 sp (zTys cy) G "ToolMillModel" "put" 6 prog_14_method_5_code (d + 1) (7, [(0, .ref 171), (1, .int p0), (2, .int (Int32.ofNat q)), (3, .int (Int32.ofNat 1)), (4, .int (Int32.ofNat 4))], [], w) (121, [(0, .ref 171), (1, .int p0), (4, .int (Int32.ofNat 0))], [], (zz_up w 171 (3, 0, 243, zz_to 64 zc_171 0 (zz_nI (Int32.ofNat 0))))) := by
  have T := zt_28 (l := l) (D := D) (cy := cy) (z0 := z0) (sp := sp) (G := G) (d := (d + 1)) zz_k0_KS hG hP
  have TK := fun (K : zz_K) (h : zz_KS l D zcl zFK cy z0 sp (zTys cy) G zYN (fun y => Cond.code (zYN y) (zCN y) (zMQ y) (zRT y) :: zTs) (d + 1) K) => zt_28 h hG hP
  have b := zz_B_rf (l := l) (Ts := zTs) (D := D) (cl := zcl) (fk := zFK) (cy := cy) (z0 := z0) (sp := sp) (tys := zTys cy) (G := G) (own := "ToolMillModel") (mn := "put") (nL := 6) (cc := prog_14_method_5_code) (d := (d + 1)) ((7, [(0, .ref 171), (1, .int p0), (2, .int (Int32.ofNat q)), (3, .int (Int32.ofNat 1)), (4, .int (Int32.ofNat 4))], [], w) : zz_F)
  replace b := zz_fw b T (rfl : zz_ent zP_28 7 = (0, za_iload 4 9)) (ze_iload rfl)
  replace b := zz_fw b T (rfl : zz_ent zP_28 9 = (0, za_const (.int (Int32.ofNat 4)) 10)) (ze_const)
  replace b := zz_fw b T (rfl : zz_ent zP_28 10 = (0, za_icmp_ge 79 13)) (ze_icmp_ge_t (by decide))
  replace b := zz_fw b T (rfl : zz_ent zP_28 79 = (0, za_aload 0 80)) (ze_aload rfl)
  replace b := zz_fw b T (rfl : zz_ent zP_28 80 = (0, za_iload 3 81)) (ze_iload rfl)
  replace b := zz_fw b T (rfl : zz_ent zP_28 81 = (0, za_if_ne 88 84)) (ze_if_ne_t (by decide))
  replace b := zz_fw b T (rfl : zz_ent zP_28 88 = (0, za_const (.int (Int32.ofNat 0)) 89)) (ze_const)
  replace b := zz_fw b T (rfl : zz_ent zP_28 89 = (0, za_iload 3 90)) (ze_iload rfl)
  replace b := zz_fw b T (rfl : zz_ent zP_28 90 = (0, za_if_eq 109 93)) (ze_if_eq_f (by decide))
  replace b := zz_fw b T (rfl : zz_ent zP_28 93 = (0, za_aload 0 94)) (ze_aload rfl)
  replace b := zz_fw b T (rfl : zz_ent zP_28 94 = (0, za_getI 0 2 97)) (ze_getI (zR_has hw zh_171 (by decide) (by decide)) (by decide) (congrArg Int32.ofNat zv_171_2))
  replace b := zz_fw b T (rfl : zz_ent zP_28 97 = (0, za_iload 2 98)) (ze_iload rfl)
  replace b := zz_fw b T (rfl : zz_ent zP_28 98 = (0, za_iadd 99)) (ze_iadd (show Int32.ofNat 0 + Int32.ofNat q = Int32.ofNat q by rw [← Int32.ofNat_add, Nat.zero_add]))
  replace b := zz_fw b T (rfl : zz_ent zP_28 99 = (0, za_const (.int (Int32.ofNat 3000)) 102)) (ze_const)
  replace b := zz_fw b T (rfl : zz_ent zP_28 102 = (0, za_icmp_le 109 105)) (ze_icmp_le_t h)
  replace b := zz_fw b T (rfl : zz_ent zP_28 109 = (0, za_const (.int (Int32.ofNat 0)) 110)) (ze_const)
  replace b := zz_fVi b TK (rfl : zz_ent zP_28 110 = (0, za_callV 0 71 2 113)) (zM_rf00 hG hP hw.1 (zR_has hw zh_171 (by decide) (by decide))) rfl rfl (zz_has_c (zR_has hw zh_171 (by decide) (by decide))) (zz_lb rfl)
  replace b := zz_fw b T (rfl : zz_ent zP_28 113 = (0, za_if_eq 118 116)) (ze_if_eq_t (by decide))
  replace b := zz_fw b T (rfl : zz_ent zP_28 118 = (0, za_const (.int (Int32.ofNat 0)) 119)) (ze_const)
  replace b := zz_fw b T (rfl : zz_ent zP_28 119 = (0, za_istore 4 121)) (ze_istore (lv' := [(0, _), (1, _), (2, _), (3, _)]) rfl)
  exact zz_fl (lv' := [(0, .ref 171), (1, .int p0), (4, .int (Int32.ofNat 0))]) b (zz_mc (List.mem_cons_of_mem _ List.mem_cons_self) (zz_mc (List.mem_cons_of_mem _ (List.mem_cons_of_mem _ List.mem_cons_self)) (zz_mc List.mem_cons_self zz_mn)))
/-- the reference with n signs and no refusal; w0: the world before -/
def zPr (n : Nat) (w0 w : zz_W) : Prop := zz_sh w ∧ w.1 = w0.1 ∧ w.2.1 = w0.2.1 ∧ zz_g w 328 = zz_g w0 328 ∧ ∃ M N, zz_has w 171 (3, 0, 243, M) ∧ zz_at 64 M 0 = 0 ∧ zz_at 64 M 1 = 173 ∧ zz_at 64 M 2 = n ∧ zz_has w 172 (0, 0, 3000, N)
theorem zpR2_z {l : Launch} {D : va_G} {cy : Nat → ClassId} {z0 : Nat} {sp : Nat → Nat} {G : State → Prop} {d : Nat} (hG : zz_GF z0 G) (hP : ∀ U, G U → zz_GD zS zS2 zLg z0 sp U) {w0 w : zz_W} {p0 c : Int32} {n j : Nat} (hw : zPr n w0 w) (hn4 : n < 2000) (hi : ¬ Int32.ofNat 4 ≤ Int32.ofNat j) (hc : zpr p0 (Int32.ofNat j) = c) (h0 : c ≤ 0) : zz_B l zTs D zcl zFK cy z0 sp (zTys cy) G "ToolMillModel" "put" 6 prog_14_method_5_code (d + 1) (121, [(0, .ref 171), (1, .int p0), (4, .int (Int32.ofNat j))], [], w) (121, [(0, .ref 171), (1, .int p0), (4, .int (Int32.ofNat (j + 1)))], [], w) := by
  have T := zt_28 (l := l) (D := D) (cy := cy) (z0 := z0) (sp := sp) (G := G) (d := (d + 1)) zz_k0_KS hG hP
  have TK := fun (K : zz_K) (h : zz_KS l D zcl zFK cy z0 sp (zTys cy) G zYN (fun y => Cond.code (zYN y) (zCN y) (zMQ y) (zRT y) :: zTs) (d + 1) K) => zt_28 h hG hP
  have b := zz_B_rf (l := l) (Ts := zTs) (D := D) (cl := zcl) (fk := zFK) (cy := cy) (z0 := z0) (sp := sp) (tys := zTys cy) (G := G) (own := "ToolMillModel") (mn := "put") (nL := 6) (cc := prog_14_method_5_code) (d := (d + 1)) ((121, [(0, .ref 171), (1, .int p0), (4, .int (Int32.ofNat j))], [], w) : zz_F)
  replace b := zz_fw b T (rfl : zz_ent zP_28 121 = (0, za_iload 4 123)) (ze_iload rfl)
  replace b := zz_fw b T (rfl : zz_ent zP_28 123 = (0, za_const (.int (Int32.ofNat 4)) 124)) (ze_const)
  replace b := zz_fw b T (rfl : zz_ent zP_28 124 = (0, za_icmp_ge 172 127)) (ze_icmp_ge_f hi)
  replace b := zz_fw b T (rfl : zz_ent zP_28 127 = (0, za_iload 1 128)) (ze_iload rfl)
  replace b := zz_fw b T (rfl : zz_ent zP_28 128 = (0, za_const (.int (Int32.ofNat 8)) 130)) (ze_const)
  replace b := zz_fw b T (rfl : zz_ent zP_28 130 = (0, za_iload 4 132)) (ze_iload rfl)
  replace b := zz_fw b T (rfl : zz_ent zP_28 132 = (0, za_imul 133)) (ze_imul rfl)
  replace b := zz_fw b T (rfl : zz_ent zP_28 133 = (0, za_ishr 134)) (ze_ishr rfl)
  replace b := zz_fw b T (rfl : zz_ent zP_28 134 = (0, za_const (.int (Int32.ofNat 255)) 137)) (ze_const)
  replace b := zz_fw b T (rfl : zz_ent zP_28 137 = (0, za_iand 138)) (ze_iand hc)
  replace b := zz_fw b T (rfl : zz_ent zP_28 138 = (0, za_istore 5 140)) (ze_istore (lv' := [(0, _), (1, _), (4, _)]) rfl)
  replace b := zz_fw b T (rfl : zz_ent zP_28 140 = (0, za_iload 5 142)) (ze_iload rfl)
  replace b := zz_fw b T (rfl : zz_ent zP_28 142 = (0, za_if_le 166 145)) (ze_if_le_t h0)
  replace b := zz_fw b T (rfl : zz_ent zP_28 166 = (0, za_iinc 4 (Int32.ofNat 1) 169)) (ze_iinc (lv' := [(5, _), (0, _), (1, _)]) rfl (Int32.ofNat_add j 1).symm rfl)
  replace b := zz_fw b T (rfl : zz_ent zP_28 169 = (0, za_goto 121)) (ze_goto)
  replace b := zz_fl (lv' := [(0, .ref 171), (1, .int p0), (4, .int (Int32.ofNat (j + 1)))]) b (zz_mc (List.mem_cons_of_mem _ (List.mem_cons_of_mem _ List.mem_cons_self)) (zz_mc (List.mem_cons_of_mem _ (List.mem_cons_of_mem _ (List.mem_cons_of_mem _ List.mem_cons_self))) (zz_mc List.mem_cons_self zz_mn)))
  exact b
theorem zpR2_k {l : Launch} {D : va_G} {cy : Nat → ClassId} {z0 : Nat} {sp : Nat → Nat} {G : State → Prop} {d : Nat} (hG : zz_GF z0 G) (hP : ∀ U, G U → zz_GD zS zS2 zLg z0 sp U) {w0 w : zz_W} {p0 c : Int32} {n j : Nat} (hw : zPr n w0 w) (hn4 : n < 2000) (hi : ¬ Int32.ofNat 4 ≤ Int32.ofNat j) (hc : zpr p0 (Int32.ofNat j) = c) (h4 : ¬ c ≤ 0) : ∃ w', zz_B l zTs D zcl zFK cy z0 sp (zTys cy) G "ToolMillModel" "put" 6 prog_14_method_5_code (d + 1) (121, [(0, .ref 171), (1, .int p0), (4, .int (Int32.ofNat j))], [], w) (121, [(0, .ref 171), (1, .int p0), (4, .int (Int32.ofNat (j + 1)))], [], w') ∧ zPr (n + 1) w0 w' := by
  obtain ⟨hs, s1, s2, ho, M, N, h0, hh, ht, hn, hr⟩ := hw
  have T := zt_28 (l := l) (D := D) (cy := cy) (z0 := z0) (sp := sp) (G := G) (d := (d + 1)) zz_k0_KS hG hP
  have TK := fun (K : zz_K) (h : zz_KS l D zcl zFK cy z0 sp (zTys cy) G zYN (fun y => Cond.code (zYN y) (zCN y) (zMQ y) (zRT y) :: zTs) (d + 1) K) => zt_28 h hG hP
  have b := zz_B_rf (l := l) (Ts := zTs) (D := D) (cl := zcl) (fk := zFK) (cy := cy) (z0 := z0) (sp := sp) (tys := zTys cy) (G := G) (own := "ToolMillModel") (mn := "put") (nL := 6) (cc := prog_14_method_5_code) (d := (d + 1)) ((121, [(0, .ref 171), (1, .int p0), (4, .int (Int32.ofNat j))], [], w) : zz_F)
  replace b := zz_fw b T (rfl : zz_ent zP_28 121 = (0, za_iload 4 123)) (ze_iload rfl)
  replace b := zz_fw b T (rfl : zz_ent zP_28 123 = (0, za_const (.int (Int32.ofNat 4)) 124)) (ze_const)
  replace b := zz_fw b T (rfl : zz_ent zP_28 124 = (0, za_icmp_ge 172 127)) (ze_icmp_ge_f hi)
  replace b := zz_fw b T (rfl : zz_ent zP_28 127 = (0, za_iload 1 128)) (ze_iload rfl)
  replace b := zz_fw b T (rfl : zz_ent zP_28 128 = (0, za_const (.int (Int32.ofNat 8)) 130)) (ze_const)
  replace b := zz_fw b T (rfl : zz_ent zP_28 130 = (0, za_iload 4 132)) (ze_iload rfl)
  replace b := zz_fw b T (rfl : zz_ent zP_28 132 = (0, za_imul 133)) (ze_imul rfl)
  replace b := zz_fw b T (rfl : zz_ent zP_28 133 = (0, za_ishr 134)) (ze_ishr rfl)
  replace b := zz_fw b T (rfl : zz_ent zP_28 134 = (0, za_const (.int (Int32.ofNat 255)) 137)) (ze_const)
  replace b := zz_fw b T (rfl : zz_ent zP_28 137 = (0, za_iand 138)) (ze_iand hc)
  replace b := zz_fw b T (rfl : zz_ent zP_28 138 = (0, za_istore 5 140)) (ze_istore (lv' := [(0, _), (1, _), (4, _)]) rfl)
  replace b := zz_fw b T (rfl : zz_ent zP_28 140 = (0, za_iload 5 142)) (ze_iload rfl)
  replace b := zz_fw b T (rfl : zz_ent zP_28 142 = (0, za_if_le 166 145)) (ze_if_le_f h4)
  replace b := zz_fw b T (rfl : zz_ent zP_28 145 = (0, za_aload 0 146)) (ze_aload rfl)
  replace b := zz_fw b T (rfl : zz_ent zP_28 146 = (0, za_getA 0 1 149)) (ze_getA h0 (by decide) ht)
  replace b := zz_fw b T (rfl : zz_ent zP_28 149 = (0, za_aload 0 150)) (ze_aload rfl)
  replace b := zz_fw b T (rfl : zz_ent zP_28 150 = (0, za_getI 0 2 153)) (ze_getI h0 (by decide) (congrArg Int32.ofNat hn))
  replace b := zz_fw b T (rfl : zz_ent zP_28 153 = (0, za_iload 5 155)) (ze_iload rfl)
  replace b := zz_fw b T (rfl : zz_ent zP_28 155 = (0, za_astI 0 156)) (ze_astI hs hr (by rw [zz_nI_ofNat (by omega)]; omega) (by decide))
  replace b := zz_fw b T (rfl : zz_ent zP_28 156 = (0, za_aload 0 157)) (ze_aload rfl)
  replace b := zz_fw b T (rfl : zz_ent zP_28 157 = (0, za_dup 158)) (ze_dup rfl)
  replace b := zz_fw b T (rfl : zz_ent zP_28 158 = (0, za_getI 0 2 161)) (ze_getI (zz_has_ne hs (by decide) h0 (by decide)) (by decide) (congrArg Int32.ofNat hn))
  replace b := zz_fw b T (rfl : zz_ent zP_28 161 = (0, za_const (.int (Int32.ofNat 1)) 162)) (ze_const)
  replace b := zz_fw b T (rfl : zz_ent zP_28 162 = (0, za_iadd 163)) (ze_iadd (Int32.ofNat_add n 1).symm)
  replace b := zz_fw b T (rfl : zz_ent zP_28 163 = (0, za_putI 0 2 166)) (ze_putI (zz_up_sh hs) (zz_has_ne hs (by decide) h0 (by decide)) (by decide))
  replace b := zz_fw b T (rfl : zz_ent zP_28 166 = (0, za_iinc 4 (Int32.ofNat 1) 169)) (ze_iinc (lv' := [(5, _), (0, _), (1, _)]) rfl (Int32.ofNat_add j 1).symm rfl)
  replace b := zz_fw b T (rfl : zz_ent zP_28 169 = (0, za_goto 121)) (ze_goto)
  replace b := zz_fl (lv' := [(0, .ref 171), (1, .int p0), (4, .int (Int32.ofNat (j + 1)))]) b (zz_mc (List.mem_cons_of_mem _ (List.mem_cons_of_mem _ List.mem_cons_self)) (zz_mc (List.mem_cons_of_mem _ (List.mem_cons_of_mem _ (List.mem_cons_of_mem _ List.mem_cons_self))) (zz_mc List.mem_cons_self zz_mn)))
  exact ⟨_, b, ⟨zz_up_sh (zz_up_sh hs), s1, s2, (zz_up_ne (zz_up_sh hs) (by decide) (by decide)).trans ((zz_up_ne hs (by decide) (by decide)).trans ho), _, _, zz_has_up (zz_up_sh hs) (zz_has_ne hs (by decide) h0 (by decide)), (zz_gn (by decide)).trans hh, (zz_gn (by decide)).trans ht, zz_gs2 (by omega), zz_has_ne (zz_up_sh hs) (by decide) (zz_has_up hs hr) (by decide)⟩⟩
theorem zpR2 {l : Launch} {D : va_G} {cy : Nat → ClassId} {z0 : Nat} {sp : Nat → Nat} {G : State → Prop} {d : Nat} (hG : zz_GF z0 G) (hP : ∀ U, G U → zz_GD zS zS2 zLg z0 sp U) {w0 w : zz_W} {p0 c : Int32} {n j : Nat} (hw : zPr n w0 w) (hn4 : n < 2000) (hi : ¬ Int32.ofNat 4 ≤ Int32.ofNat j) (hc : zpr p0 (Int32.ofNat j) = c) : ∃ w', zz_B l zTs D zcl zFK cy z0 sp (zTys cy) G "ToolMillModel" "put" 6 prog_14_method_5_code (d + 1) (121, [(0, .ref 171), (1, .int p0), (4, .int (Int32.ofNat j))], [], w) (121, [(0, .ref 171), (1, .int p0), (4, .int (Int32.ofNat (j + 1)))], [], w') ∧ zPr (n + zpn c) w0 w' := by
  by_cases h0 : c = 0
  · rw [zpn_0 h0]; exact ⟨w, zpR2_z hG hP hw hn4 hi hc (zpr_l0 h0), hw⟩
  · rw [zpn_1 h0]; exact zpR2_k hG hP hw hn4 hi hc (zpr_le hc h0)
theorem zpR_e {l : Launch} {D : va_G} {cy : Nat → ClassId} {z0 : Nat} {sp : Nat → Nat} {G : State → Prop} {d : Nat} (hG : zz_GF z0 G) (hP : ∀ U, G U → zz_GD zS zS2 zLg z0 sp U) {w0 w : zz_W} {p0 : Int32} {n : Nat} (hw : zPr n w0 w) : zz_B l zTs D zcl zFK cy z0 sp (zTys cy) G "ToolMillModel" "put" 6 prog_14_method_5_code (d + 1) (121, [(0, .ref 171), (1, .int p0), (4, .int (Int32.ofNat 4))], [], w) (176, [(0, .ref 171), (1, .int p0), (4, .int (Int32.ofNat 4))], [.int (Int32.ofNat n)], w) := by
  obtain ⟨hs, s1, s2, ho, M, N, h0, hh, ht, hn, hr⟩ := hw
  have T := zt_28 (l := l) (D := D) (cy := cy) (z0 := z0) (sp := sp) (G := G) (d := (d + 1)) zz_k0_KS hG hP
  have TK := fun (K : zz_K) (h : zz_KS l D zcl zFK cy z0 sp (zTys cy) G zYN (fun y => Cond.code (zYN y) (zCN y) (zMQ y) (zRT y) :: zTs) (d + 1) K) => zt_28 h hG hP
  have b := zz_B_rf (l := l) (Ts := zTs) (D := D) (cl := zcl) (fk := zFK) (cy := cy) (z0 := z0) (sp := sp) (tys := zTys cy) (G := G) (own := "ToolMillModel") (mn := "put") (nL := 6) (cc := prog_14_method_5_code) (d := (d + 1)) ((121, [(0, .ref 171), (1, .int p0), (4, .int (Int32.ofNat 4))], [], w) : zz_F)
  replace b := zz_fw b T (rfl : zz_ent zP_28 121 = (0, za_iload 4 123)) (ze_iload rfl)
  replace b := zz_fw b T (rfl : zz_ent zP_28 123 = (0, za_const (.int (Int32.ofNat 4)) 124)) (ze_const)
  replace b := zz_fw b T (rfl : zz_ent zP_28 124 = (0, za_icmp_ge 172 127)) (ze_icmp_ge_t (by decide))
  replace b := zz_fw b T (rfl : zz_ent zP_28 172 = (0, za_aload 0 173)) (ze_aload rfl)
  replace b := zz_fw b T (rfl : zz_ent zP_28 173 = (0, za_getI 0 2 176)) (ze_getI h0 (by decide) (congrArg Int32.ofNat hn))
  exact b
theorem zpR_sm {p0 : Int32} : (0 + zpn (zpr p0 (Int32.ofNat 0)) + zpn (zpr p0 (Int32.ofNat 1)) + zpn (zpr p0 (Int32.ofNat 2)) + zpn (zpr p0 (Int32.ofNat 3))) ≤ 4 := by
  have a0 := zpn_le (zpr p0 (Int32.ofNat 0))
  have a1 := zpn_le (zpr p0 (Int32.ofNat 1))
  have a2 := zpn_le (zpr p0 (Int32.ofNat 2))
  have a3 := zpn_le (zpr p0 (Int32.ofNat 3))
  omega
theorem zPr_0 {w : zz_W} (hw : zR w) : zPr 0 w (zz_up w 171 (3, 0, 243, zz_to 64 zc_171 0 (zz_nI (Int32.ofNat 0)))) := ⟨zz_up_sh hw.1, rfl, rfl, zz_up_ne hw.1 (by decide) (by decide), _, _, zz_has_up hw.1 (zR_has hw zh_171 (by decide) (by decide)), zz_gs2 (by decide), (zz_gn (by decide)).trans zv_171_1, (zz_gn (by decide)).trans zv_171_2, zz_has_ne hw.1 (by decide) (zR_has hw zh_172 (by decide) (by decide)) (by decide)⟩
theorem zMr_put {l : Launch} {D : va_G} {cy : Nat → ClassId} {z0 : Nat} {sp : Nat → Nat} {G : State → Prop} {d : Nat} (hG : zz_GF z0 G) (hP : ∀ U, G U → zz_GD zS zS2 zLg z0 sp U) {w : zz_W} (hw : zR w) {p0 : Int32} (g0 : zpg (zpr p0 (Int32.ofNat 0))) (g1 : zpg (zpr p0 (Int32.ofNat 1))) (g2 : zpg (zpr p0 (Int32.ofNat 2))) (g3 : zpg (zpr p0 (Int32.ofNat 3))) : ∃ w', zz_M l zTs D zcl zFK cy z0 sp (zTys cy) G zYN zCN zMQ zRT (d + 2) 28 [.ref 171, .int p0] w [.int (Int32.ofNat (0 + zpn (zpr p0 (Int32.ofNat 0)) + zpn (zpr p0 (Int32.ofNat 1)) + zpn (zpr p0 (Int32.ofNat 2)) + zpn (zpr p0 (Int32.ofNat 3))))] w' ∧ zPr (0 + zpn (zpr p0 (Int32.ofNat 0)) + zpn (zpr p0 (Int32.ofNat 1)) + zpn (zpr p0 (Int32.ofNat 2)) + zpn (zpr p0 (Int32.ofNat 3))) w w' := by
  have b := zpR_0 (w := w) (p0 := p0) (d := d) (l := l) (D := D) (cy := cy) (z0 := z0) (sp := sp) (G := G) hG hP
  replace b := zz_B_tr b (zpR1 hG hP (by decide) rfl g0)
  replace b := zz_B_tr b (zpR1 hG hP (by decide) rfl g1)
  replace b := zz_B_tr b (zpR1 hG hP (by decide) rfl g2)
  replace b := zz_B_tr b (zpR1 hG hP (by decide) rfl g3)
  replace b := zz_B_tr b (zpR_g hG hP hw (zpI_le _ (Nat.lt_succ_of_le zpR_sm)))
  have hv := zPr_0 hw
  have a0 := zpn_le (zpr p0 (Int32.ofNat 0))
  have a1 := zpn_le (zpr p0 (Int32.ofNat 1))
  have a2 := zpn_le (zpr p0 (Int32.ofNat 2))
  have a3 := zpn_le (zpr p0 (Int32.ofNat 3))
  obtain ⟨w0, b0, hw0⟩ := zpR2 (c := zpr p0 (Int32.ofNat 0)) (d := d) (l := l) (D := D) (cy := cy) (sp := sp) hG hP hv (by omega) (by decide) rfl
  replace b := zz_B_tr b b0
  obtain ⟨w1, b1, hw1⟩ := zpR2 (c := zpr p0 (Int32.ofNat 1)) (d := d) (l := l) (D := D) (cy := cy) (sp := sp) hG hP hw0 (by omega) (by decide) rfl
  replace b := zz_B_tr b b1
  obtain ⟨w2, b2, hw2⟩ := zpR2 (c := zpr p0 (Int32.ofNat 2)) (d := d) (l := l) (D := D) (cy := cy) (sp := sp) hG hP hw1 (by omega) (by decide) rfl
  replace b := zz_B_tr b b2
  obtain ⟨w3, b3, hw3⟩ := zpR2 (c := zpr p0 (Int32.ofNat 3)) (d := d) (l := l) (D := D) (cy := cy) (sp := sp) hG hP hw2 (by omega) (by decide) rfl
  replace b := zz_B_tr b b3
  replace b := zz_B_tr b (zpR_e hG hP hw3)
  exact ⟨w3, zz_M_B rfl rfl rfl rfl rfl (by decide +kernel) (zz_lb rfl) (zz_lb rfl) (zz_end_i (zr_28.2.1 176 rfl).1) b, hw3⟩
theorem zMr_put_x {l : Launch} {D : va_G} {cy : Nat → ClassId} {z0 : Nat} {sp : Nat → Nat} {G : State → Prop} {d : Nat} (hG : zz_GF z0 G) (hP : ∀ U, G U → zz_GD zS zS2 zLg z0 sp U) {w : zz_W} (hw : zR w) {p0 : Int32} (hg : ¬ (zpg (zpr p0 (Int32.ofNat 0)) ∧ zpg (zpr p0 (Int32.ofNat 1)) ∧ zpg (zpr p0 (Int32.ofNat 2)) ∧ zpg (zpr p0 (Int32.ofNat 3)))) : zz_M l zTs D zcl zFK cy z0 sp (zTys cy) G zYN zCN zMQ zRT (d + 2) 28 [.ref 171, .int p0] w [.int (Int32.ofNat 0)] (zz_up w 171 (3, 0, 243, zz_to 64 zc_171 0 (zz_nI (Int32.ofNat 1)))) := by
  have b := zpR_0 (w := w) (p0 := p0) (d := d) (l := l) (D := D) (cy := cy) (z0 := z0) (sp := sp) (G := G) hG hP
  by_cases g0 : zpg (zpr p0 (Int32.ofNat 0))
  case neg =>
    replace b := zz_B_tr b (zpR1_b hG hP (by decide) rfl g0)
    obtain ⟨q1, b1⟩ := zpR1_o (w := w) (c := zpr p0 (Int32.ofNat 1)) (j := 1) (d := d) (l := l) (D := D) (cy := cy) (z0 := z0) (sp := sp) (G := G) hG hP (by decide) rfl
    replace b := zz_B_tr b b1
    obtain ⟨q2, b2⟩ := zpR1_o (w := w) (c := zpr p0 (Int32.ofNat 2)) (j := 2) (d := d) (l := l) (D := D) (cy := cy) (z0 := z0) (sp := sp) (G := G) hG hP (by decide) rfl
    replace b := zz_B_tr b b2
    obtain ⟨q3, b3⟩ := zpR1_o (w := w) (c := zpr p0 (Int32.ofNat 3)) (j := 3) (d := d) (l := l) (D := D) (cy := cy) (z0 := z0) (sp := sp) (G := G) hG hP (by decide) rfl
    replace b := zz_B_tr b b3
    exact zz_M_B rfl rfl rfl rfl rfl (by decide +kernel) (zz_lb rfl) (zz_lb rfl) (zz_end_i (zr_28.2.1 117 rfl).1) (zz_B_tr b (zpR_x hG hP hw))
  replace b := zz_B_tr b (zpR1 hG hP (by decide) rfl g0)
  by_cases g1 : zpg (zpr p0 (Int32.ofNat 1))
  case neg =>
    replace b := zz_B_tr b (zpR1_b hG hP (by decide) rfl g1)
    obtain ⟨q2, b2⟩ := zpR1_o (w := w) (c := zpr p0 (Int32.ofNat 2)) (j := 2) (d := d) (l := l) (D := D) (cy := cy) (z0 := z0) (sp := sp) (G := G) hG hP (by decide) rfl
    replace b := zz_B_tr b b2
    obtain ⟨q3, b3⟩ := zpR1_o (w := w) (c := zpr p0 (Int32.ofNat 3)) (j := 3) (d := d) (l := l) (D := D) (cy := cy) (z0 := z0) (sp := sp) (G := G) hG hP (by decide) rfl
    replace b := zz_B_tr b b3
    exact zz_M_B rfl rfl rfl rfl rfl (by decide +kernel) (zz_lb rfl) (zz_lb rfl) (zz_end_i (zr_28.2.1 117 rfl).1) (zz_B_tr b (zpR_x hG hP hw))
  replace b := zz_B_tr b (zpR1 hG hP (by decide) rfl g1)
  by_cases g2 : zpg (zpr p0 (Int32.ofNat 2))
  case neg =>
    replace b := zz_B_tr b (zpR1_b hG hP (by decide) rfl g2)
    obtain ⟨q3, b3⟩ := zpR1_o (w := w) (c := zpr p0 (Int32.ofNat 3)) (j := 3) (d := d) (l := l) (D := D) (cy := cy) (z0 := z0) (sp := sp) (G := G) hG hP (by decide) rfl
    replace b := zz_B_tr b b3
    exact zz_M_B rfl rfl rfl rfl rfl (by decide +kernel) (zz_lb rfl) (zz_lb rfl) (zz_end_i (zr_28.2.1 117 rfl).1) (zz_B_tr b (zpR_x hG hP hw))
  replace b := zz_B_tr b (zpR1 hG hP (by decide) rfl g2)
  by_cases g3 : zpg (zpr p0 (Int32.ofNat 3))
  case neg =>
    replace b := zz_B_tr b (zpR1_b hG hP (by decide) rfl g3)
    exact zz_M_B rfl rfl rfl rfl rfl (by decide +kernel) (zz_lb rfl) (zz_lb rfl) (zz_end_i (zr_28.2.1 117 rfl).1) (zz_B_tr b (zpR_x hG hP hw))
  replace b := zz_B_tr b (zpR1 hG hP (by decide) rfl g3)
  exact absurd ⟨g0, g1, g2, g3⟩ hg
