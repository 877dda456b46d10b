/-! listing of the class, by program -/
theorem zv_0_11 : zz_at 64 zc_0 11 = 13 := by decide +kernel
noncomputable def zc_328 : Nat := (zz_g zW3 328).2.2.2
theorem zh_328 : zz_has zW3 328 (1, 3, 1, zc_328) := ⟨by decide +kernel, by decide, rfl⟩
/-- form, fixed bits and base of the class's instruction f -/
def zFo (f : Nat) : Nat := (zz_ki zS2 2000001 f).getD 0
def zFx (f : Nat) : Nat := (zz_ki zS2 2000002 (zFo f)).getD 0
def zBa (f : Nat) : Nat := (zz_ki zS2 2000000 f).getD 0
theorem zFo_all : (List.range 51).all (fun f => decide (zz_ki zS2 2000001 f = some (zFo f)) && (decide (zz_ki zS2 2000002 (zFo f) = some (zFx f)) && (decide (zz_ki zS2 2000000 f = some (zBa f)) && Nat.blt (zFo f) 15))) = true := by decide +kernel
theorem zFo_ok {f : Nat} (h : f < 51) : zz_ki zS2 2000001 f = some (zFo f) ∧ zz_ki zS2 2000002 (zFo f) = some (zFx f) ∧ zz_ki zS2 2000000 f = some (zBa f) ∧ zFo f < 15 := by
  have h1 := List.all_eq_true.mp zFo_all f (List.mem_range.mpr h)
  obtain ⟨a, h1⟩ := zz_and h1
  obtain ⟨b, h1⟩ := zz_and h1
  obtain ⟨c, e⟩ := zz_and h1
  exact ⟨of_decide_eq_true a, of_decide_eq_true b, of_decide_eq_true c, zz_blt e⟩
/-- the class takes the word p for its instruction f -/
def zcK (p : Int32) (f : Nat) : Prop := zcf p = f ∧ f < 51 ∧ p &&& Int32.ofNat (zFx f) = Int32.ofNat (zBa f)
theorem zcf_14 : (List.range 64).all (fun i => Nat.blt (zz_at 32 zc_14 i) 51 || Nat.beq (zz_at 32 zc_14 i) 4294967295) = true := by decide +kernel
theorem zcf_13 : (List.range 64).all (fun i => Nat.blt (zz_at 32 zc_13 i) 51 || Nat.beq (zz_at 32 zc_13 i) 4294967295) = true := by decide +kernel
theorem zcf_15 : (List.range 32).all (fun i => Nat.blt (zz_at 32 zc_15 i) 51 || Nat.beq (zz_at 32 zc_15 i) 4294967295) = true := by decide +kernel
theorem zz_or51 {a : Nat} (h : (Nat.blt a 51 || Nat.beq a 4294967295) = true) : a < 51 ∨ a = 4294967295 := by
  rcases Bool.or_eq_true_iff.mp h with h | h
  · exact Or.inl (zz_blt h)
  · exact Or.inr (Nat.eq_of_beq_eq_true h)
theorem zcf_51 (p : Int32) : zcf p < 51 ∨ zcf p = 4294967295 := by
  unfold zcf
  split
  · exact zz_or51 (List.all_eq_true.mp zcf_14 _ (List.mem_range.mpr (zF_lt p 0 6)))
  · split
    · exact zz_or51 (List.all_eq_true.mp zcf_15 _ (List.mem_range.mpr (zF_lt p 16 5)))
    · exact zz_or51 (List.all_eq_true.mp zcf_13 _ (List.mem_range.mpr (zF_lt p 26 6)))
theorem zD_y {l : Launch} {D : va_G} {cy : Nat → ClassId} {z0 : Nat} {sp : Nat → Nat} {G : State → Prop} {d : Nat} (hG : zz_GF z0 G) (hP : ∀ U, G U → zz_GD zS zS2 zLg z0 sp U) {v N M c : Nat} {w : zz_W} (r : zBr v N M c w) {p0 : Int32} {f : Nat} (h : zcK p0 f) : zz_M l zTs D zcl zFK cy z0 sp (zTys cy) G zYN zCN zMQ zRT (d + 1) 122 [.ref 12, .int p0] w [.int (Int32.ofNat f)] w := by
  obtain ⟨h1, h51, h2⟩ := h
  obtain ⟨q1, q2, q3, l1⟩ := zFo_ok h51
  unfold zcf at h1
  split at h1
  · rename_i ho
    exact zD_0k hG hP r ho h1 h51 l1 q1 q2 q3 h2
  · rename_i h0
    split at h1
    · rename_i ho
      exact zD_1k hG hP r ho h1 h51 l1 q1 q2 q3 h2
    · rename_i h9
      exact zD_2k hG hP r h0 h9 h1 h51 l1 q1 q2 q3 h2
theorem zD_15 : (List.range 32).all (fun i => Nat.beq (zz_at 32 zc_15 i) 4294967295 || (decide (zFx (zz_at 32 zc_15 i) = 4229890048) && decide (zBa (zz_at 32 zc_15 i) = 67108864 + 65536 * i))) = true := by decide +kernel
theorem zI_and2 {n a b : Nat} (ha : a < 2 ^ 32) : zz_nI (Int32.ofNat a) = a := zz_nI_ofNat ha
theorem zD_1a {p : Int32} (ho : zF p 26 6 = 1) : p &&& Int32.ofNat 4229890048 = Int32.ofNat (67108864 + 65536 * zF p 16 5) := by
  have h5 := zF_lt p 16 5
  have hp := zz_nI_lt p
  apply zI_eq
  rw [zI_and, zz_nI_ofNat (by decide), zz_nI_ofNat (by omega)]
  unfold zF at ho h5 ⊢
  generalize zz_nI p = n at *
  have e : n = 2 ^ 26 * 1 + (2 ^ 21 * (n / 2 ^ 21 % 2 ^ 5) + (2 ^ 16 * (n / 2 ^ 16 % 2 ^ 5) + n % 2 ^ 16)) := by omega
  apply Nat.eq_of_testBit_eq
  intro i
  rw [Nat.testBit_and]
  by_cases h16 : i < 16
  · have a1 : Nat.testBit 4229890048 i = false := by
      have : ∀ i, i < 16 → Nat.testBit 4229890048 i = false := by decide
      exact this i h16
    have a2 : Nat.testBit (67108864 + 65536 * (n / 2 ^ 16 % 2 ^ 5)) i = false := by
      rw [show 67108864 + 65536 * (n / 2 ^ 16 % 2 ^ 5) = 2 ^ 16 * (1024 + n / 2 ^ 16 % 2 ^ 5) by omega, Nat.testBit_two_pow_mul]
      simp
      omega
    rw [a1, a2, Bool.and_false]
  · obtain ⟨k, rfl⟩ : ∃ k, i = k + 16 := ⟨i - 16, by omega⟩
    rw [show 67108864 + 65536 * (n / 2 ^ 16 % 2 ^ 5) = 2 ^ 16 * (1024 + n / 2 ^ 16 % 2 ^ 5) by omega, Nat.testBit_two_pow_mul]
    have b1 : Nat.testBit n (k + 16) = Nat.testBit (n / 2 ^ 16) k := by rw [Nat.testBit_div_two_pow]
    have b2 : Nat.testBit 4229890048 (k + 16) = Nat.testBit 64543 k := by
      rw [show (64543 : Nat) = 4229890048 / 2 ^ 16 by decide, Nat.testBit_div_two_pow]
    rw [b1, b2, ← Nat.testBit_and]
    have c : ∀ a, a < 32 → ∀ b, b < 32 → (2 ^ 10 * 1 + (2 ^ 5 * a + b)) &&& 64543 = 1024 + b := by decide +kernel
    have d1 : n / 2 ^ 16 = 2 ^ 10 * 1 + (2 ^ 5 * (n / 2 ^ 21 % 2 ^ 5) + n / 2 ^ 16 % 2 ^ 5) := by omega
    have d2 := c (n / 2 ^ 21 % 2 ^ 5) (by omega) (n / 2 ^ 16 % 2 ^ 5) (by omega)
    rw [← d1] at d2
    rw [d2]
    simp
theorem zD_n {l : Launch} {D : va_G} {cy : Nat → ClassId} {z0 : Nat} {sp : Nat → Nat} {G : State → Prop} {d : Nat} (hG : zz_GF z0 G) (hP : ∀ U, G U → zz_GD zS zS2 zLg z0 sp U) {v N M c : Nat} {w : zz_W} (r : zBr v N M c w) {p0 : Int32} (h : ∀ f, ¬ zcK p0 f) : zz_M l zTs D zcl zFK cy z0 sp (zTys cy) G zYN zCN zMQ zRT (d + 1) 122 [.ref 12, .int p0] w [.int (Int32.ofNat 4294967295)] w := by
  have h0 := h (zcf p0)
  have h51 := zcf_51 p0
  generalize e : zcf p0 = f at h0 h51
  have e2 := e
  unfold zcf at e
  rcases h51 with h51 | h51
  · have h2 : ¬ p0 &&& Int32.ofNat (zFx f) = Int32.ofNat (zBa f) := fun q => h0 ⟨e2, h51, q⟩
    obtain ⟨q1, q2, q3, l1⟩ := zFo_ok h51
    split at e
    · rename_i ho
      exact zD_0x hG hP r ho e h51 l1 q1 q2 q3 h2
    · rename_i ha
      split at e
      · rename_i ho
        have h5 := zF_lt p0 16 5
        have h6 := List.all_eq_true.mp zD_15 _ (List.mem_range.mpr h5)
        rw [e] at h6
        rcases Bool.or_eq_true_iff.mp h6 with h7 | h7
        · have := Nat.eq_of_beq_eq_true h7
          omega
        · obtain ⟨a, b⟩ := zz_and h7
          have a := of_decide_eq_true a
          have b := of_decide_eq_true b
          exact absurd (by rw [a, b]; exact zD_1a ho) h2
      · rename_i h9
        exact zD_2x hG hP r ha h9 e h51 l1 q1 q2 q3 h2
  · split at e
    · rename_i ho
      exact zD_0n hG hP r ho e h51
    · rename_i ha
      split at e
      · rename_i ho
        exact zD_1n hG hP r ho e h51
      · rename_i h9
        exact zD_2n hG hP r ha h9 e h51
theorem zup16 : zz_up zW3 16 (3, 13, 4, zz_to 64 zc_16 3 (zz_nI (Int32.ofNat 0))) = zW3 := zz_eqW_ok (by decide +kernel)
theorem zL_set0A {l : Launch} {D : va_G} {cy : Nat → ClassId} {z0 : Nat} {sp : Nat → Nat} {G : State → Prop} {d : Nat} (hG : zz_GF z0 G) (hP : ∀ U, G U → zz_GD zS zS2 zLg z0 sp U)  : zz_M l zTs D zcl zFK cy z0 sp (zTys cy) G zYN zCN zMQ zRT (d + 5) 165 [.ref 16, .int (Int32.ofNat 0)] zW3 [] zW3 := by
  have T := zt_165 (l := l) (D := D) (cy := cy) (z0 := z0) (sp := sp) (G := G) (d := (d + 4)) zz_k0_KS hG hP
  have TK := fun (K : zz_K) (h : zz_KS l D zcl zFK cy z0 sp (zTys cy) G zYN (fun y => Cond.code (zYN y) (zCN y) (zMQ y) (zRT y) :: zTs) (d + 4) K) => zt_165 h hG hP
  have b := zz_B_rf (l := l) (Ts := zTs) (D := D) (cl := zcl) (fk := zFK) (cy := cy) (z0 := z0) (sp := sp) (tys := zTys cy) (G := G) (own := "java/lang/AbstractStringBuilder") (mn := "setLength") (nL := 2) (cc := prog_15_method_13_code) (d := (d + 4)) ((0, [(0, .ref 16), (1, .int (Int32.ofNat 0))], [], zW3) : zz_F)
  replace b := zz_fw b T (rfl : zz_ent zP_165 0 = (0, za_iload 1 1)) (ze_iload rfl)
  replace b := zz_fw b T (rfl : zz_ent zP_165 1 = (0, za_if_ge 13 4)) (ze_if_ge_t (by decide))
  replace b := zz_fw b T (rfl : zz_ent zP_165 13 = (0, za_aload 0 14)) (ze_aload rfl)
  replace b := zz_fw b T (rfl : zz_ent zP_165 14 = (0, za_iload 1 15)) (ze_iload rfl)
  replace b := zz_fVv b TK (rfl : zz_ent zP_165 15 = (0, za_callV 13 199 1 18)) (zL_ens0 hG hP zBr_0 (Nat.zero_le _)) rfl rfl (zz_has_c zh_16) (zz_lb rfl)
  replace b := zz_fw b T (rfl : zz_ent zP_165 18 = (0, za_aload 0 19)) (ze_aload rfl)
  replace b := zz_fw b T (rfl : zz_ent zP_165 19 = (0, za_getI 13 3 22)) (ze_getI zh_16 (by decide) (congrArg Int32.ofNat zv_16_3))
  replace b := zz_fw b T (rfl : zz_ent zP_165 22 = (0, za_iload 1 23)) (ze_iload rfl)
  replace b := zz_fw b T (rfl : zz_ent zP_165 23 = (0, za_icmp_ge 63 26)) (ze_icmp_ge_t (by decide))
  replace b := zz_fw b T (rfl : zz_ent zP_165 63 = (0, za_aload 0 64)) (ze_aload rfl)
  replace b := zz_fw b T (rfl : zz_ent zP_165 64 = (0, za_getI 13 3 67)) (ze_getI zh_16 (by decide) (congrArg Int32.ofNat zv_16_3))
  replace b := zz_fw b T (rfl : zz_ent zP_165 67 = (0, za_iload 1 68)) (ze_iload rfl)
  replace b := zz_fw b T (rfl : zz_ent zP_165 68 = (0, za_icmp_le 76 71)) (ze_icmp_le_t (by decide))
  replace b := zz_fw b T (rfl : zz_ent zP_165 76 = (0, za_aload 0 77)) (ze_aload rfl)
  replace b := zz_fw b T (rfl : zz_ent zP_165 77 = (0, za_iload 1 78)) (ze_iload rfl)
  replace b := zz_fw b T (rfl : zz_ent zP_165 78 = (0, za_putI 13 3 81)) (ze_putI zs3 zh_16 (by decide))
  have m := zz_M_B (yn := zYN) (cn := zCN) (ml := zMQ) (rt := zRT) (y := 165) (as := [.ref 16, .int (Int32.ofNat 0)]) rfl rfl rfl rfl rfl (by decide +kernel) (zz_lb rfl) (zz_lb rfl) (zz_end_v (zr_165.1 81 rfl).1) b
  exact (by rw [zup16] at m; exact m)
theorem zL_set0 {l : Launch} {D : va_G} {cy : Nat → ClassId} {z0 : Nat} {sp : Nat → Nat} {G : State → Prop} {d : Nat} (hG : zz_GF z0 G) (hP : ∀ U, G U → zz_GD zS zS2 zLg z0 sp U)  : zz_M l zTs D zcl zFK cy z0 sp (zTys cy) G zYN zCN zMQ zRT (d + 6) 121 [.ref 16, .int (Int32.ofNat 0)] zW3 [] zW3 := by
  have T := zt_121 (l := l) (D := D) (cy := cy) (z0 := z0) (sp := sp) (G := G) (d := (d + 5)) zz_k0_KS hG hP
  have TK := fun (K : zz_K) (h : zz_KS l D zcl zFK cy z0 sp (zTys cy) G zYN (fun y => Cond.code (zYN y) (zCN y) (zMQ y) (zRT y) :: zTs) (d + 5) K) => zt_121 h hG hP
  have b := zz_B_rf (l := l) (Ts := zTs) (D := D) (cl := zcl) (fk := zFK) (cy := cy) (z0 := z0) (sp := sp) (tys := zTys cy) (G := G) (own := "java/lang/StringBuilder") (mn := "setLength") (nL := 2) (cc := prog_27_method_89_code) (d := (d + 5)) ((0, [(0, .ref 16), (1, .int (Int32.ofNat 0))], [], zW3) : zz_F)
  replace b := zz_fw b T (rfl : zz_ent zP_121 0 = (0, za_aload 0 1)) (ze_aload rfl)
  replace b := zz_fw b T (rfl : zz_ent zP_121 1 = (0, za_iload 1 2)) (ze_iload rfl)
  replace b := zz_fVv b TK (rfl : zz_ent zP_121 2 = (0, za_callV 13 165 1 5)) (zL_set0A hG hP) rfl rfl (zz_has_c zh_16) (zz_lb rfl)
  have m := zz_M_B (yn := zYN) (cn := zCN) (ml := zMQ) (rt := zRT) (y := 121) (as := [.ref 16, .int (Int32.ofNat 0)]) rfl rfl rfl rfl rfl (by decide +kernel) (zz_lb rfl) (zz_lb rfl) (zz_end_v (zr_121.1 5 rfl).1) b
  exact m
noncomputable def zWw : zz_W := match zz_rn (zP 128) (zMQ 128) (zz_cl zP zMQ 12) [.ref 16, .ref 1000056] zW3 with
  | some q => q.2
  | none => zW3
set_option maxRecDepth 100000 in
theorem zww_run : zz_endv (zz_rn (zP 128) (zMQ 128) (zz_cl zP zMQ 12) [.ref 16, .ref 1000056] zW3) [.ref 16] zWw = true := by decide +kernel
theorem zww_M {l : Launch} {D : va_G} {cy : Nat → ClassId} {z0 : Nat} {sp : Nat → Nat} {G : State → Prop} (hG : zz_GF z0 G) (hP : ∀ U, G U → zz_GD zS zS2 zLg z0 sp U) : zz_M l zTs D zcl zFK cy z0 sp (zTys cy) G zYN zCN zMQ zRT 13 128 [.ref 16, .ref 1000056] zW3 [.ref 16] zWw := zKS hG hP 13 _ _ _ _ _ (zz_endv_ok zww_run)
theorem zww_16 : zz_g zWw 16 = (3, 13, 4, (zz_g zWw 16).2.2.2) := by decide +kernel
theorem zww_17 : zz_g zWw 17 = (0, 1, 16, 46768052428617130083643771521932240450523534196782) := by decide +kernel
theorem zww_o : (List.range 329).all (fun i => (Nat.beq i 16 || Nat.beq i 17) || decide (zz_g zWw i = zz_g zW3 i)) = true := by decide +kernel
theorem zww_r : zBr 17 46768052428617130083643771521932240450523534196782 (zz_g zWw 16).2.2.2 16 zWw := by
  refine ⟨⟨by decide +kernel, by decide +kernel⟩, Or.inl ⟨rfl, rfl, by decide +kernel, by decide +kernel⟩, ⟨by decide +kernel, by decide, zww_16⟩, ⟨by decide +kernel, by decide, zww_17⟩, by decide +kernel, by decide +kernel, fun j => ?_, fun i h1 h2 h3 => ?_⟩
  · by_cases h : j < 6
    · have : ∀ j, j < 6 → zz_at 32 46768052428617130083643771521932240450523534196782 j < 128 := by decide +kernel
      exact this j h
    · have e : zz_at 32 46768052428617130083643771521932240450523534196782 j = 0 := by
        unfold zz_at
        rw [Nat.shiftRight_eq_div_pow, Nat.div_eq_of_lt, Nat.zero_mod]
        exact Nat.lt_of_lt_of_le (by decide +kernel : 46768052428617130083643771521932240450523534196782 < 2 ^ 192) (Nat.pow_le_pow_right (by decide) (by omega))
      rw [e]
      decide
  · have h4 := List.all_eq_true.mp zww_o i (List.mem_range.mpr h3)
    rcases Bool.or_eq_true_iff.mp h4 with h4 | h4
    · rcases Bool.or_eq_true_iff.mp h4 with h4 | h4
      · exact absurd (Nat.eq_of_beq_eq_true h4) h1
      · exact absurd (Nat.eq_of_beq_eq_true h4) h2
    · exact of_decide_eq_true h4
theorem zww_B : zB [46, 119, 111, 114, 100, 32] zWw := ⟨17, _, _, 16, zww_r, by decide +kernel, by decide, by
  have : ∀ j, j < 6 → zz_at 32 46768052428617130083643771521932240450523534196782 j = ([46, 119, 111, 114, 100, 32] : List Nat).getD j 0 := by decide +kernel
  exact this⟩
theorem zB_0 : zB [] zW3 := ⟨_, _, _, _, zBr_0, zv_16_3, by decide, fun j h => absurd h (Nat.not_lt_zero j)⟩
theorem zS_n {l : Launch} {D : va_G} {cy : Nat → ClassId} {z0 : Nat} {sp : Nat → Nat} {G : State → Prop} {d : Nat} (hG : zz_GF z0 G) (hP : ∀ U, G U → zz_GD zS zS2 zLg z0 sp U) {p0 p1 : Int32} (hn : ∀ f, ¬ zcK p0 f) (hW : zz_M l zTs D zcl zFK cy z0 sp (zTys cy) G zYN zCN zMQ zRT (d + 11) 128 [.ref 16, .ref 1000056] zW3 [.ref 16] zWw) : ∃ w', zz_B l zTs D zcl zFK cy z0 sp (zTys cy) G "ToolMill$Codes" "signOfWord" 4 prog_3_method_8_code (d + 11) (0, [(0, .ref 12), (1, .int p0), (2, .int p1)], [], zW3) (62, [(0, .ref 12), (1, .int p0), (2, .int p1)], [], w') ∧ zB ([46, 119, 111, 114, 100, 32] ++ zdc p0 ++ [10]) w' := by
  have T9 := zt_79 (l := l) (D := D) (cy := cy) (z0 := z0) (sp := sp) (G := G) (d := (d + 11)) zz_k0_KS hG hP
  have TK := fun (K : zz_K) (h : zz_KS l D zcl zFK cy z0 sp (zTys cy) G zYN (fun y => Cond.code (zYN y) (zCN y) (zMQ y) (zRT y) :: zTs) (d + 11) K) => zt_79 h hG hP
  have b := zz_B_rf (l := l) (Ts := zTs) (D := D) (cl := zcl) (fk := zFK) (cy := cy) (z0 := z0) (sp := sp) (tys := zTys cy) (G := G) (own := "ToolMill$Codes") (mn := "signOfWord") (nL := 4) (cc := prog_3_method_8_code) (d := (d + 11)) ((0, [(0, .ref 12), (1, .int p0), (2, .int p1)], [], zW3) : zz_F)
  replace b := zz_fw b T9 (rfl : zz_ent zP_79 0 = (0, za_aload 0 1)) (ze_aload rfl)
  replace b := zz_fw b T9 (rfl : zz_ent zP_79 1 = (0, za_getA 3 4 4)) (ze_getA (zB_o zB_0 zh_12 (by decide) (by decide) (by decide)) (by decide) zv_12_4)
  replace b := zz_fw b T9 (rfl : zz_ent zP_79 4 = (0, za_const (.int (Int32.ofNat 0)) 5)) (ze_const)
  replace b := zz_fVv b TK (rfl : zz_ent zP_79 5 = (0, za_callV 13 121 1 8)) (zL_set0 (d := d + 5) hG hP) rfl rfl (zB_ic zB_0) (zz_lb rfl)
  replace b := zz_fw b T9 (rfl : zz_ent zP_79 8 = (0, za_aload 0 9)) (ze_aload rfl)
  replace b := zz_fw b T9 (rfl : zz_ent zP_79 9 = (0, za_iload 1 10)) (ze_iload rfl)
  replace b := zz_fVi b TK (rfl : zz_ent zP_79 10 = (0, za_callV 3 122 1 13)) (zD_n (d := d + 10) hG hP zBr_0 hn) rfl rfl (zB_12 zB_0) (zz_lb rfl)
  replace b := zz_fw b T9 (rfl : zz_ent zP_79 13 = (0, za_istore 3 14)) (ze_istore (lv' := [(0, _), (1, _), (2, _)]) rfl)
  replace b := zz_fw b T9 (rfl : zz_ent zP_79 14 = (0, za_iload 3 15)) (ze_iload rfl)
  replace b := zz_fw b T9 (rfl : zz_ent zP_79 15 = (0, za_const (.int (Int32.ofNat 4294967295)) 16)) (ze_const)
  replace b := zz_fw b T9 (rfl : zz_ent zP_79 16 = (0, za_icmp_ne 41 19)) (ze_icmp_ne_f (by decide))
  replace b := zz_fw b T9 (rfl : zz_ent zP_79 19 = (0, za_aload 0 20)) (ze_aload rfl)
  replace b := zz_fw b T9 (rfl : zz_ent zP_79 20 = (0, za_getA 3 4 23)) (ze_getA (zB_o zB_0 zh_12 (by decide) (by decide) (by decide)) (by decide) zv_12_4)
  replace b := zz_fw b T9 (rfl : zz_ent zP_79 23 = (0, za_const (.ref 1000056) 25)) (ze_const)
  replace b := zz_fVi b TK (rfl : zz_ent zP_79 25 = (0, za_callV 13 128 1 28)) hW rfl rfl (zB_ic zB_0) (zz_lb rfl)
  replace b := zz_fw b T9 (rfl : zz_ent zP_79 28 = (0, za_pop 29)) (ze_pop rfl)
  replace b := zz_fw b T9 (rfl : zz_ent zP_79 29 = (0, za_aload 0 30)) (ze_aload rfl)
  replace b := zz_fw b T9 (rfl : zz_ent zP_79 30 = (0, za_getA 3 4 33)) (ze_getA (zB_o zww_B zh_12 (by decide) (by decide) (by decide)) (by decide) zv_12_4)
  replace b := zz_fw b T9 (rfl : zz_ent zP_79 33 = (0, za_iload 1 34)) (ze_iload rfl)
  obtain ⟨w1, hM1, hB1⟩ := zL_api (d := d + 5) (l := l) (D := D) (cy := cy) (sp := sp) hG hP zww_B (p0 := p0) (by have g := zdc_11 p0; show 6 + _ < 34; omega)
  replace b := zz_fVi b TK (rfl : zz_ent zP_79 34 = (0, za_callV 13 129 1 37)) hM1 rfl rfl (zB_ic zww_B) (zz_lb rfl)
  replace b := zz_fw b T9 (rfl : zz_ent zP_79 37 = (0, za_pop 38)) (ze_pop rfl)
  replace b := zz_fw b T9 (rfl : zz_ent zP_79 38 = (0, za_goto 52)) (ze_goto)
  replace b := zz_fw b T9 (rfl : zz_ent zP_79 52 = (0, za_aload 0 53)) (ze_aload rfl)
  replace b := zz_fw b T9 (rfl : zz_ent zP_79 53 = (0, za_getA 3 4 56)) (ze_getA (zB_o hB1 zh_12 (by decide) (by decide) (by decide)) (by decide) zv_12_4)
  replace b := zz_fw b T9 (rfl : zz_ent zP_79 56 = (0, za_const (.int (Int32.ofNat 10)) 58)) (ze_const)
  obtain ⟨w2, hM2, hB2⟩ := zL_apc (d := d + 5) (l := l) (D := D) (cy := cy) (sp := sp) hG hP hB1 (x := 10) (by have g := zdc_11 p0; rw [List.length_append]; show 6 + _ < 33; omega) (by decide)
  replace b := zz_fVi b TK (rfl : zz_ent zP_79 58 = (0, za_callV 13 125 1 61)) hM2 rfl rfl (zB_ic hB1) (zz_lb rfl)
  replace b := zz_fw b T9 (rfl : zz_ent zP_79 61 = (0, za_pop 62)) (ze_pop rfl)
  replace b := zz_fl (lv' := [(0, .ref 12), (1, .int p0), (2, .int p1)]) b (zz_mc (List.mem_cons_of_mem _ List.mem_cons_self) (zz_mc (List.mem_cons_of_mem _ (List.mem_cons_of_mem _ List.mem_cons_self)) (zz_mc (List.mem_cons_of_mem _ (List.mem_cons_of_mem _ (List.mem_cons_of_mem _ List.mem_cons_self))) zz_mn)))
  exact ⟨_, b, hB2⟩
theorem zNc_7 : (List.range 51).all (fun f => Nat.ble (zNc f).length 7) = true := by decide +kernel
theorem zNc_le {f : Nat} (h : f < 51) : (zNc f).length ≤ 7 := zz_ble (List.all_eq_true.mp zNc_7 f (List.mem_range.mpr h))
theorem zOp_25 (fo : Nat) (p : Int32) : (zOp fo p).length ≤ 25 := by
  have g1 := zRg_5 p 11
  have g2 := zRg_5 p 16
  have g3 := zRg_5 p 21
  unfold zOp
  split <;> simp only [List.length_append, List.length_singleton, List.length_cons, List.length_nil]
  · omega
  · have h := zdc_11 (Int32.ofNat (zF p 6 5))
    omega
  · omega
  · omega
  · omega
  · omega
  · omega
  · have h := zdc_11 (Int32.ofNat (zF p 16 10))
    omega
  · have h := zdc_11 (p.toInt16.toInt32)
    omega
  · have h := zdc_11 (p.toInt16.toInt32 &&& Int32.ofNat 65535)
    omega
  · have h := zdc_11 (p.toInt16.toInt32 &&& Int32.ofNat 65535)
    omega
  · have h := zdc_11 (p.toInt16.toInt32)
    omega
  · have h := zdc_11 (p.toInt16.toInt32)
    omega
  · have h := zdc_11 (p.toInt16.toInt32)
    omega
  · have h := zdc_11 (Int32.ofNat (zF p 0 26))
    omega
  · omega
theorem zl_m1 : ∀ f, f < 51 → ¬ Int32.ofNat f = Int32.ofNat 4294967295 := by decide +kernel
theorem zS_y {l : Launch} {D : va_G} {cy : Nat → ClassId} {z0 : Nat} {sp : Nat → Nat} {G : State → Prop} {d : Nat} (hG : zz_GF z0 G) (hP : ∀ U, G U → zz_GD zS zS2 zLg z0 sp U) {p0 p1 : Int32} {f : Nat} (hf : zcK p0 f) : ∃ w', zz_B l zTs D zcl zFK cy z0 sp (zTys cy) G "ToolMill$Codes" "signOfWord" 4 prog_3_method_8_code (d + 11) (0, [(0, .ref 12), (1, .int p0), (2, .int p1)], [], zW3) (62, [(0, .ref 12), (1, .int p0), (2, .int p1)], [], w') ∧ zB (zNc f ++ zOp (zFo f) p0 ++ [10]) w' := by
  have T9 := zt_79 (l := l) (D := D) (cy := cy) (z0 := z0) (sp := sp) (G := G) (d := (d + 11)) zz_k0_KS hG hP
  have TK := fun (K : zz_K) (h : zz_KS l D zcl zFK cy z0 sp (zTys cy) G zYN (fun y => Cond.code (zYN y) (zCN y) (zMQ y) (zRT y) :: zTs) (d + 11) K) => zt_79 h hG hP
  have b := zz_B_rf (l := l) (Ts := zTs) (D := D) (cl := zcl) (fk := zFK) (cy := cy) (z0 := z0) (sp := sp) (tys := zTys cy) (G := G) (own := "ToolMill$Codes") (mn := "signOfWord") (nL := 4) (cc := prog_3_method_8_code) (d := (d + 11)) ((0, [(0, .ref 12), (1, .int p0), (2, .int p1)], [], zW3) : zz_F)
  replace b := zz_fw b T9 (rfl : zz_ent zP_79 0 = (0, za_aload 0 1)) (ze_aload rfl)
  replace b := zz_fw b T9 (rfl : zz_ent zP_79 1 = (0, za_getA 3 4 4)) (ze_getA (zB_o zB_0 zh_12 (by decide) (by decide) (by decide)) (by decide) zv_12_4)
  replace b := zz_fw b T9 (rfl : zz_ent zP_79 4 = (0, za_const (.int (Int32.ofNat 0)) 5)) (ze_const)
  replace b := zz_fVv b TK (rfl : zz_ent zP_79 5 = (0, za_callV 13 121 1 8)) (zL_set0 (d := d + 5) hG hP) rfl rfl (zB_ic zB_0) (zz_lb rfl)
  replace b := zz_fw b T9 (rfl : zz_ent zP_79 8 = (0, za_aload 0 9)) (ze_aload rfl)
  replace b := zz_fw b T9 (rfl : zz_ent zP_79 9 = (0, za_iload 1 10)) (ze_iload rfl)
  replace b := zz_fVi b TK (rfl : zz_ent zP_79 10 = (0, za_callV 3 122 1 13)) (zD_y (d := d + 10) hG hP zBr_0 hf) rfl rfl (zB_12 zB_0) (zz_lb rfl)
  replace b := zz_fw b T9 (rfl : zz_ent zP_79 13 = (0, za_istore 3 14)) (ze_istore (lv' := [(0, _), (1, _), (2, _)]) rfl)
  replace b := zz_fw b T9 (rfl : zz_ent zP_79 14 = (0, za_iload 3 15)) (ze_iload rfl)
  replace b := zz_fw b T9 (rfl : zz_ent zP_79 15 = (0, za_const (.int (Int32.ofNat 4294967295)) 16)) (ze_const)
  replace b := zz_fw b T9 (rfl : zz_ent zP_79 16 = (0, za_icmp_ne 41 19)) (ze_icmp_ne_t (zl_m1 f hf.2.1))
  replace b := zz_fw b T9 (rfl : zz_ent zP_79 41 = (0, za_aload 0 42)) (ze_aload rfl)
  replace b := zz_fw b T9 (rfl : zz_ent zP_79 42 = (0, za_iload 3 43)) (ze_iload rfl)
  obtain ⟨w1, hM1, hB1⟩ := zL_nam (d := d + 4) (l := l) (D := D) (cy := cy) (sp := sp) hG hP zB_0 (id := f) (zIds_op hf.2.1) (by have g := zNc_le hf.2.1; show 0 + _ ≤ 33; omega)
  replace b := zz_fVv b TK (rfl : zz_ent zP_79 43 = (0, za_callV 3 123 1 46)) hM1 rfl rfl (zB_12 zB_0) (zz_lb rfl)
  replace b := zz_fw b T9 (rfl : zz_ent zP_79 46 = (0, za_aload 0 47)) (ze_aload rfl)
  replace b := zz_fw b T9 (rfl : zz_ent zP_79 47 = (0, za_iload 1 48)) (ze_iload rfl)
  replace b := zz_fw b T9 (rfl : zz_ent zP_79 48 = (0, za_iload 3 49)) (ze_iload rfl)
  obtain ⟨w2, hM2, hB2⟩ := zL_op (d := d) (l := l) (D := D) (cy := cy) (sp := sp) hG hP hB1 (p0 := p0) hf.2.1 (zFo_ok hf.2.1).1 (zFo_ok hf.2.1).2.2.2 (by rw [List.nil_append]; exact zNc_le hf.2.1)
  replace b := zz_fVv b TK (rfl : zz_ent zP_79 49 = (0, za_callV 3 124 2 52)) hM2 rfl rfl (zB_12 hB1) (zz_lb rfl)
  replace b := zz_fw b T9 (rfl : zz_ent zP_79 52 = (0, za_aload 0 53)) (ze_aload rfl)
  replace b := zz_fw b T9 (rfl : zz_ent zP_79 53 = (0, za_getA 3 4 56)) (ze_getA (zB_o hB2 zh_12 (by decide) (by decide) (by decide)) (by decide) zv_12_4)
  replace b := zz_fw b T9 (rfl : zz_ent zP_79 56 = (0, za_const (.int (Int32.ofNat 10)) 58)) (ze_const)
  obtain ⟨w3, hM3, hB3⟩ := zL_apc (d := d + 5) (l := l) (D := D) (cy := cy) (sp := sp) hG hP hB2 (x := 10) (by have g := zNc_le hf.2.1; have g2 := zOp_25 (zFo f) p0; rw [List.length_append, List.nil_append]; omega) (by decide)
  replace b := zz_fVi b TK (rfl : zz_ent zP_79 58 = (0, za_callV 13 125 1 61)) hM3 rfl rfl (zB_ic hB2) (zz_lb rfl)
  replace b := zz_fw b T9 (rfl : zz_ent zP_79 61 = (0, za_pop 62)) (ze_pop rfl)
  replace b := zz_fl (lv' := [(0, .ref 12), (1, .int p0), (2, .int p1)]) b (zz_mc (List.mem_cons_of_mem _ List.mem_cons_self) (zz_mc (List.mem_cons_of_mem _ (List.mem_cons_of_mem _ List.mem_cons_self)) (zz_mc (List.mem_cons_of_mem _ (List.mem_cons_of_mem _ (List.mem_cons_of_mem _ List.mem_cons_self))) zz_mn)))
  exact ⟨_, b, by rw [List.nil_append] at hB3; exact hB3⟩
/-- sign k of a text
-/
def zPk (T : List Nat) (k : Nat) : Int32 := if k < T.length then Int32.ofNat (T.getD k 0) else Int32.ofNat 4294967295
theorem zl_nn {k : Nat} (h : k < 2 ^ 31) : ¬ Int32.ofNat k < 0 := by
  rw [show (0 : Int32) = Int32.ofNat 0 from rfl, Int32.ofNat_lt_iff_lt h (by decide)]
  omega
theorem zS_o {l : Launch} {D : va_G} {cy : Nat → ClassId} {z0 : Nat} {sp : Nat → Nat} {G : State → Prop} {d : Nat} (hG : zz_GF z0 G) (hP : ∀ U, G U → zz_GD zS zS2 zLg z0 sp U) {T : List Nat} {w : zz_W} (hB : zB T w) {p0 : Int32} {k : Nat} (h2 : k < 2 ^ 31) (hk : T.length ≤ k) : zz_B l zTs D zcl zFK cy z0 sp (zTys cy) G "ToolMill$Codes" "signOfWord" 4 prog_3_method_8_code (d + 11) (62, [(0, .ref 12), (1, .int p0), (2, .int (Int32.ofNat k))], [], w) (89, [(0, .ref 12), (1, .int p0), (2, .int (Int32.ofNat k))], [.int (Int32.ofNat 4294967295)], w) := by
  obtain ⟨v, N, M, c, r, hn, hc, hx⟩ := hB
  have hcc := zBr_c r
  have T9 := zt_79 (l := l) (D := D) (cy := cy) (z0 := z0) (sp := sp) (G := G) (d := (d + 11)) zz_k0_KS hG hP
  have TK := fun (K : zz_K) (h : zz_KS l D zcl zFK cy z0 sp (zTys cy) G zYN (fun y => Cond.code (zYN y) (zCN y) (zMQ y) (zRT y) :: zTs) (d + 11) K) => zt_79 h hG hP
  have b := zz_B_rf (l := l) (Ts := zTs) (D := D) (cl := zcl) (fk := zFK) (cy := cy) (z0 := z0) (sp := sp) (tys := zTys cy) (G := G) (own := "ToolMill$Codes") (mn := "signOfWord") (nL := 4) (cc := prog_3_method_8_code) (d := (d + 11)) ((62, [(0, .ref 12), (1, .int p0), (2, .int (Int32.ofNat k))], [], w) : zz_F)
  replace b := zz_fw b T9 (rfl : zz_ent zP_79 62 = (0, za_iload 2 63)) (ze_iload rfl)
  replace b := zz_fw b T9 (rfl : zz_ent zP_79 63 = (0, za_if_lt 88 66)) (ze_if_lt_f (zl_nn h2))
  replace b := zz_fw b T9 (rfl : zz_ent zP_79 66 = (0, za_iload 2 67)) (ze_iload rfl)
  replace b := zz_fw b T9 (rfl : zz_ent zP_79 67 = (0, za_aload 0 68)) (ze_aload rfl)
  replace b := zz_fw b T9 (rfl : zz_ent zP_79 68 = (0, za_getA 3 4 71)) (ze_getA (zBr_o r zh_12 (by decide) (by decide) (by decide)) (by decide) zv_12_4)
  replace b := zz_fVi b TK (rfl : zz_ent zP_79 71 = (0, za_callV 13 126 0 74)) (zL_len (d := d + 9) hG hP r hn) rfl rfl (zz_has_c (zBr_16 r)) (zz_lb rfl)
  replace b := zz_fw b T9 (rfl : zz_ent zP_79 74 = (0, za_icmp_ge 88 77)) (ze_icmp_ge_t ((Int32.ofNat_le_iff_le (by omega) h2).mpr hk))
  replace b := zz_fw b T9 (rfl : zz_ent zP_79 88 = (0, za_const (.int (Int32.ofNat 4294967295)) 89)) (ze_const)
  exact b
theorem zS_i {l : Launch} {D : va_G} {cy : Nat → ClassId} {z0 : Nat} {sp : Nat → Nat} {G : State → Prop} {d : Nat} (hG : zz_GF z0 G) (hP : ∀ U, G U → zz_GD zS zS2 zLg z0 sp U) {T : List Nat} {w : zz_W} (hB : zB T w) {p0 : Int32} {k : Nat} (h2 : k < 2 ^ 31) (hk : k < T.length) : zz_B l zTs D zcl zFK cy z0 sp (zTys cy) G "ToolMill$Codes" "signOfWord" 4 prog_3_method_8_code (d + 11) (62, [(0, .ref 12), (1, .int p0), (2, .int (Int32.ofNat k))], [], w) (89, [(0, .ref 12), (1, .int p0), (2, .int (Int32.ofNat k))], [.int (Int32.ofNat (T.getD k 0))], w) := by
  obtain ⟨v, N, M, c, r, hn, hc, hx⟩ := hB
  have hcc := zBr_c r
  have T9 := zt_79 (l := l) (D := D) (cy := cy) (z0 := z0) (sp := sp) (G := G) (d := (d + 11)) zz_k0_KS hG hP
  have TK := fun (K : zz_K) (h : zz_KS l D zcl zFK cy z0 sp (zTys cy) G zYN (fun y => Cond.code (zYN y) (zCN y) (zMQ y) (zRT y) :: zTs) (d + 11) K) => zt_79 h hG hP
  have b := zz_B_rf (l := l) (Ts := zTs) (D := D) (cl := zcl) (fk := zFK) (cy := cy) (z0 := z0) (sp := sp) (tys := zTys cy) (G := G) (own := "ToolMill$Codes") (mn := "signOfWord") (nL := 4) (cc := prog_3_method_8_code) (d := (d + 11)) ((62, [(0, .ref 12), (1, .int p0), (2, .int (Int32.ofNat k))], [], w) : zz_F)
  replace b := zz_fw b T9 (rfl : zz_ent zP_79 62 = (0, za_iload 2 63)) (ze_iload rfl)
  replace b := zz_fw b T9 (rfl : zz_ent zP_79 63 = (0, za_if_lt 88 66)) (ze_if_lt_f (zl_nn h2))
  replace b := zz_fw b T9 (rfl : zz_ent zP_79 66 = (0, za_iload 2 67)) (ze_iload rfl)
  replace b := zz_fw b T9 (rfl : zz_ent zP_79 67 = (0, za_aload 0 68)) (ze_aload rfl)
  replace b := zz_fw b T9 (rfl : zz_ent zP_79 68 = (0, za_getA 3 4 71)) (ze_getA (zBr_o r zh_12 (by decide) (by decide) (by decide)) (by decide) zv_12_4)
  replace b := zz_fVi b TK (rfl : zz_ent zP_79 71 = (0, za_callV 13 126 0 74)) (zL_len (d := d + 9) hG hP r hn) rfl rfl (zz_has_c (zBr_16 r)) (zz_lb rfl)
  replace b := zz_fw b T9 (rfl : zz_ent zP_79 74 = (0, za_icmp_ge 88 77)) (ze_icmp_ge_f (fun q => absurd ((Int32.ofNat_le_iff_le (by omega) h2).mp q) (by omega)))
  replace b := zz_fw b T9 (rfl : zz_ent zP_79 77 = (0, za_aload 0 78)) (ze_aload rfl)
  replace b := zz_fw b T9 (rfl : zz_ent zP_79 78 = (0, za_getA 3 4 81)) (ze_getA (zBr_o r zh_12 (by decide) (by decide) (by decide)) (by decide) zv_12_4)
  replace b := zz_fw b T9 (rfl : zz_ent zP_79 81 = (0, za_iload 2 82)) (ze_iload rfl)
  replace b := zz_fVi b TK (rfl : zz_ent zP_79 82 = (0, za_callV 13 127 1 85)) (zL_ch (d := d + 7) hG hP r hn hc hk (hx k hk)) rfl rfl (zz_has_c (zBr_16 r)) (zz_lb rfl)
  replace b := zz_fw b T9 (rfl : zz_ent zP_79 85 = (0, za_goto 89)) (ze_goto)
  exact b
theorem zS_n_M {l : Launch} {D : va_G} {cy : Nat → ClassId} {z0 : Nat} {sp : Nat → Nat} {G : State → Prop} (hG : zz_GF z0 G) (hP : ∀ U, G U → zz_GD zS zS2 zLg z0 sp U) {p0 : Int32} (hn : ∀ f, ¬ zcK p0 f) {k : Nat} (h2 : k < 2 ^ 31) : ∃ w', zz_M l zTs D zcl zFK cy z0 sp (zTys cy) G zYN zCN zMQ zRT 14 79 [.ref 12, .int p0, .int (Int32.ofNat k)] zW3 [.int (zPk ([46, 119, 111, 114, 100, 32] ++ zdc p0 ++ [10]) k)] w' ∧ zB ([46, 119, 111, 114, 100, 32] ++ zdc p0 ++ [10]) w' := by
  obtain ⟨w1, b, hB⟩ := zS_n (d := 2) (l := l) (D := D) (cy := cy) (sp := sp) (p1 := Int32.ofNat k) hG hP hn (zww_M hG hP)
  refine ⟨w1, ?_, hB⟩
  unfold zPk
  split
  · rename_i hk
    exact zz_M_B (yn := zYN) (cn := zCN) (ml := zMQ) (rt := zRT) (y := 79) (as := [.ref 12, .int p0, .int (Int32.ofNat k)]) rfl rfl rfl rfl rfl (by decide +kernel) (zz_lb rfl) (zz_lb rfl) (zz_end_i (zr_79.2.1 89 rfl).1) (zz_B_tr b (zS_i (d := 2) hG hP hB h2 hk))
  · rename_i hk
    exact zz_M_B (yn := zYN) (cn := zCN) (ml := zMQ) (rt := zRT) (y := 79) (as := [.ref 12, .int p0, .int (Int32.ofNat k)]) rfl rfl rfl rfl rfl (by decide +kernel) (zz_lb rfl) (zz_lb rfl) (zz_end_i (zr_79.2.1 89 rfl).1) (zz_B_tr b (zS_o (d := 2) hG hP hB h2 (by omega)))
theorem zl_k0_n {k : Nat} (h : k < 2 ^ 31) : (0 : Int32) ≤ Int32.ofNat k := by
  rw [show (0 : Int32) = Int32.ofNat 0 from rfl, Int32.ofNat_le_iff_le (by decide) h]
  omega
theorem zMc_listing_n {l : Launch} {D : va_G} {cy : Nat → ClassId} {z0 : Nat} {sp : Nat → Nat} {G : State → Prop} (hG : zz_GF z0 G) (hP : ∀ U, G U → zz_GD zS zS2 zLg z0 sp U) {p0 : Int32} (hn : ∀ f, ¬ zcK p0 f) {k : Nat} (h2 : k < 2 ^ 31) : ∃ w', zz_M l zTs D zcl zFK cy z0 sp (zTys cy) G zYN zCN zMQ zRT 15 27 [.ref 0, .int p0, .int (Int32.ofNat k)] zW3 [.int (zPk ([46, 119, 111, 114, 100, 32] ++ zdc p0 ++ [10]) k)] w' ∧ zB ([46, 119, 111, 114, 100, 32] ++ zdc p0 ++ [10]) w' := by
  have T := zt_27 (l := l) (D := D) (cy := cy) (z0 := z0) (sp := sp) (G := G) (d := 14) zz_k0_KS hG hP
  have TK := fun (K : zz_K) (h : zz_KS l D zcl zFK cy z0 sp (zTys cy) G zYN (fun y => Cond.code (zYN y) (zCN y) (zMQ y) (zRT y) :: zTs) 14 K) => zt_27 h hG hP
  have b := zz_B_rf (l := l) (Ts := zTs) (D := D) (cl := zcl) (fk := zFK) (cy := cy) (z0 := z0) (sp := sp) (tys := zTys cy) (G := G) (own := "ToolMill") (mn := "listing") (nL := 3) (cc := prog_1_method_21_code) (d := 14) ((0, [(0, .ref 0), (1, .int p0), (2, .int (Int32.ofNat k))], [], zW3) : zz_F)
  replace b := zz_fw b T (rfl : zz_ent zP_27 0 = (0, za_iload 2 1)) (ze_iload rfl)
  replace b := zz_fw b T (rfl : zz_ent zP_27 1 = (0, za_if_ge 14 4)) (ze_if_ge_t (zl_k0_n h2))
  replace b := zz_fw b T (rfl : zz_ent zP_27 14 = (0, za_aload 0 15)) (ze_aload rfl)
  replace b := zz_fw b T (rfl : zz_ent zP_27 15 = (0, za_getA 1 11 18)) (ze_getA zh_0 (by decide) zv_0_11)
  replace b := zz_fw b T (rfl : zz_ent zP_27 18 = (0, za_iload 1 19)) (ze_iload rfl)
  replace b := zz_fw b T (rfl : zz_ent zP_27 19 = (0, za_iload 2 20)) (ze_iload rfl)
  obtain ⟨w1, hM1, hB1⟩ := zS_n_M (l := l) (D := D) (cy := cy) (sp := sp) hG hP hn h2
  replace b := zz_fVi b TK (rfl : zz_ent zP_27 20 = (0, za_callV 3 79 2 23)) hM1 rfl rfl (zz_has_c zh_12) (zz_lb rfl)
  have m := zz_M_B (yn := zYN) (cn := zCN) (ml := zMQ) (rt := zRT) (y := 27) (as := [.ref 0, .int p0, .int (Int32.ofNat k)]) rfl rfl rfl rfl rfl (by decide +kernel) (zz_lb rfl) (zz_lb rfl) (zz_end_i (zr_27.2.1 23 rfl).1) b
  exact ⟨_, m, hB1⟩
theorem zS_y_M {l : Launch} {D : va_G} {cy : Nat → ClassId} {z0 : Nat} {sp : Nat → Nat} {G : State → Prop} (hG : zz_GF z0 G) (hP : ∀ U, G U → zz_GD zS zS2 zLg z0 sp U) {p0 : Int32} {f : Nat} (hf : zcK p0 f) {k : Nat} (h2 : k < 2 ^ 31) : ∃ w', zz_M l zTs D zcl zFK cy z0 sp (zTys cy) G zYN zCN zMQ zRT 14 79 [.ref 12, .int p0, .int (Int32.ofNat k)] zW3 [.int (zPk (zNc f ++ zOp (zFo f) p0 ++ [10]) k)] w' ∧ zB (zNc f ++ zOp (zFo f) p0 ++ [10]) w' := by
  obtain ⟨w1, b, hB⟩ := zS_y (d := 2) (l := l) (D := D) (cy := cy) (sp := sp) (p1 := Int32.ofNat k) hG hP hf
  refine ⟨w1, ?_, hB⟩
  unfold zPk
  split
  · rename_i hk
    exact zz_M_B (yn := zYN) (cn := zCN) (ml := zMQ) (rt := zRT) (y := 79) (as := [.ref 12, .int p0, .int (Int32.ofNat k)]) rfl rfl rfl rfl rfl (by decide +kernel) (zz_lb rfl) (zz_lb rfl) (zz_end_i (zr_79.2.1 89 rfl).1) (zz_B_tr b (zS_i (d := 2) hG hP hB h2 hk))
  · rename_i hk
    exact zz_M_B (yn := zYN) (cn := zCN) (ml := zMQ) (rt := zRT) (y := 79) (as := [.ref 12, .int p0, .int (Int32.ofNat k)]) rfl rfl rfl rfl rfl (by decide +kernel) (zz_lb rfl) (zz_lb rfl) (zz_end_i (zr_79.2.1 89 rfl).1) (zz_B_tr b (zS_o (d := 2) hG hP hB h2 (by omega)))
theorem zl_k0_y {k : Nat} (h : k < 2 ^ 31) : (0 : Int32) ≤ Int32.ofNat k := by
  rw [show (0 : Int32) = Int32.ofNat 0 from rfl, Int32.ofNat_le_iff_le (by decide) h]
  omega
theorem zMc_listing_y {l : Launch} {D : va_G} {cy : Nat → ClassId} {z0 : Nat} {sp : Nat → Nat} {G : State → Prop} (hG : zz_GF z0 G) (hP : ∀ U, G U → zz_GD zS zS2 zLg z0 sp U) {p0 : Int32} {f : Nat} (hf : zcK p0 f) {k : Nat} (h2 : k < 2 ^ 31) : ∃ w', zz_M l zTs D zcl zFK cy z0 sp (zTys cy) G zYN zCN zMQ zRT 15 27 [.ref 0, .int p0, .int (Int32.ofNat k)] zW3 [.int (zPk (zNc f ++ zOp (zFo f) p0 ++ [10]) k)] w' ∧ zB (zNc f ++ zOp (zFo f) p0 ++ [10]) w' := by
  have T := zt_27 (l := l) (D := D) (cy := cy) (z0 := z0) (sp := sp) (G := G) (d := 14) zz_k0_KS hG hP
  have TK := fun (K : zz_K) (h : zz_KS l D zcl zFK cy z0 sp (zTys cy) G zYN (fun y => Cond.code (zYN y) (zCN y) (zMQ y) (zRT y) :: zTs) 14 K) => zt_27 h hG hP
  have b := zz_B_rf (l := l) (Ts := zTs) (D := D) (cl := zcl) (fk := zFK) (cy := cy) (z0 := z0) (sp := sp) (tys := zTys cy) (G := G) (own := "ToolMill") (mn := "listing") (nL := 3) (cc := prog_1_method_21_code) (d := 14) ((0, [(0, .ref 0), (1, .int p0), (2, .int (Int32.ofNat k))], [], zW3) : zz_F)
  replace b := zz_fw b T (rfl : zz_ent zP_27 0 = (0, za_iload 2 1)) (ze_iload rfl)
  replace b := zz_fw b T (rfl : zz_ent zP_27 1 = (0, za_if_ge 14 4)) (ze_if_ge_t (zl_k0_y h2))
  replace b := zz_fw b T (rfl : zz_ent zP_27 14 = (0, za_aload 0 15)) (ze_aload rfl)
  replace b := zz_fw b T (rfl : zz_ent zP_27 15 = (0, za_getA 1 11 18)) (ze_getA zh_0 (by decide) zv_0_11)
  replace b := zz_fw b T (rfl : zz_ent zP_27 18 = (0, za_iload 1 19)) (ze_iload rfl)
  replace b := zz_fw b T (rfl : zz_ent zP_27 19 = (0, za_iload 2 20)) (ze_iload rfl)
  obtain ⟨w1, hM1, hB1⟩ := zS_y_M (l := l) (D := D) (cy := cy) (sp := sp) hG hP hf h2
  replace b := zz_fVi b TK (rfl : zz_ent zP_27 20 = (0, za_callV 3 79 2 23)) hM1 rfl rfl (zz_has_c zh_12) (zz_lb rfl)
  have m := zz_M_B (yn := zYN) (cn := zCN) (ml := zMQ) (rt := zRT) (y := 27) (as := [.ref 0, .int p0, .int (Int32.ofNat k)]) rfl rfl rfl rfl rfl (by decide +kernel) (zz_lb rfl) (zz_lb rfl) (zz_end_i (zr_27.2.1 23 rfl).1) b
  exact ⟨_, m, hB1⟩
theorem zB_R {T : List Nat} {w : zz_W} (hB : zB T w) : zR w ∧ zz_has w 328 (1, 3, 1, zc_328) ∧ w.1 ≤ 330 ∧ w.2.1 ≤ 2300620 := by
  obtain ⟨v, N, M, c, r, -⟩ := hB
  obtain ⟨a1, a2, a3, a4, a5, a6, a7, a8⟩ := r
  have h1 : 329 ≤ w.1 ∧ w.1 ≤ 330 ∧ w.2.1 ≤ 2300620 := by omega
  exact ⟨⟨a1, h1.1, fun i h2 h3 => a8 i (by omega) (by omega) (by omega)⟩, ⟨by omega, by decide, (a8 328 (by decide) (by decide) (by decide)).trans zh_328.2.2⟩, h1.2⟩
