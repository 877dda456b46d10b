/-! listing of the reference, the call, by program -/
noncomputable def zc_319 : Nat := (zz_g zW3 319).2.2.2
theorem zh_319 : zz_has zW3 319 (0, 0, 64, zc_319) := ⟨by decide +kernel, by decide, rfl⟩
theorem zRg_all : (List.range 32).all (fun r => decide ([36] ++ zNr (93 + r) = zNc (93 + r))) = true := by decide +kernel
theorem zRg_r (p : Int32) (s : Nat) : [36] ++ zNr (93 + zF p s 5) = zRg p s := of_decide_eq_true (List.all_eq_true.mp zRg_all (zF p s 5) (List.mem_range.mpr (zF_lt p s 5)))
theorem zl_16 (p : Int32) : p &&& Int32.ofNat 65535 = p.toInt16.toInt32 &&& Int32.ofNat 65535 := by
  apply Int32.toBitVec_inj.mp
  rw [Int32.toBitVec_and, Int32.toBitVec_and, Int16.toBitVec_toInt32, Int32.toBitVec_toInt16]
  have e : (Int32.ofNat 65535).toBitVec = 65535#32 := by decide
  rw [e]
  generalize p.toBitVec = x
  apply BitVec.eq_of_getLsbD_eq
  intro i hi
  rw [BitVec.getLsbD_and, BitVec.getLsbD_and, BitVec.getLsbD_signExtend]
  by_cases h : i < 16
  · rw [if_pos h, decide_eq_true hi, Bool.true_and, BitVec.getLsbD_signExtend, if_pos (by omega), decide_eq_true h, Bool.true_and]
  · have e2 : (65535#32).getLsbD i = false := by
      revert h
      revert i
      decide
    rw [e2, Bool.and_false, Bool.and_false]
theorem zM_r1 {l : Launch} {D : va_G} {cy : Nat → ClassId} {z0 : Nat} {sp : Nat → Nat} {G : State → Prop} {d : Nat} (hG : zz_GF z0 G) (hP : ∀ U, G U → zz_GD zS zS2 zLg z0 sp U) {T : List Nat} {w0 w : zz_W} (hQ : zQ T w0 w) {p : Int32} {s : Nat} (hT : T.length ≤ 56) : ∃ w', zz_M l zTs D zcl zFK cy z0 sp (zTys cy) G zYN zCN zMQ zRT (d + 4) 131 [.ref 171, .int (Int32.ofNat (zF p s 5)), .int (Int32.ofNat 1)] w [] w' ∧ zQ (T ++ zRg p s ++ [44]) w0 w' := by
  obtain ⟨w1, h1, h2⟩ := zM_sr1 (d := d) (l := l) (D := D) (cy := cy) (sp := sp) hG hP hQ (zF_lt p s 5) hT
  rw [List.append_assoc T, zRg_r] at h2
  exact ⟨w1, h1, h2⟩
theorem zM_r0 {l : Launch} {D : va_G} {cy : Nat → ClassId} {z0 : Nat} {sp : Nat → Nat} {G : State → Prop} {d : Nat} (hG : zz_GF z0 G) (hP : ∀ U, G U → zz_GD zS zS2 zLg z0 sp U) {T : List Nat} {w0 w : zz_W} (hQ : zQ T w0 w) {p : Int32} {s : Nat} (hT : T.length ≤ 56) : ∃ w', zz_M l zTs D zcl zFK cy z0 sp (zTys cy) G zYN zCN zMQ zRT (d + 4) 131 [.ref 171, .int (Int32.ofNat (zF p s 5)), .int (Int32.ofNat 0)] w [] w' ∧ zQ (T ++ zRg p s) w0 w' := by
  obtain ⟨w1, h1, h2⟩ := zM_sr0 (d := d) (l := l) (D := D) (cy := cy) (sp := sp) hG hP hQ (zF_lt p s 5) hT
  rw [List.append_assoc T, zRg_r] at h2
  exact ⟨w1, h1, h2⟩
theorem zM_op_0 {l : Launch} {D : va_G} {cy : Nat → ClassId} {z0 : Nat} {sp : Nat → Nat} {G : State → Prop} {d : Nat} (hG : zz_GF z0 G) (hP : ∀ U, G U → zz_GD zS zS2 zLg z0 sp U) {T : List Nat} {w0 w : zz_W} (hQ : zQ (T ++ [32]) w0 w) {p0 : Int32} {g : Nat} (h1 : 0 ≤ g) (h2 : g ≤ 7) (hT : T.length ≤ 8) : ∃ w', zz_M l zTs D zcl zFK cy z0 sp (zTys cy) G zYN zCN zMQ zRT (d + 5) 87 [.ref 171, .int (Int32.ofNat g), .int p0] w [] w' ∧ zQ (T ++ zOp 0 p0) w0 w' := by
  have T9 := zt_87 (l := l) (D := D) (cy := cy) (z0 := z0) (sp := sp) (G := G) (d := (d + 4)) zz_k0_KS hG hP
  have TK := fun (K : zz_K) (h : zz_KS l D zcl zFK cy z0 sp (zTys cy) G zYN (fun y => Cond.code (zYN y) (zCN y) (zMQ y) (zRT y) :: zTs) (d + 4) K) => zt_87 h hG hP
  have b := zz_B_rf (l := l) (Ts := zTs) (D := D) (cl := zcl) (fk := zFK) (cy := cy) (z0 := z0) (sp := sp) (tys := zTys cy) (G := G) (own := "ToolMillModel") (mn := "showOperands") (nL := 7) (cc := prog_14_method_234_code) (d := (d + 4)) ((0, [(0, .ref 171), (1, .int (Int32.ofNat g)), (2, .int p0)], [], w) : zz_F)
  replace b := zz_fw b T9 (rfl : zz_ent zP_87 0 = (0, za_iload 2 1)) (ze_iload rfl)
  replace b := zz_fw b T9 (rfl : zz_ent zP_87 1 = (0, za_const (.int (Int32.ofNat 21)) 3)) (ze_const)
  replace b := zz_fw b T9 (rfl : zz_ent zP_87 3 = (0, za_const (.int (Int32.ofNat 5)) 4)) (ze_const)
  replace b := zz_fSi b TK (rfl : zz_ent zP_87 4 = (0, za_callS 130 3 7)) (zM_fd_21_5 hG hP) rfl rfl (zz_lb rfl)
  replace b := zz_fw b T9 (rfl : zz_ent zP_87 7 = (0, za_istore 3 8)) (ze_istore (lv' := [(0, _), (1, _), (2, _)]) rfl)
  replace b := zz_fw b T9 (rfl : zz_ent zP_87 8 = (0, za_iload 2 9)) (ze_iload rfl)
  replace b := zz_fw b T9 (rfl : zz_ent zP_87 9 = (0, za_const (.int (Int32.ofNat 16)) 11)) (ze_const)
  replace b := zz_fw b T9 (rfl : zz_ent zP_87 11 = (0, za_const (.int (Int32.ofNat 5)) 12)) (ze_const)
  replace b := zz_fSi b TK (rfl : zz_ent zP_87 12 = (0, za_callS 130 3 15)) (zM_fd_16_5 hG hP) rfl rfl (zz_lb rfl)
  replace b := zz_fw b T9 (rfl : zz_ent zP_87 15 = (0, za_istore 4 17)) (ze_istore (lv' := [(3, _), (0, _), (1, _), (2, _)]) rfl)
  replace b := zz_fw b T9 (rfl : zz_ent zP_87 17 = (0, za_iload 2 18)) (ze_iload rfl)
  replace b := zz_fw b T9 (rfl : zz_ent zP_87 18 = (0, za_const (.int (Int32.ofNat 11)) 20)) (ze_const)
  replace b := zz_fw b T9 (rfl : zz_ent zP_87 20 = (0, za_const (.int (Int32.ofNat 5)) 21)) (ze_const)
  replace b := zz_fSi b TK (rfl : zz_ent zP_87 21 = (0, za_callS 130 3 24)) (zM_fd_11_5 hG hP) rfl rfl (zz_lb rfl)
  replace b := zz_fw b T9 (rfl : zz_ent zP_87 24 = (0, za_istore 5 26)) (ze_istore (lv' := [(4, _), (3, _), (0, _), (1, _), (2, _)]) rfl)
  replace b := zz_fw b T9 (rfl : zz_ent zP_87 26 = (0, za_iload 2 27)) (ze_iload rfl)
  replace b := zz_fw b T9 (rfl : zz_ent zP_87 27 = (0, za_i2s 28)) (ze_i2s rfl)
  replace b := zz_fw b T9 (rfl : zz_ent zP_87 28 = (0, za_istore 6 30)) (ze_istore (lv' := [(5, _), (4, _), (3, _), (0, _), (1, _), (2, _)]) rfl)
  replace b := zz_fw b T9 (rfl : zz_ent zP_87 30 = (0, za_iload 1 31)) (ze_iload rfl)
  replace b := zz_fw b T9 (rfl : zz_ent zP_87 31 = (0, za_const (.int (Int32.ofNat 7)) 33)) (ze_const)
  replace b := zz_fw b T9 (rfl : zz_ent zP_87 33 = (0, za_icmp_gt 59 36)) (ze_icmp_gt_f (zl_ngt g (by omega) 7 (by decide) (by omega)))
  replace b := zz_fw b T9 (rfl : zz_ent zP_87 36 = (0, za_aload 0 37)) (ze_aload rfl)
  replace b := zz_fw b T9 (rfl : zz_ent zP_87 37 = (0, za_iload 5 39)) (ze_iload rfl)
  replace b := zz_fw b T9 (rfl : zz_ent zP_87 39 = (0, za_const (.int (Int32.ofNat 1)) 40)) (ze_const)
  obtain ⟨w1, hM1, hQ1⟩ := zM_r1 (d := d) (l := l) (D := D) (cy := cy) (sp := sp) hG hP hQ (p := p0) (s := 11) (by have g1 := zRg_5 p0 11; have g2 := zRg_5 p0 16; have g3 := zRg_5 p0 21; have g4 := zdc_11 p0.toInt16.toInt32; (try simp only [List.length_append, List.length_singleton] at hT ⊢); (try simp only [List.length_append, List.length_singleton]); omega)
  replace b := zz_fVv b TK (rfl : zz_ent zP_87 40 = (0, za_callV 0 131 2 43)) hM1 rfl rfl (zQ_ic hQ) (zz_lb rfl)
  replace b := zz_fw b T9 (rfl : zz_ent zP_87 43 = (0, za_aload 0 44)) (ze_aload rfl)
  replace b := zz_fw b T9 (rfl : zz_ent zP_87 44 = (0, za_iload 3 45)) (ze_iload rfl)
  replace b := zz_fw b T9 (rfl : zz_ent zP_87 45 = (0, za_const (.int (Int32.ofNat 1)) 46)) (ze_const)
  obtain ⟨w2, hM2, hQ2⟩ := zM_r1 (d := d) (l := l) (D := D) (cy := cy) (sp := sp) hG hP hQ1 (p := p0) (s := 21) (by have g1 := zRg_5 p0 11; have g2 := zRg_5 p0 16; have g3 := zRg_5 p0 21; have g4 := zdc_11 p0.toInt16.toInt32; (try simp only [List.length_append, List.length_singleton] at hT ⊢); (try simp only [List.length_append, List.length_singleton]); omega)
  replace b := zz_fVv b TK (rfl : zz_ent zP_87 46 = (0, za_callV 0 131 2 49)) hM2 rfl rfl (zQ_ic hQ1) (zz_lb rfl)
  replace b := zz_fw b T9 (rfl : zz_ent zP_87 49 = (0, za_aload 0 50)) (ze_aload rfl)
  replace b := zz_fw b T9 (rfl : zz_ent zP_87 50 = (0, za_iload 4 52)) (ze_iload rfl)
  replace b := zz_fw b T9 (rfl : zz_ent zP_87 52 = (0, za_const (.int (Int32.ofNat 0)) 53)) (ze_const)
  obtain ⟨w3, hM3, hQ3⟩ := zM_r0 (d := d) (l := l) (D := D) (cy := cy) (sp := sp) hG hP hQ2 (p := p0) (s := 16) (by have g1 := zRg_5 p0 11; have g2 := zRg_5 p0 16; have g3 := zRg_5 p0 21; have g4 := zdc_11 p0.toInt16.toInt32; (try simp only [List.length_append, List.length_singleton] at hT ⊢); (try simp only [List.length_append, List.length_singleton]); omega)
  replace b := zz_fVv b TK (rfl : zz_ent zP_87 53 = (0, za_callV 0 131 2 56)) hM3 rfl rfl (zQ_ic hQ2) (zz_lb rfl)
  replace b := zz_fw b T9 (rfl : zz_ent zP_87 56 = (0, za_goto 348)) (ze_goto)
  have m := zz_M_B (yn := zYN) (cn := zCN) (ml := zMQ) (rt := zRT) (y := 87) (as := [.ref 171, .int (Int32.ofNat g), .int p0]) rfl rfl rfl rfl rfl (by decide +kernel) (zz_lb rfl) (zz_lb rfl) (zz_end_v (zr_87.1 348 rfl).1) b
  exact ⟨_, m, by have e := hQ3; simp only [List.append_assoc] at e; exact e⟩
theorem zM_op_1 {l : Launch} {D : va_G} {cy : Nat → ClassId} {z0 : Nat} {sp : Nat → Nat} {G : State → Prop} {d : Nat} (hG : zz_GF z0 G) (hP : ∀ U, G U → zz_GD zS zS2 zLg z0 sp U) {T : List Nat} {w0 w : zz_W} (hQ : zQ (T ++ [32]) w0 w) {p0 : Int32} {g : Nat} (h1 : 8 ≤ g) (h2 : g ≤ 10) (hT : T.length ≤ 8) : ∃ w', zz_M l zTs D zcl zFK cy z0 sp (zTys cy) G zYN zCN zMQ zRT (d + 5) 87 [.ref 171, .int (Int32.ofNat g), .int p0] w [] w' ∧ zQ (T ++ zOp 1 p0) w0 w' := by
  have T9 := zt_87 (l := l) (D := D) (cy := cy) (z0 := z0) (sp := sp) (G := G) (d := (d + 4)) zz_k0_KS hG hP
  have TK := fun (K : zz_K) (h : zz_KS l D zcl zFK cy z0 sp (zTys cy) G zYN (fun y => Cond.code (zYN y) (zCN y) (zMQ y) (zRT y) :: zTs) (d + 4) K) => zt_87 h hG hP
  have b := zz_B_rf (l := l) (Ts := zTs) (D := D) (cl := zcl) (fk := zFK) (cy := cy) (z0 := z0) (sp := sp) (tys := zTys cy) (G := G) (own := "ToolMillModel") (mn := "showOperands") (nL := 7) (cc := prog_14_method_234_code) (d := (d + 4)) ((0, [(0, .ref 171), (1, .int (Int32.ofNat g)), (2, .int p0)], [], w) : zz_F)
  replace b := zz_fw b T9 (rfl : zz_ent zP_87 0 = (0, za_iload 2 1)) (ze_iload rfl)
  replace b := zz_fw b T9 (rfl : zz_ent zP_87 1 = (0, za_const (.int (Int32.ofNat 21)) 3)) (ze_const)
  replace b := zz_fw b T9 (rfl : zz_ent zP_87 3 = (0, za_const (.int (Int32.ofNat 5)) 4)) (ze_const)
  replace b := zz_fSi b TK (rfl : zz_ent zP_87 4 = (0, za_callS 130 3 7)) (zM_fd_21_5 hG hP) rfl rfl (zz_lb rfl)
  replace b := zz_fw b T9 (rfl : zz_ent zP_87 7 = (0, za_istore 3 8)) (ze_istore (lv' := [(0, _), (1, _), (2, _)]) rfl)
  replace b := zz_fw b T9 (rfl : zz_ent zP_87 8 = (0, za_iload 2 9)) (ze_iload rfl)
  replace b := zz_fw b T9 (rfl : zz_ent zP_87 9 = (0, za_const (.int (Int32.ofNat 16)) 11)) (ze_const)
  replace b := zz_fw b T9 (rfl : zz_ent zP_87 11 = (0, za_const (.int (Int32.ofNat 5)) 12)) (ze_const)
  replace b := zz_fSi b TK (rfl : zz_ent zP_87 12 = (0, za_callS 130 3 15)) (zM_fd_16_5 hG hP) rfl rfl (zz_lb rfl)
  replace b := zz_fw b T9 (rfl : zz_ent zP_87 15 = (0, za_istore 4 17)) (ze_istore (lv' := [(3, _), (0, _), (1, _), (2, _)]) rfl)
  replace b := zz_fw b T9 (rfl : zz_ent zP_87 17 = (0, za_iload 2 18)) (ze_iload rfl)
  replace b := zz_fw b T9 (rfl : zz_ent zP_87 18 = (0, za_const (.int (Int32.ofNat 11)) 20)) (ze_const)
  replace b := zz_fw b T9 (rfl : zz_ent zP_87 20 = (0, za_const (.int (Int32.ofNat 5)) 21)) (ze_const)
  replace b := zz_fSi b TK (rfl : zz_ent zP_87 21 = (0, za_callS 130 3 24)) (zM_fd_11_5 hG hP) rfl rfl (zz_lb rfl)
  replace b := zz_fw b T9 (rfl : zz_ent zP_87 24 = (0, za_istore 5 26)) (ze_istore (lv' := [(4, _), (3, _), (0, _), (1, _), (2, _)]) rfl)
  replace b := zz_fw b T9 (rfl : zz_ent zP_87 26 = (0, za_iload 2 27)) (ze_iload rfl)
  replace b := zz_fw b T9 (rfl : zz_ent zP_87 27 = (0, za_i2s 28)) (ze_i2s rfl)
  replace b := zz_fw b T9 (rfl : zz_ent zP_87 28 = (0, za_istore 6 30)) (ze_istore (lv' := [(5, _), (4, _), (3, _), (0, _), (1, _), (2, _)]) rfl)
  replace b := zz_fw b T9 (rfl : zz_ent zP_87 30 = (0, za_iload 1 31)) (ze_iload rfl)
  replace b := zz_fw b T9 (rfl : zz_ent zP_87 31 = (0, za_const (.int (Int32.ofNat 7)) 33)) (ze_const)
  replace b := zz_fw b T9 (rfl : zz_ent zP_87 33 = (0, za_icmp_gt 59 36)) (ze_icmp_gt_t (zl_gt g (by omega) 7 (by decide) (by omega)))
  replace b := zz_fw b T9 (rfl : zz_ent zP_87 59 = (0, za_iload 1 60)) (ze_iload rfl)
  replace b := zz_fw b T9 (rfl : zz_ent zP_87 60 = (0, za_const (.int (Int32.ofNat 10)) 62)) (ze_const)
  replace b := zz_fw b T9 (rfl : zz_ent zP_87 62 = (0, za_icmp_gt 93 65)) (ze_icmp_gt_f (zl_ngt g (by omega) 10 (by decide) (by omega)))
  replace b := zz_fw b T9 (rfl : zz_ent zP_87 65 = (0, za_aload 0 66)) (ze_aload rfl)
  replace b := zz_fw b T9 (rfl : zz_ent zP_87 66 = (0, za_iload 5 68)) (ze_iload rfl)
  replace b := zz_fw b T9 (rfl : zz_ent zP_87 68 = (0, za_const (.int (Int32.ofNat 1)) 69)) (ze_const)
  obtain ⟨w1, hM1, hQ1⟩ := zM_r1 (d := d) (l := l) (D := D) (cy := cy) (sp := sp) hG hP hQ (p := p0) (s := 11) (by have g1 := zRg_5 p0 11; have g2 := zRg_5 p0 16; have g3 := zRg_5 p0 21; have g4 := zdc_11 p0.toInt16.toInt32; (try simp only [List.length_append, List.length_singleton] at hT ⊢); (try simp only [List.length_append, List.length_singleton]); omega)
  replace b := zz_fVv b TK (rfl : zz_ent zP_87 69 = (0, za_callV 0 131 2 72)) hM1 rfl rfl (zQ_ic hQ) (zz_lb rfl)
  replace b := zz_fw b T9 (rfl : zz_ent zP_87 72 = (0, za_aload 0 73)) (ze_aload rfl)
  replace b := zz_fw b T9 (rfl : zz_ent zP_87 73 = (0, za_iload 4 75)) (ze_iload rfl)
  replace b := zz_fw b T9 (rfl : zz_ent zP_87 75 = (0, za_const (.int (Int32.ofNat 1)) 76)) (ze_const)
  obtain ⟨w2, hM2, hQ2⟩ := zM_r1 (d := d) (l := l) (D := D) (cy := cy) (sp := sp) hG hP hQ1 (p := p0) (s := 16) (by have g1 := zRg_5 p0 11; have g2 := zRg_5 p0 16; have g3 := zRg_5 p0 21; have g4 := zdc_11 p0.toInt16.toInt32; (try simp only [List.length_append, List.length_singleton] at hT ⊢); (try simp only [List.length_append, List.length_singleton]); omega)
  replace b := zz_fVv b TK (rfl : zz_ent zP_87 76 = (0, za_callV 0 131 2 79)) hM2 rfl rfl (zQ_ic hQ1) (zz_lb rfl)
  replace b := zz_fw b T9 (rfl : zz_ent zP_87 79 = (0, za_aload 0 80)) (ze_aload rfl)
  replace b := zz_fw b T9 (rfl : zz_ent zP_87 80 = (0, za_iload 2 81)) (ze_iload rfl)
  replace b := zz_fw b T9 (rfl : zz_ent zP_87 81 = (0, za_const (.int (Int32.ofNat 6)) 83)) (ze_const)
  replace b := zz_fw b T9 (rfl : zz_ent zP_87 83 = (0, za_const (.int (Int32.ofNat 5)) 84)) (ze_const)
  replace b := zz_fSi b TK (rfl : zz_ent zP_87 84 = (0, za_callS 130 3 87)) (zM_fd_6_5 hG hP) rfl rfl (zz_lb rfl)
  obtain ⟨w3, hM3, hQ3⟩ := zM_num (d := d + 2) (l := l) (D := D) (cy := cy) (sp := sp) hG hP hQ2 (p0 := (Int32.ofNat (zF p0 6 5))) (by have g1 := zRg_5 p0 11; have g2 := zRg_5 p0 16; have g3 := zRg_5 p0 21; have g4 := zdc_11 (Int32.ofNat (zF p0 6 5)); (try simp only [List.length_append, List.length_singleton] at hT ⊢); (try simp only [List.length_append, List.length_singleton]); omega)
  replace b := zz_fVv b TK (rfl : zz_ent zP_87 87 = (0, za_callV 0 88 1 90)) hM3 rfl rfl (zQ_ic hQ2) (zz_lb rfl)
  replace b := zz_fw b T9 (rfl : zz_ent zP_87 90 = (0, za_goto 348)) (ze_goto)
  have m := zz_M_B (yn := zYN) (cn := zCN) (ml := zMQ) (rt := zRT) (y := 87) (as := [.ref 171, .int (Int32.ofNat g), .int p0]) rfl rfl rfl rfl rfl (by decide +kernel) (zz_lb rfl) (zz_lb rfl) (zz_end_v (zr_87.1 348 rfl).1) b
  exact ⟨_, m, by have e := hQ3; simp only [List.append_assoc] at e; exact e⟩
theorem zM_op_2 {l : Launch} {D : va_G} {cy : Nat → ClassId} {z0 : Nat} {sp : Nat → Nat} {G : State → Prop} {d : Nat} (hG : zz_GF z0 G) (hP : ∀ U, G U → zz_GD zS zS2 zLg z0 sp U) {T : List Nat} {w0 w : zz_W} (hQ : zQ (T ++ [32]) w0 w) {p0 : Int32} {g : Nat} (h1 : 11 ≤ g) (h2 : g ≤ 13) (hT : T.length ≤ 8) : ∃ w', zz_M l zTs D zcl zFK cy z0 sp (zTys cy) G zYN zCN zMQ zRT (d + 5) 87 [.ref 171, .int (Int32.ofNat g), .int p0] w [] w' ∧ zQ (T ++ zOp 2 p0) w0 w' := by
  have T9 := zt_87 (l := l) (D := D) (cy := cy) (z0 := z0) (sp := sp) (G := G) (d := (d + 4)) zz_k0_KS hG hP
  have TK := fun (K : zz_K) (h : zz_KS l D zcl zFK cy z0 sp (zTys cy) G zYN (fun y => Cond.code (zYN y) (zCN y) (zMQ y) (zRT y) :: zTs) (d + 4) K) => zt_87 h hG hP
  have b := zz_B_rf (l := l) (Ts := zTs) (D := D) (cl := zcl) (fk := zFK) (cy := cy) (z0 := z0) (sp := sp) (tys := zTys cy) (G := G) (own := "ToolMillModel") (mn := "showOperands") (nL := 7) (cc := prog_14_method_234_code) (d := (d + 4)) ((0, [(0, .ref 171), (1, .int (Int32.ofNat g)), (2, .int p0)], [], w) : zz_F)
  replace b := zz_fw b T9 (rfl : zz_ent zP_87 0 = (0, za_iload 2 1)) (ze_iload rfl)
  replace b := zz_fw b T9 (rfl : zz_ent zP_87 1 = (0, za_const (.int (Int32.ofNat 21)) 3)) (ze_const)
  replace b := zz_fw b T9 (rfl : zz_ent zP_87 3 = (0, za_const (.int (Int32.ofNat 5)) 4)) (ze_const)
  replace b := zz_fSi b TK (rfl : zz_ent zP_87 4 = (0, za_callS 130 3 7)) (zM_fd_21_5 hG hP) rfl rfl (zz_lb rfl)
  replace b := zz_fw b T9 (rfl : zz_ent zP_87 7 = (0, za_istore 3 8)) (ze_istore (lv' := [(0, _), (1, _), (2, _)]) rfl)
  replace b := zz_fw b T9 (rfl : zz_ent zP_87 8 = (0, za_iload 2 9)) (ze_iload rfl)
  replace b := zz_fw b T9 (rfl : zz_ent zP_87 9 = (0, za_const (.int (Int32.ofNat 16)) 11)) (ze_const)
  replace b := zz_fw b T9 (rfl : zz_ent zP_87 11 = (0, za_const (.int (Int32.ofNat 5)) 12)) (ze_const)
  replace b := zz_fSi b TK (rfl : zz_ent zP_87 12 = (0, za_callS 130 3 15)) (zM_fd_16_5 hG hP) rfl rfl (zz_lb rfl)
  replace b := zz_fw b T9 (rfl : zz_ent zP_87 15 = (0, za_istore 4 17)) (ze_istore (lv' := [(3, _), (0, _), (1, _), (2, _)]) rfl)
  replace b := zz_fw b T9 (rfl : zz_ent zP_87 17 = (0, za_iload 2 18)) (ze_iload rfl)
  replace b := zz_fw b T9 (rfl : zz_ent zP_87 18 = (0, za_const (.int (Int32.ofNat 11)) 20)) (ze_const)
  replace b := zz_fw b T9 (rfl : zz_ent zP_87 20 = (0, za_const (.int (Int32.ofNat 5)) 21)) (ze_const)
  replace b := zz_fSi b TK (rfl : zz_ent zP_87 21 = (0, za_callS 130 3 24)) (zM_fd_11_5 hG hP) rfl rfl (zz_lb rfl)
  replace b := zz_fw b T9 (rfl : zz_ent zP_87 24 = (0, za_istore 5 26)) (ze_istore (lv' := [(4, _), (3, _), (0, _), (1, _), (2, _)]) rfl)
  replace b := zz_fw b T9 (rfl : zz_ent zP_87 26 = (0, za_iload 2 27)) (ze_iload rfl)
  replace b := zz_fw b T9 (rfl : zz_ent zP_87 27 = (0, za_i2s 28)) (ze_i2s rfl)
  replace b := zz_fw b T9 (rfl : zz_ent zP_87 28 = (0, za_istore 6 30)) (ze_istore (lv' := [(5, _), (4, _), (3, _), (0, _), (1, _), (2, _)]) rfl)
  replace b := zz_fw b T9 (rfl : zz_ent zP_87 30 = (0, za_iload 1 31)) (ze_iload rfl)
  replace b := zz_fw b T9 (rfl : zz_ent zP_87 31 = (0, za_const (.int (Int32.ofNat 7)) 33)) (ze_const)
  replace b := zz_fw b T9 (rfl : zz_ent zP_87 33 = (0, za_icmp_gt 59 36)) (ze_icmp_gt_t (zl_gt g (by omega) 7 (by decide) (by omega)))
  replace b := zz_fw b T9 (rfl : zz_ent zP_87 59 = (0, za_iload 1 60)) (ze_iload rfl)
  replace b := zz_fw b T9 (rfl : zz_ent zP_87 60 = (0, za_const (.int (Int32.ofNat 10)) 62)) (ze_const)
  replace b := zz_fw b T9 (rfl : zz_ent zP_87 62 = (0, za_icmp_gt 93 65)) (ze_icmp_gt_t (zl_gt g (by omega) 10 (by decide) (by omega)))
  replace b := zz_fw b T9 (rfl : zz_ent zP_87 93 = (0, za_iload 1 94)) (ze_iload rfl)
  replace b := zz_fw b T9 (rfl : zz_ent zP_87 94 = (0, za_const (.int (Int32.ofNat 13)) 96)) (ze_const)
  replace b := zz_fw b T9 (rfl : zz_ent zP_87 96 = (0, za_icmp_gt 122 99)) (ze_icmp_gt_f (zl_ngt g (by omega) 13 (by decide) (by omega)))
  replace b := zz_fw b T9 (rfl : zz_ent zP_87 99 = (0, za_aload 0 100)) (ze_aload rfl)
  replace b := zz_fw b T9 (rfl : zz_ent zP_87 100 = (0, za_iload 5 102)) (ze_iload rfl)
  replace b := zz_fw b T9 (rfl : zz_ent zP_87 102 = (0, za_const (.int (Int32.ofNat 1)) 103)) (ze_const)
  obtain ⟨w1, hM1, hQ1⟩ := zM_r1 (d := d) (l := l) (D := D) (cy := cy) (sp := sp) hG hP hQ (p := p0) (s := 11) (by have g1 := zRg_5 p0 11; have g2 := zRg_5 p0 16; have g3 := zRg_5 p0 21; have g4 := zdc_11 p0.toInt16.toInt32; (try simp only [List.length_append, List.length_singleton] at hT ⊢); (try simp only [List.length_append, List.length_singleton]); omega)
  replace b := zz_fVv b TK (rfl : zz_ent zP_87 103 = (0, za_callV 0 131 2 106)) hM1 rfl rfl (zQ_ic hQ) (zz_lb rfl)
  replace b := zz_fw b T9 (rfl : zz_ent zP_87 106 = (0, za_aload 0 107)) (ze_aload rfl)
  replace b := zz_fw b T9 (rfl : zz_ent zP_87 107 = (0, za_iload 4 109)) (ze_iload rfl)
  replace b := zz_fw b T9 (rfl : zz_ent zP_87 109 = (0, za_const (.int (Int32.ofNat 1)) 110)) (ze_const)
  obtain ⟨w2, hM2, hQ2⟩ := zM_r1 (d := d) (l := l) (D := D) (cy := cy) (sp := sp) hG hP hQ1 (p := p0) (s := 16) (by have g1 := zRg_5 p0 11; have g2 := zRg_5 p0 16; have g3 := zRg_5 p0 21; have g4 := zdc_11 p0.toInt16.toInt32; (try simp only [List.length_append, List.length_singleton] at hT ⊢); (try simp only [List.length_append, List.length_singleton]); omega)
  replace b := zz_fVv b TK (rfl : zz_ent zP_87 110 = (0, za_callV 0 131 2 113)) hM2 rfl rfl (zQ_ic hQ1) (zz_lb rfl)
  replace b := zz_fw b T9 (rfl : zz_ent zP_87 113 = (0, za_aload 0 114)) (ze_aload rfl)
  replace b := zz_fw b T9 (rfl : zz_ent zP_87 114 = (0, za_iload 3 115)) (ze_iload rfl)
  replace b := zz_fw b T9 (rfl : zz_ent zP_87 115 = (0, za_const (.int (Int32.ofNat 0)) 116)) (ze_const)
  obtain ⟨w3, hM3, hQ3⟩ := zM_r0 (d := d) (l := l) (D := D) (cy := cy) (sp := sp) hG hP hQ2 (p := p0) (s := 21) (by have g1 := zRg_5 p0 11; have g2 := zRg_5 p0 16; have g3 := zRg_5 p0 21; have g4 := zdc_11 p0.toInt16.toInt32; (try simp only [List.length_append, List.length_singleton] at hT ⊢); (try simp only [List.length_append, List.length_singleton]); omega)
  replace b := zz_fVv b TK (rfl : zz_ent zP_87 116 = (0, za_callV 0 131 2 119)) hM3 rfl rfl (zQ_ic hQ2) (zz_lb rfl)
  replace b := zz_fw b T9 (rfl : zz_ent zP_87 119 = (0, za_goto 348)) (ze_goto)
  have m := zz_M_B (yn := zYN) (cn := zCN) (ml := zMQ) (rt := zRT) (y := 87) (as := [.ref 171, .int (Int32.ofNat g), .int p0]) rfl rfl rfl rfl rfl (by decide +kernel) (zz_lb rfl) (zz_lb rfl) (zz_end_v (zr_87.1 348 rfl).1) b
  exact ⟨_, m, by have e := hQ3; simp only [List.append_assoc] at e; exact e⟩
theorem zM_op_3 {l : Launch} {D : va_G} {cy : Nat → ClassId} {z0 : Nat} {sp : Nat → Nat} {G : State → Prop} {d : Nat} (hG : zz_GF z0 G) (hP : ∀ U, G U → zz_GD zS zS2 zLg z0 sp U) {T : List Nat} {w0 w : zz_W} (hQ : zQ (T ++ [32]) w0 w) {p0 : Int32} {g : Nat} (h1 : 14 ≤ g) (h2 : g ≤ 17) (hT : T.length ≤ 8) : ∃ w', zz_M l zTs D zcl zFK cy z0 sp (zTys cy) G zYN zCN zMQ zRT (d + 5) 87 [.ref 171, .int (Int32.ofNat g), .int p0] w [] w' ∧ zQ (T ++ zOp 3 p0) w0 w' := by
  have T9 := zt_87 (l := l) (D := D) (cy := cy) (z0 := z0) (sp := sp) (G := G) (d := (d + 4)) zz_k0_KS hG hP
  have TK := fun (K : zz_K) (h : zz_KS l D zcl zFK cy z0 sp (zTys cy) G zYN (fun y => Cond.code (zYN y) (zCN y) (zMQ y) (zRT y) :: zTs) (d + 4) K) => zt_87 h hG hP
  have b := zz_B_rf (l := l) (Ts := zTs) (D := D) (cl := zcl) (fk := zFK) (cy := cy) (z0 := z0) (sp := sp) (tys := zTys cy) (G := G) (own := "ToolMillModel") (mn := "showOperands") (nL := 7) (cc := prog_14_method_234_code) (d := (d + 4)) ((0, [(0, .ref 171), (1, .int (Int32.ofNat g)), (2, .int p0)], [], w) : zz_F)
  replace b := zz_fw b T9 (rfl : zz_ent zP_87 0 = (0, za_iload 2 1)) (ze_iload rfl)
  replace b := zz_fw b T9 (rfl : zz_ent zP_87 1 = (0, za_const (.int (Int32.ofNat 21)) 3)) (ze_const)
  replace b := zz_fw b T9 (rfl : zz_ent zP_87 3 = (0, za_const (.int (Int32.ofNat 5)) 4)) (ze_const)
  replace b := zz_fSi b TK (rfl : zz_ent zP_87 4 = (0, za_callS 130 3 7)) (zM_fd_21_5 hG hP) rfl rfl (zz_lb rfl)
  replace b := zz_fw b T9 (rfl : zz_ent zP_87 7 = (0, za_istore 3 8)) (ze_istore (lv' := [(0, _), (1, _), (2, _)]) rfl)
  replace b := zz_fw b T9 (rfl : zz_ent zP_87 8 = (0, za_iload 2 9)) (ze_iload rfl)
  replace b := zz_fw b T9 (rfl : zz_ent zP_87 9 = (0, za_const (.int (Int32.ofNat 16)) 11)) (ze_const)
  replace b := zz_fw b T9 (rfl : zz_ent zP_87 11 = (0, za_const (.int (Int32.ofNat 5)) 12)) (ze_const)
  replace b := zz_fSi b TK (rfl : zz_ent zP_87 12 = (0, za_callS 130 3 15)) (zM_fd_16_5 hG hP) rfl rfl (zz_lb rfl)
  replace b := zz_fw b T9 (rfl : zz_ent zP_87 15 = (0, za_istore 4 17)) (ze_istore (lv' := [(3, _), (0, _), (1, _), (2, _)]) rfl)
  replace b := zz_fw b T9 (rfl : zz_ent zP_87 17 = (0, za_iload 2 18)) (ze_iload rfl)
  replace b := zz_fw b T9 (rfl : zz_ent zP_87 18 = (0, za_const (.int (Int32.ofNat 11)) 20)) (ze_const)
  replace b := zz_fw b T9 (rfl : zz_ent zP_87 20 = (0, za_const (.int (Int32.ofNat 5)) 21)) (ze_const)
  replace b := zz_fSi b TK (rfl : zz_ent zP_87 21 = (0, za_callS 130 3 24)) (zM_fd_11_5 hG hP) rfl rfl (zz_lb rfl)
  replace b := zz_fw b T9 (rfl : zz_ent zP_87 24 = (0, za_istore 5 26)) (ze_istore (lv' := [(4, _), (3, _), (0, _), (1, _), (2, _)]) rfl)
  replace b := zz_fw b T9 (rfl : zz_ent zP_87 26 = (0, za_iload 2 27)) (ze_iload rfl)
  replace b := zz_fw b T9 (rfl : zz_ent zP_87 27 = (0, za_i2s 28)) (ze_i2s rfl)
  replace b := zz_fw b T9 (rfl : zz_ent zP_87 28 = (0, za_istore 6 30)) (ze_istore (lv' := [(5, _), (4, _), (3, _), (0, _), (1, _), (2, _)]) rfl)
  replace b := zz_fw b T9 (rfl : zz_ent zP_87 30 = (0, za_iload 1 31)) (ze_iload rfl)
  replace b := zz_fw b T9 (rfl : zz_ent zP_87 31 = (0, za_const (.int (Int32.ofNat 7)) 33)) (ze_const)
  replace b := zz_fw b T9 (rfl : zz_ent zP_87 33 = (0, za_icmp_gt 59 36)) (ze_icmp_gt_t (zl_gt g (by omega) 7 (by decide) (by omega)))
  replace b := zz_fw b T9 (rfl : zz_ent zP_87 59 = (0, za_iload 1 60)) (ze_iload rfl)
  replace b := zz_fw b T9 (rfl : zz_ent zP_87 60 = (0, za_const (.int (Int32.ofNat 10)) 62)) (ze_const)
  replace b := zz_fw b T9 (rfl : zz_ent zP_87 62 = (0, za_icmp_gt 93 65)) (ze_icmp_gt_t (zl_gt g (by omega) 10 (by decide) (by omega)))
  replace b := zz_fw b T9 (rfl : zz_ent zP_87 93 = (0, za_iload 1 94)) (ze_iload rfl)
  replace b := zz_fw b T9 (rfl : zz_ent zP_87 94 = (0, za_const (.int (Int32.ofNat 13)) 96)) (ze_const)
  replace b := zz_fw b T9 (rfl : zz_ent zP_87 96 = (0, za_icmp_gt 122 99)) (ze_icmp_gt_t (zl_gt g (by omega) 13 (by decide) (by omega)))
  replace b := zz_fw b T9 (rfl : zz_ent zP_87 122 = (0, za_iload 1 123)) (ze_iload rfl)
  replace b := zz_fw b T9 (rfl : zz_ent zP_87 123 = (0, za_const (.int (Int32.ofNat 17)) 125)) (ze_const)
  replace b := zz_fw b T9 (rfl : zz_ent zP_87 125 = (0, za_icmp_gt 144 128)) (ze_icmp_gt_f (zl_ngt g (by omega) 17 (by decide) (by omega)))
  replace b := zz_fw b T9 (rfl : zz_ent zP_87 128 = (0, za_aload 0 129)) (ze_aload rfl)
  replace b := zz_fw b T9 (rfl : zz_ent zP_87 129 = (0, za_iload 3 130)) (ze_iload rfl)
  replace b := zz_fw b T9 (rfl : zz_ent zP_87 130 = (0, za_const (.int (Int32.ofNat 1)) 131)) (ze_const)
  obtain ⟨w1, hM1, hQ1⟩ := zM_r1 (d := d) (l := l) (D := D) (cy := cy) (sp := sp) hG hP hQ (p := p0) (s := 21) (by have g1 := zRg_5 p0 11; have g2 := zRg_5 p0 16; have g3 := zRg_5 p0 21; have g4 := zdc_11 p0.toInt16.toInt32; (try simp only [List.length_append, List.length_singleton] at hT ⊢); (try simp only [List.length_append, List.length_singleton]); omega)
  replace b := zz_fVv b TK (rfl : zz_ent zP_87 131 = (0, za_callV 0 131 2 134)) hM1 rfl rfl (zQ_ic hQ) (zz_lb rfl)
  replace b := zz_fw b T9 (rfl : zz_ent zP_87 134 = (0, za_aload 0 135)) (ze_aload rfl)
  replace b := zz_fw b T9 (rfl : zz_ent zP_87 135 = (0, za_iload 4 137)) (ze_iload rfl)
  replace b := zz_fw b T9 (rfl : zz_ent zP_87 137 = (0, za_const (.int (Int32.ofNat 0)) 138)) (ze_const)
  obtain ⟨w2, hM2, hQ2⟩ := zM_r0 (d := d) (l := l) (D := D) (cy := cy) (sp := sp) hG hP hQ1 (p := p0) (s := 16) (by have g1 := zRg_5 p0 11; have g2 := zRg_5 p0 16; have g3 := zRg_5 p0 21; have g4 := zdc_11 p0.toInt16.toInt32; (try simp only [List.length_append, List.length_singleton] at hT ⊢); (try simp only [List.length_append, List.length_singleton]); omega)
  replace b := zz_fVv b TK (rfl : zz_ent zP_87 138 = (0, za_callV 0 131 2 141)) hM2 rfl rfl (zQ_ic hQ1) (zz_lb rfl)
  replace b := zz_fw b T9 (rfl : zz_ent zP_87 141 = (0, za_goto 348)) (ze_goto)
  have m := zz_M_B (yn := zYN) (cn := zCN) (ml := zMQ) (rt := zRT) (y := 87) (as := [.ref 171, .int (Int32.ofNat g), .int p0]) rfl rfl rfl rfl rfl (by decide +kernel) (zz_lb rfl) (zz_lb rfl) (zz_end_v (zr_87.1 348 rfl).1) b
  exact ⟨_, m, by have e := hQ2; simp only [List.append_assoc] at e; exact e⟩
theorem zM_op_4 {l : Launch} {D : va_G} {cy : Nat → ClassId} {z0 : Nat} {sp : Nat → Nat} {G : State → Prop} {d : Nat} (hG : zz_GF z0 G) (hP : ∀ U, G U → zz_GD zS zS2 zLg z0 sp U) {T : List Nat} {w0 w : zz_W} (hQ : zQ (T ++ [32]) w0 w) {p0 : Int32} {g : Nat} (h1 : 18 ≤ g) (h2 : g ≤ 19) (hT : T.length ≤ 8) : ∃ w', zz_M l zTs D zcl zFK cy z0 sp (zTys cy) G zYN zCN zMQ zRT (d + 5) 87 [.ref 171, .int (Int32.ofNat g), .int p0] w [] w' ∧ zQ (T ++ zOp 4 p0) w0 w' := by
  have T9 := zt_87 (l := l) (D := D) (cy := cy) (z0 := z0) (sp := sp) (G := G) (d := (d + 4)) zz_k0_KS hG hP
  have TK := fun (K : zz_K) (h : zz_KS l D zcl zFK cy z0 sp (zTys cy) G zYN (fun y => Cond.code (zYN y) (zCN y) (zMQ y) (zRT y) :: zTs) (d + 4) K) => zt_87 h hG hP
  have b := zz_B_rf (l := l) (Ts := zTs) (D := D) (cl := zcl) (fk := zFK) (cy := cy) (z0 := z0) (sp := sp) (tys := zTys cy) (G := G) (own := "ToolMillModel") (mn := "showOperands") (nL := 7) (cc := prog_14_method_234_code) (d := (d + 4)) ((0, [(0, .ref 171), (1, .int (Int32.ofNat g)), (2, .int p0)], [], w) : zz_F)
  replace b := zz_fw b T9 (rfl : zz_ent zP_87 0 = (0, za_iload 2 1)) (ze_iload rfl)
  replace b := zz_fw b T9 (rfl : zz_ent zP_87 1 = (0, za_const (.int (Int32.ofNat 21)) 3)) (ze_const)
  replace b := zz_fw b T9 (rfl : zz_ent zP_87 3 = (0, za_const (.int (Int32.ofNat 5)) 4)) (ze_const)
  replace b := zz_fSi b TK (rfl : zz_ent zP_87 4 = (0, za_callS 130 3 7)) (zM_fd_21_5 hG hP) rfl rfl (zz_lb rfl)
  replace b := zz_fw b T9 (rfl : zz_ent zP_87 7 = (0, za_istore 3 8)) (ze_istore (lv' := [(0, _), (1, _), (2, _)]) rfl)
  replace b := zz_fw b T9 (rfl : zz_ent zP_87 8 = (0, za_iload 2 9)) (ze_iload rfl)
  replace b := zz_fw b T9 (rfl : zz_ent zP_87 9 = (0, za_const (.int (Int32.ofNat 16)) 11)) (ze_const)
  replace b := zz_fw b T9 (rfl : zz_ent zP_87 11 = (0, za_const (.int (Int32.ofNat 5)) 12)) (ze_const)
  replace b := zz_fSi b TK (rfl : zz_ent zP_87 12 = (0, za_callS 130 3 15)) (zM_fd_16_5 hG hP) rfl rfl (zz_lb rfl)
  replace b := zz_fw b T9 (rfl : zz_ent zP_87 15 = (0, za_istore 4 17)) (ze_istore (lv' := [(3, _), (0, _), (1, _), (2, _)]) rfl)
  replace b := zz_fw b T9 (rfl : zz_ent zP_87 17 = (0, za_iload 2 18)) (ze_iload rfl)
  replace b := zz_fw b T9 (rfl : zz_ent zP_87 18 = (0, za_const (.int (Int32.ofNat 11)) 20)) (ze_const)
  replace b := zz_fw b T9 (rfl : zz_ent zP_87 20 = (0, za_const (.int (Int32.ofNat 5)) 21)) (ze_const)
  replace b := zz_fSi b TK (rfl : zz_ent zP_87 21 = (0, za_callS 130 3 24)) (zM_fd_11_5 hG hP) rfl rfl (zz_lb rfl)
  replace b := zz_fw b T9 (rfl : zz_ent zP_87 24 = (0, za_istore 5 26)) (ze_istore (lv' := [(4, _), (3, _), (0, _), (1, _), (2, _)]) rfl)
  replace b := zz_fw b T9 (rfl : zz_ent zP_87 26 = (0, za_iload 2 27)) (ze_iload rfl)
  replace b := zz_fw b T9 (rfl : zz_ent zP_87 27 = (0, za_i2s 28)) (ze_i2s rfl)
  replace b := zz_fw b T9 (rfl : zz_ent zP_87 28 = (0, za_istore 6 30)) (ze_istore (lv' := [(5, _), (4, _), (3, _), (0, _), (1, _), (2, _)]) rfl)
  replace b := zz_fw b T9 (rfl : zz_ent zP_87 30 = (0, za_iload 1 31)) (ze_iload rfl)
  replace b := zz_fw b T9 (rfl : zz_ent zP_87 31 = (0, za_const (.int (Int32.ofNat 7)) 33)) (ze_const)
  replace b := zz_fw b T9 (rfl : zz_ent zP_87 33 = (0, za_icmp_gt 59 36)) (ze_icmp_gt_t (zl_gt g (by omega) 7 (by decide) (by omega)))
  replace b := zz_fw b T9 (rfl : zz_ent zP_87 59 = (0, za_iload 1 60)) (ze_iload rfl)
  replace b := zz_fw b T9 (rfl : zz_ent zP_87 60 = (0, za_const (.int (Int32.ofNat 10)) 62)) (ze_const)
  replace b := zz_fw b T9 (rfl : zz_ent zP_87 62 = (0, za_icmp_gt 93 65)) (ze_icmp_gt_t (zl_gt g (by omega) 10 (by decide) (by omega)))
  replace b := zz_fw b T9 (rfl : zz_ent zP_87 93 = (0, za_iload 1 94)) (ze_iload rfl)
  replace b := zz_fw b T9 (rfl : zz_ent zP_87 94 = (0, za_const (.int (Int32.ofNat 13)) 96)) (ze_const)
  replace b := zz_fw b T9 (rfl : zz_ent zP_87 96 = (0, za_icmp_gt 122 99)) (ze_icmp_gt_t (zl_gt g (by omega) 13 (by decide) (by omega)))
  replace b := zz_fw b T9 (rfl : zz_ent zP_87 122 = (0, za_iload 1 123)) (ze_iload rfl)
  replace b := zz_fw b T9 (rfl : zz_ent zP_87 123 = (0, za_const (.int (Int32.ofNat 17)) 125)) (ze_const)
  replace b := zz_fw b T9 (rfl : zz_ent zP_87 125 = (0, za_icmp_gt 144 128)) (ze_icmp_gt_t (zl_gt g (by omega) 17 (by decide) (by omega)))
  replace b := zz_fw b T9 (rfl : zz_ent zP_87 144 = (0, za_iload 1 145)) (ze_iload rfl)
  replace b := zz_fw b T9 (rfl : zz_ent zP_87 145 = (0, za_const (.int (Int32.ofNat 19)) 147)) (ze_const)
  replace b := zz_fw b T9 (rfl : zz_ent zP_87 147 = (0, za_icmp_gt 160 150)) (ze_icmp_gt_f (zl_ngt g (by omega) 19 (by decide) (by omega)))
  replace b := zz_fw b T9 (rfl : zz_ent zP_87 150 = (0, za_aload 0 151)) (ze_aload rfl)
  replace b := zz_fw b T9 (rfl : zz_ent zP_87 151 = (0, za_iload 5 153)) (ze_iload rfl)
  replace b := zz_fw b T9 (rfl : zz_ent zP_87 153 = (0, za_const (.int (Int32.ofNat 0)) 154)) (ze_const)
  obtain ⟨w1, hM1, hQ1⟩ := zM_r0 (d := d) (l := l) (D := D) (cy := cy) (sp := sp) hG hP hQ (p := p0) (s := 11) (by have g1 := zRg_5 p0 11; have g2 := zRg_5 p0 16; have g3 := zRg_5 p0 21; have g4 := zdc_11 p0.toInt16.toInt32; (try simp only [List.length_append, List.length_singleton] at hT ⊢); (try simp only [List.length_append, List.length_singleton]); omega)
  replace b := zz_fVv b TK (rfl : zz_ent zP_87 154 = (0, za_callV 0 131 2 157)) hM1 rfl rfl (zQ_ic hQ) (zz_lb rfl)
  replace b := zz_fw b T9 (rfl : zz_ent zP_87 157 = (0, za_goto 348)) (ze_goto)
  have m := zz_M_B (yn := zYN) (cn := zCN) (ml := zMQ) (rt := zRT) (y := 87) (as := [.ref 171, .int (Int32.ofNat g), .int p0]) rfl rfl rfl rfl rfl (by decide +kernel) (zz_lb rfl) (zz_lb rfl) (zz_end_v (zr_87.1 348 rfl).1) b
  exact ⟨_, m, by have e := hQ1; simp only [List.append_assoc] at e; exact e⟩
theorem zM_op_5 {l : Launch} {D : va_G} {cy : Nat → ClassId} {z0 : Nat} {sp : Nat → Nat} {G : State → Prop} {d : Nat} (hG : zz_GF z0 G) (hP : ∀ U, G U → zz_GD zS zS2 zLg z0 sp U) {T : List Nat} {w0 w : zz_W} (hQ : zQ (T ++ [32]) w0 w) {p0 : Int32} {g : Nat} (h1 : 20 ≤ g) (h2 : g ≤ 23) (hT : T.length ≤ 8) : ∃ w', zz_M l zTs D zcl zFK cy z0 sp (zTys cy) G zYN zCN zMQ zRT (d + 5) 87 [.ref 171, .int (Int32.ofNat g), .int p0] w [] w' ∧ zQ (T ++ zOp 5 p0) w0 w' := by
  have T9 := zt_87 (l := l) (D := D) (cy := cy) (z0 := z0) (sp := sp) (G := G) (d := (d + 4)) zz_k0_KS hG hP
  have TK := fun (K : zz_K) (h : zz_KS l D zcl zFK cy z0 sp (zTys cy) G zYN (fun y => Cond.code (zYN y) (zCN y) (zMQ y) (zRT y) :: zTs) (d + 4) K) => zt_87 h hG hP
  have b := zz_B_rf (l := l) (Ts := zTs) (D := D) (cl := zcl) (fk := zFK) (cy := cy) (z0 := z0) (sp := sp) (tys := zTys cy) (G := G) (own := "ToolMillModel") (mn := "showOperands") (nL := 7) (cc := prog_14_method_234_code) (d := (d + 4)) ((0, [(0, .ref 171), (1, .int (Int32.ofNat g)), (2, .int p0)], [], w) : zz_F)
  replace b := zz_fw b T9 (rfl : zz_ent zP_87 0 = (0, za_iload 2 1)) (ze_iload rfl)
  replace b := zz_fw b T9 (rfl : zz_ent zP_87 1 = (0, za_const (.int (Int32.ofNat 21)) 3)) (ze_const)
  replace b := zz_fw b T9 (rfl : zz_ent zP_87 3 = (0, za_const (.int (Int32.ofNat 5)) 4)) (ze_const)
  replace b := zz_fSi b TK (rfl : zz_ent zP_87 4 = (0, za_callS 130 3 7)) (zM_fd_21_5 hG hP) rfl rfl (zz_lb rfl)
  replace b := zz_fw b T9 (rfl : zz_ent zP_87 7 = (0, za_istore 3 8)) (ze_istore (lv' := [(0, _), (1, _), (2, _)]) rfl)
  replace b := zz_fw b T9 (rfl : zz_ent zP_87 8 = (0, za_iload 2 9)) (ze_iload rfl)
  replace b := zz_fw b T9 (rfl : zz_ent zP_87 9 = (0, za_const (.int (Int32.ofNat 16)) 11)) (ze_const)
  replace b := zz_fw b T9 (rfl : zz_ent zP_87 11 = (0, za_const (.int (Int32.ofNat 5)) 12)) (ze_const)
  replace b := zz_fSi b TK (rfl : zz_ent zP_87 12 = (0, za_callS 130 3 15)) (zM_fd_16_5 hG hP) rfl rfl (zz_lb rfl)
  replace b := zz_fw b T9 (rfl : zz_ent zP_87 15 = (0, za_istore 4 17)) (ze_istore (lv' := [(3, _), (0, _), (1, _), (2, _)]) rfl)
  replace b := zz_fw b T9 (rfl : zz_ent zP_87 17 = (0, za_iload 2 18)) (ze_iload rfl)
  replace b := zz_fw b T9 (rfl : zz_ent zP_87 18 = (0, za_const (.int (Int32.ofNat 11)) 20)) (ze_const)
  replace b := zz_fw b T9 (rfl : zz_ent zP_87 20 = (0, za_const (.int (Int32.ofNat 5)) 21)) (ze_const)
  replace b := zz_fSi b TK (rfl : zz_ent zP_87 21 = (0, za_callS 130 3 24)) (zM_fd_11_5 hG hP) rfl rfl (zz_lb rfl)
  replace b := zz_fw b T9 (rfl : zz_ent zP_87 24 = (0, za_istore 5 26)) (ze_istore (lv' := [(4, _), (3, _), (0, _), (1, _), (2, _)]) rfl)
  replace b := zz_fw b T9 (rfl : zz_ent zP_87 26 = (0, za_iload 2 27)) (ze_iload rfl)
  replace b := zz_fw b T9 (rfl : zz_ent zP_87 27 = (0, za_i2s 28)) (ze_i2s rfl)
  replace b := zz_fw b T9 (rfl : zz_ent zP_87 28 = (0, za_istore 6 30)) (ze_istore (lv' := [(5, _), (4, _), (3, _), (0, _), (1, _), (2, _)]) rfl)
  replace b := zz_fw b T9 (rfl : zz_ent zP_87 30 = (0, za_iload 1 31)) (ze_iload rfl)
  replace b := zz_fw b T9 (rfl : zz_ent zP_87 31 = (0, za_const (.int (Int32.ofNat 7)) 33)) (ze_const)
  replace b := zz_fw b T9 (rfl : zz_ent zP_87 33 = (0, za_icmp_gt 59 36)) (ze_icmp_gt_t (zl_gt g (by omega) 7 (by decide) (by omega)))
  replace b := zz_fw b T9 (rfl : zz_ent zP_87 59 = (0, za_iload 1 60)) (ze_iload rfl)
  replace b := zz_fw b T9 (rfl : zz_ent zP_87 60 = (0, za_const (.int (Int32.ofNat 10)) 62)) (ze_const)
  replace b := zz_fw b T9 (rfl : zz_ent zP_87 62 = (0, za_icmp_gt 93 65)) (ze_icmp_gt_t (zl_gt g (by omega) 10 (by decide) (by omega)))
  replace b := zz_fw b T9 (rfl : zz_ent zP_87 93 = (0, za_iload 1 94)) (ze_iload rfl)
  replace b := zz_fw b T9 (rfl : zz_ent zP_87 94 = (0, za_const (.int (Int32.ofNat 13)) 96)) (ze_const)
  replace b := zz_fw b T9 (rfl : zz_ent zP_87 96 = (0, za_icmp_gt 122 99)) (ze_icmp_gt_t (zl_gt g (by omega) 13 (by decide) (by omega)))
  replace b := zz_fw b T9 (rfl : zz_ent zP_87 122 = (0, za_iload 1 123)) (ze_iload rfl)
  replace b := zz_fw b T9 (rfl : zz_ent zP_87 123 = (0, za_const (.int (Int32.ofNat 17)) 125)) (ze_const)
  replace b := zz_fw b T9 (rfl : zz_ent zP_87 125 = (0, za_icmp_gt 144 128)) (ze_icmp_gt_t (zl_gt g (by omega) 17 (by decide) (by omega)))
  replace b := zz_fw b T9 (rfl : zz_ent zP_87 144 = (0, za_iload 1 145)) (ze_iload rfl)
  replace b := zz_fw b T9 (rfl : zz_ent zP_87 145 = (0, za_const (.int (Int32.ofNat 19)) 147)) (ze_const)
  replace b := zz_fw b T9 (rfl : zz_ent zP_87 147 = (0, za_icmp_gt 160 150)) (ze_icmp_gt_t (zl_gt g (by omega) 19 (by decide) (by omega)))
  replace b := zz_fw b T9 (rfl : zz_ent zP_87 160 = (0, za_iload 1 161)) (ze_iload rfl)
  replace b := zz_fw b T9 (rfl : zz_ent zP_87 161 = (0, za_const (.int (Int32.ofNat 23)) 163)) (ze_const)
  replace b := zz_fw b T9 (rfl : zz_ent zP_87 163 = (0, za_icmp_gt 175 166)) (ze_icmp_gt_f (zl_ngt g (by omega) 23 (by decide) (by omega)))
  replace b := zz_fw b T9 (rfl : zz_ent zP_87 166 = (0, za_aload 0 167)) (ze_aload rfl)
  replace b := zz_fw b T9 (rfl : zz_ent zP_87 167 = (0, za_iload 3 168)) (ze_iload rfl)
  replace b := zz_fw b T9 (rfl : zz_ent zP_87 168 = (0, za_const (.int (Int32.ofNat 0)) 169)) (ze_const)
  obtain ⟨w1, hM1, hQ1⟩ := zM_r0 (d := d) (l := l) (D := D) (cy := cy) (sp := sp) hG hP hQ (p := p0) (s := 21) (by have g1 := zRg_5 p0 11; have g2 := zRg_5 p0 16; have g3 := zRg_5 p0 21; have g4 := zdc_11 p0.toInt16.toInt32; (try simp only [List.length_append, List.length_singleton] at hT ⊢); (try simp only [List.length_append, List.length_singleton]); omega)
  replace b := zz_fVv b TK (rfl : zz_ent zP_87 169 = (0, za_callV 0 131 2 172)) hM1 rfl rfl (zQ_ic hQ) (zz_lb rfl)
  replace b := zz_fw b T9 (rfl : zz_ent zP_87 172 = (0, za_goto 348)) (ze_goto)
  have m := zz_M_B (yn := zYN) (cn := zCN) (ml := zMQ) (rt := zRT) (y := 87) (as := [.ref 171, .int (Int32.ofNat g), .int p0]) rfl rfl rfl rfl rfl (by decide +kernel) (zz_lb rfl) (zz_lb rfl) (zz_end_v (zr_87.1 348 rfl).1) b
  exact ⟨_, m, by have e := hQ1; simp only [List.append_assoc] at e; exact e⟩
theorem zM_op_7 {l : Launch} {D : va_G} {cy : Nat → ClassId} {z0 : Nat} {sp : Nat → Nat} {G : State → Prop} {d : Nat} (hG : zz_GF z0 G) (hP : ∀ U, G U → zz_GD zS zS2 zLg z0 sp U) {T : List Nat} {w0 w : zz_W} (hQ : zQ (T ++ [32]) w0 w) {p0 : Int32} (hT : T.length ≤ 8) : ∃ w', zz_M l zTs D zcl zFK cy z0 sp (zTys cy) G zYN zCN zMQ zRT (d + 5) 87 [.ref 171, .int (Int32.ofNat 25), .int p0] w [] w' ∧ zQ (T ++ zOp 7 p0) w0 w' := by
  have T9 := zt_87 (l := l) (D := D) (cy := cy) (z0 := z0) (sp := sp) (G := G) (d := (d + 4)) zz_k0_KS hG hP
  have TK := fun (K : zz_K) (h : zz_KS l D zcl zFK cy z0 sp (zTys cy) G zYN (fun y => Cond.code (zYN y) (zCN y) (zMQ y) (zRT y) :: zTs) (d + 4) K) => zt_87 h hG hP
  have b := zz_B_rf (l := l) (Ts := zTs) (D := D) (cl := zcl) (fk := zFK) (cy := cy) (z0 := z0) (sp := sp) (tys := zTys cy) (G := G) (own := "ToolMillModel") (mn := "showOperands") (nL := 7) (cc := prog_14_method_234_code) (d := (d + 4)) ((0, [(0, .ref 171), (1, .int (Int32.ofNat 25)), (2, .int p0)], [], w) : zz_F)
  replace b := zz_fw b T9 (rfl : zz_ent zP_87 0 = (0, za_iload 2 1)) (ze_iload rfl)
  replace b := zz_fw b T9 (rfl : zz_ent zP_87 1 = (0, za_const (.int (Int32.ofNat 21)) 3)) (ze_const)
  replace b := zz_fw b T9 (rfl : zz_ent zP_87 3 = (0, za_const (.int (Int32.ofNat 5)) 4)) (ze_const)
  replace b := zz_fSi b TK (rfl : zz_ent zP_87 4 = (0, za_callS 130 3 7)) (zM_fd_21_5 hG hP) rfl rfl (zz_lb rfl)
  replace b := zz_fw b T9 (rfl : zz_ent zP_87 7 = (0, za_istore 3 8)) (ze_istore (lv' := [(0, _), (1, _), (2, _)]) rfl)
  replace b := zz_fw b T9 (rfl : zz_ent zP_87 8 = (0, za_iload 2 9)) (ze_iload rfl)
  replace b := zz_fw b T9 (rfl : zz_ent zP_87 9 = (0, za_const (.int (Int32.ofNat 16)) 11)) (ze_const)
  replace b := zz_fw b T9 (rfl : zz_ent zP_87 11 = (0, za_const (.int (Int32.ofNat 5)) 12)) (ze_const)
  replace b := zz_fSi b TK (rfl : zz_ent zP_87 12 = (0, za_callS 130 3 15)) (zM_fd_16_5 hG hP) rfl rfl (zz_lb rfl)
  replace b := zz_fw b T9 (rfl : zz_ent zP_87 15 = (0, za_istore 4 17)) (ze_istore (lv' := [(3, _), (0, _), (1, _), (2, _)]) rfl)
  replace b := zz_fw b T9 (rfl : zz_ent zP_87 17 = (0, za_iload 2 18)) (ze_iload rfl)
  replace b := zz_fw b T9 (rfl : zz_ent zP_87 18 = (0, za_const (.int (Int32.ofNat 11)) 20)) (ze_const)
  replace b := zz_fw b T9 (rfl : zz_ent zP_87 20 = (0, za_const (.int (Int32.ofNat 5)) 21)) (ze_const)
  replace b := zz_fSi b TK (rfl : zz_ent zP_87 21 = (0, za_callS 130 3 24)) (zM_fd_11_5 hG hP) rfl rfl (zz_lb rfl)
  replace b := zz_fw b T9 (rfl : zz_ent zP_87 24 = (0, za_istore 5 26)) (ze_istore (lv' := [(4, _), (3, _), (0, _), (1, _), (2, _)]) rfl)
  replace b := zz_fw b T9 (rfl : zz_ent zP_87 26 = (0, za_iload 2 27)) (ze_iload rfl)
  replace b := zz_fw b T9 (rfl : zz_ent zP_87 27 = (0, za_i2s 28)) (ze_i2s rfl)
  replace b := zz_fw b T9 (rfl : zz_ent zP_87 28 = (0, za_istore 6 30)) (ze_istore (lv' := [(5, _), (4, _), (3, _), (0, _), (1, _), (2, _)]) rfl)
  replace b := zz_fw b T9 (rfl : zz_ent zP_87 30 = (0, za_iload 1 31)) (ze_iload rfl)
  replace b := zz_fw b T9 (rfl : zz_ent zP_87 31 = (0, za_const (.int (Int32.ofNat 7)) 33)) (ze_const)
  replace b := zz_fw b T9 (rfl : zz_ent zP_87 33 = (0, za_icmp_gt 59 36)) (ze_icmp_gt_t (by decide))
  replace b := zz_fw b T9 (rfl : zz_ent zP_87 59 = (0, za_iload 1 60)) (ze_iload rfl)
  replace b := zz_fw b T9 (rfl : zz_ent zP_87 60 = (0, za_const (.int (Int32.ofNat 10)) 62)) (ze_const)
  replace b := zz_fw b T9 (rfl : zz_ent zP_87 62 = (0, za_icmp_gt 93 65)) (ze_icmp_gt_t (by decide))
  replace b := zz_fw b T9 (rfl : zz_ent zP_87 93 = (0, za_iload 1 94)) (ze_iload rfl)
  replace b := zz_fw b T9 (rfl : zz_ent zP_87 94 = (0, za_const (.int (Int32.ofNat 13)) 96)) (ze_const)
  replace b := zz_fw b T9 (rfl : zz_ent zP_87 96 = (0, za_icmp_gt 122 99)) (ze_icmp_gt_t (by decide))
  replace b := zz_fw b T9 (rfl : zz_ent zP_87 122 = (0, za_iload 1 123)) (ze_iload rfl)
  replace b := zz_fw b T9 (rfl : zz_ent zP_87 123 = (0, za_const (.int (Int32.ofNat 17)) 125)) (ze_const)
  replace b := zz_fw b T9 (rfl : zz_ent zP_87 125 = (0, za_icmp_gt 144 128)) (ze_icmp_gt_t (by decide))
  replace b := zz_fw b T9 (rfl : zz_ent zP_87 144 = (0, za_iload 1 145)) (ze_iload rfl)
  replace b := zz_fw b T9 (rfl : zz_ent zP_87 145 = (0, za_const (.int (Int32.ofNat 19)) 147)) (ze_const)
  replace b := zz_fw b T9 (rfl : zz_ent zP_87 147 = (0, za_icmp_gt 160 150)) (ze_icmp_gt_t (by decide))
  replace b := zz_fw b T9 (rfl : zz_ent zP_87 160 = (0, za_iload 1 161)) (ze_iload rfl)
  replace b := zz_fw b T9 (rfl : zz_ent zP_87 161 = (0, za_const (.int (Int32.ofNat 23)) 163)) (ze_const)
  replace b := zz_fw b T9 (rfl : zz_ent zP_87 163 = (0, za_icmp_gt 175 166)) (ze_icmp_gt_t (by decide))
  replace b := zz_fw b T9 (rfl : zz_ent zP_87 175 = (0, za_iload 1 176)) (ze_iload rfl)
  replace b := zz_fw b T9 (rfl : zz_ent zP_87 176 = (0, za_const (.int (Int32.ofNat 25)) 178)) (ze_const)
  replace b := zz_fw b T9 (rfl : zz_ent zP_87 178 = (0, za_icmp_ne 196 181)) (ze_icmp_ne_f (by decide))
  replace b := zz_fw b T9 (rfl : zz_ent zP_87 181 = (0, za_aload 0 182)) (ze_aload rfl)
  replace b := zz_fw b T9 (rfl : zz_ent zP_87 182 = (0, za_iload 2 183)) (ze_iload rfl)
  replace b := zz_fw b T9 (rfl : zz_ent zP_87 183 = (0, za_const (.int (Int32.ofNat 16)) 185)) (ze_const)
  replace b := zz_fw b T9 (rfl : zz_ent zP_87 185 = (0, za_const (.int (Int32.ofNat 10)) 187)) (ze_const)
  replace b := zz_fSi b TK (rfl : zz_ent zP_87 187 = (0, za_callS 130 3 190)) (zM_fd_16_10 hG hP) rfl rfl (zz_lb rfl)
  obtain ⟨w1, hM1, hQ1⟩ := zM_num (d := d + 2) (l := l) (D := D) (cy := cy) (sp := sp) hG hP hQ (p0 := (Int32.ofNat (zF p0 16 10))) (by have g1 := zRg_5 p0 11; have g2 := zRg_5 p0 16; have g3 := zRg_5 p0 21; have g4 := zdc_11 (Int32.ofNat (zF p0 16 10)); (try simp only [List.length_append, List.length_singleton] at hT ⊢); (try simp only [List.length_append, List.length_singleton]); omega)
  replace b := zz_fVv b TK (rfl : zz_ent zP_87 190 = (0, za_callV 0 88 1 193)) hM1 rfl rfl (zQ_ic hQ) (zz_lb rfl)
  replace b := zz_fw b T9 (rfl : zz_ent zP_87 193 = (0, za_goto 348)) (ze_goto)
  have m := zz_M_B (yn := zYN) (cn := zCN) (ml := zMQ) (rt := zRT) (y := 87) (as := [.ref 171, .int (Int32.ofNat 25), .int p0]) rfl rfl rfl rfl rfl (by decide +kernel) (zz_lb rfl) (zz_lb rfl) (zz_end_v (zr_87.1 348 rfl).1) b
  exact ⟨_, m, by have e := hQ1; simp only [List.append_assoc] at e; exact e⟩
theorem zM_op_8 {l : Launch} {D : va_G} {cy : Nat → ClassId} {z0 : Nat} {sp : Nat → Nat} {G : State → Prop} {d : Nat} (hG : zz_GF z0 G) (hP : ∀ U, G U → zz_GD zS zS2 zLg z0 sp U) {T : List Nat} {w0 w : zz_W} (hQ : zQ (T ++ [32]) w0 w) {p0 : Int32} {g : Nat} (h1 : 26 ≤ g) (h2 : g ≤ 28) (hT : T.length ≤ 8) : ∃ w', zz_M l zTs D zcl zFK cy z0 sp (zTys cy) G zYN zCN zMQ zRT (d + 5) 87 [.ref 171, .int (Int32.ofNat g), .int p0] w [] w' ∧ zQ (T ++ zOp 8 p0) w0 w' := by
  have T9 := zt_87 (l := l) (D := D) (cy := cy) (z0 := z0) (sp := sp) (G := G) (d := (d + 4)) zz_k0_KS hG hP
  have TK := fun (K : zz_K) (h : zz_KS l D zcl zFK cy z0 sp (zTys cy) G zYN (fun y => Cond.code (zYN y) (zCN y) (zMQ y) (zRT y) :: zTs) (d + 4) K) => zt_87 h hG hP
  have b := zz_B_rf (l := l) (Ts := zTs) (D := D) (cl := zcl) (fk := zFK) (cy := cy) (z0 := z0) (sp := sp) (tys := zTys cy) (G := G) (own := "ToolMillModel") (mn := "showOperands") (nL := 7) (cc := prog_14_method_234_code) (d := (d + 4)) ((0, [(0, .ref 171), (1, .int (Int32.ofNat g)), (2, .int p0)], [], w) : zz_F)
  replace b := zz_fw b T9 (rfl : zz_ent zP_87 0 = (0, za_iload 2 1)) (ze_iload rfl)
  replace b := zz_fw b T9 (rfl : zz_ent zP_87 1 = (0, za_const (.int (Int32.ofNat 21)) 3)) (ze_const)
  replace b := zz_fw b T9 (rfl : zz_ent zP_87 3 = (0, za_const (.int (Int32.ofNat 5)) 4)) (ze_const)
  replace b := zz_fSi b TK (rfl : zz_ent zP_87 4 = (0, za_callS 130 3 7)) (zM_fd_21_5 hG hP) rfl rfl (zz_lb rfl)
  replace b := zz_fw b T9 (rfl : zz_ent zP_87 7 = (0, za_istore 3 8)) (ze_istore (lv' := [(0, _), (1, _), (2, _)]) rfl)
  replace b := zz_fw b T9 (rfl : zz_ent zP_87 8 = (0, za_iload 2 9)) (ze_iload rfl)
  replace b := zz_fw b T9 (rfl : zz_ent zP_87 9 = (0, za_const (.int (Int32.ofNat 16)) 11)) (ze_const)
  replace b := zz_fw b T9 (rfl : zz_ent zP_87 11 = (0, za_const (.int (Int32.ofNat 5)) 12)) (ze_const)
  replace b := zz_fSi b TK (rfl : zz_ent zP_87 12 = (0, za_callS 130 3 15)) (zM_fd_16_5 hG hP) rfl rfl (zz_lb rfl)
  replace b := zz_fw b T9 (rfl : zz_ent zP_87 15 = (0, za_istore 4 17)) (ze_istore (lv' := [(3, _), (0, _), (1, _), (2, _)]) rfl)
  replace b := zz_fw b T9 (rfl : zz_ent zP_87 17 = (0, za_iload 2 18)) (ze_iload rfl)
  replace b := zz_fw b T9 (rfl : zz_ent zP_87 18 = (0, za_const (.int (Int32.ofNat 11)) 20)) (ze_const)
  replace b := zz_fw b T9 (rfl : zz_ent zP_87 20 = (0, za_const (.int (Int32.ofNat 5)) 21)) (ze_const)
  replace b := zz_fSi b TK (rfl : zz_ent zP_87 21 = (0, za_callS 130 3 24)) (zM_fd_11_5 hG hP) rfl rfl (zz_lb rfl)
  replace b := zz_fw b T9 (rfl : zz_ent zP_87 24 = (0, za_istore 5 26)) (ze_istore (lv' := [(4, _), (3, _), (0, _), (1, _), (2, _)]) rfl)
  replace b := zz_fw b T9 (rfl : zz_ent zP_87 26 = (0, za_iload 2 27)) (ze_iload rfl)
  replace b := zz_fw b T9 (rfl : zz_ent zP_87 27 = (0, za_i2s 28)) (ze_i2s rfl)
  replace b := zz_fw b T9 (rfl : zz_ent zP_87 28 = (0, za_istore 6 30)) (ze_istore (lv' := [(5, _), (4, _), (3, _), (0, _), (1, _), (2, _)]) rfl)
  replace b := zz_fw b T9 (rfl : zz_ent zP_87 30 = (0, za_iload 1 31)) (ze_iload rfl)
  replace b := zz_fw b T9 (rfl : zz_ent zP_87 31 = (0, za_const (.int (Int32.ofNat 7)) 33)) (ze_const)
  replace b := zz_fw b T9 (rfl : zz_ent zP_87 33 = (0, za_icmp_gt 59 36)) (ze_icmp_gt_t (zl_gt g (by omega) 7 (by decide) (by omega)))
  replace b := zz_fw b T9 (rfl : zz_ent zP_87 59 = (0, za_iload 1 60)) (ze_iload rfl)
  replace b := zz_fw b T9 (rfl : zz_ent zP_87 60 = (0, za_const (.int (Int32.ofNat 10)) 62)) (ze_const)
  replace b := zz_fw b T9 (rfl : zz_ent zP_87 62 = (0, za_icmp_gt 93 65)) (ze_icmp_gt_t (zl_gt g (by omega) 10 (by decide) (by omega)))
  replace b := zz_fw b T9 (rfl : zz_ent zP_87 93 = (0, za_iload 1 94)) (ze_iload rfl)
  replace b := zz_fw b T9 (rfl : zz_ent zP_87 94 = (0, za_const (.int (Int32.ofNat 13)) 96)) (ze_const)
  replace b := zz_fw b T9 (rfl : zz_ent zP_87 96 = (0, za_icmp_gt 122 99)) (ze_icmp_gt_t (zl_gt g (by omega) 13 (by decide) (by omega)))
  replace b := zz_fw b T9 (rfl : zz_ent zP_87 122 = (0, za_iload 1 123)) (ze_iload rfl)
  replace b := zz_fw b T9 (rfl : zz_ent zP_87 123 = (0, za_const (.int (Int32.ofNat 17)) 125)) (ze_const)
  replace b := zz_fw b T9 (rfl : zz_ent zP_87 125 = (0, za_icmp_gt 144 128)) (ze_icmp_gt_t (zl_gt g (by omega) 17 (by decide) (by omega)))
  replace b := zz_fw b T9 (rfl : zz_ent zP_87 144 = (0, za_iload 1 145)) (ze_iload rfl)
  replace b := zz_fw b T9 (rfl : zz_ent zP_87 145 = (0, za_const (.int (Int32.ofNat 19)) 147)) (ze_const)
  replace b := zz_fw b T9 (rfl : zz_ent zP_87 147 = (0, za_icmp_gt 160 150)) (ze_icmp_gt_t (zl_gt g (by omega) 19 (by decide) (by omega)))
  replace b := zz_fw b T9 (rfl : zz_ent zP_87 160 = (0, za_iload 1 161)) (ze_iload rfl)
  replace b := zz_fw b T9 (rfl : zz_ent zP_87 161 = (0, za_const (.int (Int32.ofNat 23)) 163)) (ze_const)
  replace b := zz_fw b T9 (rfl : zz_ent zP_87 163 = (0, za_icmp_gt 175 166)) (ze_icmp_gt_t (zl_gt g (by omega) 23 (by decide) (by omega)))
  replace b := zz_fw b T9 (rfl : zz_ent zP_87 175 = (0, za_iload 1 176)) (ze_iload rfl)
  replace b := zz_fw b T9 (rfl : zz_ent zP_87 176 = (0, za_const (.int (Int32.ofNat 25)) 178)) (ze_const)
  replace b := zz_fw b T9 (rfl : zz_ent zP_87 178 = (0, za_icmp_ne 196 181)) (ze_icmp_ne_t (zl_neq g (by omega) 25 (by decide) (by omega)))
  replace b := zz_fw b T9 (rfl : zz_ent zP_87 196 = (0, za_iload 1 197)) (ze_iload rfl)
  replace b := zz_fw b T9 (rfl : zz_ent zP_87 197 = (0, za_const (.int (Int32.ofNat 31)) 199)) (ze_const)
  replace b := zz_fw b T9 (rfl : zz_ent zP_87 199 = (0, za_icmp_gt 238 202)) (ze_icmp_gt_f (zl_ngt g (by omega) 31 (by decide) (by omega)))
  replace b := zz_fw b T9 (rfl : zz_ent zP_87 202 = (0, za_aload 0 203)) (ze_aload rfl)
  replace b := zz_fw b T9 (rfl : zz_ent zP_87 203 = (0, za_iload 4 205)) (ze_iload rfl)
  replace b := zz_fw b T9 (rfl : zz_ent zP_87 205 = (0, za_const (.int (Int32.ofNat 1)) 206)) (ze_const)
  obtain ⟨w1, hM1, hQ1⟩ := zM_r1 (d := d) (l := l) (D := D) (cy := cy) (sp := sp) hG hP hQ (p := p0) (s := 16) (by have g1 := zRg_5 p0 11; have g2 := zRg_5 p0 16; have g3 := zRg_5 p0 21; have g4 := zdc_11 p0.toInt16.toInt32; (try simp only [List.length_append, List.length_singleton] at hT ⊢); (try simp only [List.length_append, List.length_singleton]); omega)
  replace b := zz_fVv b TK (rfl : zz_ent zP_87 206 = (0, za_callV 0 131 2 209)) hM1 rfl rfl (zQ_ic hQ) (zz_lb rfl)
  replace b := zz_fw b T9 (rfl : zz_ent zP_87 209 = (0, za_aload 0 210)) (ze_aload rfl)
  replace b := zz_fw b T9 (rfl : zz_ent zP_87 210 = (0, za_iload 3 211)) (ze_iload rfl)
  replace b := zz_fw b T9 (rfl : zz_ent zP_87 211 = (0, za_const (.int (Int32.ofNat 1)) 212)) (ze_const)
  obtain ⟨w2, hM2, hQ2⟩ := zM_r1 (d := d) (l := l) (D := D) (cy := cy) (sp := sp) hG hP hQ1 (p := p0) (s := 21) (by have g1 := zRg_5 p0 11; have g2 := zRg_5 p0 16; have g3 := zRg_5 p0 21; have g4 := zdc_11 p0.toInt16.toInt32; (try simp only [List.length_append, List.length_singleton] at hT ⊢); (try simp only [List.length_append, List.length_singleton]); omega)
  replace b := zz_fVv b TK (rfl : zz_ent zP_87 212 = (0, za_callV 0 131 2 215)) hM2 rfl rfl (zQ_ic hQ1) (zz_lb rfl)
  replace b := zz_fw b T9 (rfl : zz_ent zP_87 215 = (0, za_aload 0 216)) (ze_aload rfl)
  replace b := zz_fw b T9 (rfl : zz_ent zP_87 216 = (0, za_iload 1 217)) (ze_iload rfl)
  replace b := zz_fw b T9 (rfl : zz_ent zP_87 217 = (0, za_const (.int (Int32.ofNat 28)) 219)) (ze_const)
  replace b := zz_fw b T9 (rfl : zz_ent zP_87 219 = (0, za_icmp_gt 227 222)) (ze_icmp_gt_f (zl_ngt g (by omega) 28 (by decide) (by omega)))
  replace b := zz_fw b T9 (rfl : zz_ent zP_87 222 = (0, za_iload 6 224)) (ze_iload rfl)
  replace b := zz_fw b T9 (rfl : zz_ent zP_87 224 = (0, za_goto 232)) (ze_goto)
  obtain ⟨w3, hM3, hQ3⟩ := zM_num (d := d + 2) (l := l) (D := D) (cy := cy) (sp := sp) hG hP hQ2 (p0 := p0.toInt16.toInt32) (by have g1 := zRg_5 p0 11; have g2 := zRg_5 p0 16; have g3 := zRg_5 p0 21; have g4 := zdc_11 p0.toInt16.toInt32; (try simp only [List.length_append, List.length_singleton] at hT ⊢); (try simp only [List.length_append, List.length_singleton]); omega)
  replace b := zz_fVv b TK (rfl : zz_ent zP_87 232 = (0, za_callV 0 88 1 235)) hM3 rfl rfl (zQ_ic hQ2) (zz_lb rfl)
  replace b := zz_fw b T9 (rfl : zz_ent zP_87 235 = (0, za_goto 348)) (ze_goto)
  have m := zz_M_B (yn := zYN) (cn := zCN) (ml := zMQ) (rt := zRT) (y := 87) (as := [.ref 171, .int (Int32.ofNat g), .int p0]) rfl rfl rfl rfl rfl (by decide +kernel) (zz_lb rfl) (zz_lb rfl) (zz_end_v (zr_87.1 348 rfl).1) b
  exact ⟨_, m, by have e := hQ3; simp only [List.append_assoc] at e; exact e⟩
theorem zM_op_9 {l : Launch} {D : va_G} {cy : Nat → ClassId} {z0 : Nat} {sp : Nat → Nat} {G : State → Prop} {d : Nat} (hG : zz_GF z0 G) (hP : ∀ U, G U → zz_GD zS zS2 zLg z0 sp U) {T : List Nat} {w0 w : zz_W} (hQ : zQ (T ++ [32]) w0 w) {p0 : Int32} {g : Nat} (h1 : 29 ≤ g) (h2 : g ≤ 31) (hT : T.length ≤ 8) : ∃ w', zz_M l zTs D zcl zFK cy z0 sp (zTys cy) G zYN zCN zMQ zRT (d + 5) 87 [.ref 171, .int (Int32.ofNat g), .int p0] w [] w' ∧ zQ (T ++ zOp 9 p0) w0 w' := by
  have T9 := zt_87 (l := l) (D := D) (cy := cy) (z0 := z0) (sp := sp) (G := G) (d := (d + 4)) zz_k0_KS hG hP
  have TK := fun (K : zz_K) (h : zz_KS l D zcl zFK cy z0 sp (zTys cy) G zYN (fun y => Cond.code (zYN y) (zCN y) (zMQ y) (zRT y) :: zTs) (d + 4) K) => zt_87 h hG hP
  have b := zz_B_rf (l := l) (Ts := zTs) (D := D) (cl := zcl) (fk := zFK) (cy := cy) (z0 := z0) (sp := sp) (tys := zTys cy) (G := G) (own := "ToolMillModel") (mn := "showOperands") (nL := 7) (cc := prog_14_method_234_code) (d := (d + 4)) ((0, [(0, .ref 171), (1, .int (Int32.ofNat g)), (2, .int p0)], [], w) : zz_F)
  replace b := zz_fw b T9 (rfl : zz_ent zP_87 0 = (0, za_iload 2 1)) (ze_iload rfl)
  replace b := zz_fw b T9 (rfl : zz_ent zP_87 1 = (0, za_const (.int (Int32.ofNat 21)) 3)) (ze_const)
  replace b := zz_fw b T9 (rfl : zz_ent zP_87 3 = (0, za_const (.int (Int32.ofNat 5)) 4)) (ze_const)
  replace b := zz_fSi b TK (rfl : zz_ent zP_87 4 = (0, za_callS 130 3 7)) (zM_fd_21_5 hG hP) rfl rfl (zz_lb rfl)
  replace b := zz_fw b T9 (rfl : zz_ent zP_87 7 = (0, za_istore 3 8)) (ze_istore (lv' := [(0, _), (1, _), (2, _)]) rfl)
  replace b := zz_fw b T9 (rfl : zz_ent zP_87 8 = (0, za_iload 2 9)) (ze_iload rfl)
  replace b := zz_fw b T9 (rfl : zz_ent zP_87 9 = (0, za_const (.int (Int32.ofNat 16)) 11)) (ze_const)
  replace b := zz_fw b T9 (rfl : zz_ent zP_87 11 = (0, za_const (.int (Int32.ofNat 5)) 12)) (ze_const)
  replace b := zz_fSi b TK (rfl : zz_ent zP_87 12 = (0, za_callS 130 3 15)) (zM_fd_16_5 hG hP) rfl rfl (zz_lb rfl)
  replace b := zz_fw b T9 (rfl : zz_ent zP_87 15 = (0, za_istore 4 17)) (ze_istore (lv' := [(3, _), (0, _), (1, _), (2, _)]) rfl)
  replace b := zz_fw b T9 (rfl : zz_ent zP_87 17 = (0, za_iload 2 18)) (ze_iload rfl)
  replace b := zz_fw b T9 (rfl : zz_ent zP_87 18 = (0, za_const (.int (Int32.ofNat 11)) 20)) (ze_const)
  replace b := zz_fw b T9 (rfl : zz_ent zP_87 20 = (0, za_const (.int (Int32.ofNat 5)) 21)) (ze_const)
  replace b := zz_fSi b TK (rfl : zz_ent zP_87 21 = (0, za_callS 130 3 24)) (zM_fd_11_5 hG hP) rfl rfl (zz_lb rfl)
  replace b := zz_fw b T9 (rfl : zz_ent zP_87 24 = (0, za_istore 5 26)) (ze_istore (lv' := [(4, _), (3, _), (0, _), (1, _), (2, _)]) rfl)
  replace b := zz_fw b T9 (rfl : zz_ent zP_87 26 = (0, za_iload 2 27)) (ze_iload rfl)
  replace b := zz_fw b T9 (rfl : zz_ent zP_87 27 = (0, za_i2s 28)) (ze_i2s rfl)
  replace b := zz_fw b T9 (rfl : zz_ent zP_87 28 = (0, za_istore 6 30)) (ze_istore (lv' := [(5, _), (4, _), (3, _), (0, _), (1, _), (2, _)]) rfl)
  replace b := zz_fw b T9 (rfl : zz_ent zP_87 30 = (0, za_iload 1 31)) (ze_iload rfl)
  replace b := zz_fw b T9 (rfl : zz_ent zP_87 31 = (0, za_const (.int (Int32.ofNat 7)) 33)) (ze_const)
  replace b := zz_fw b T9 (rfl : zz_ent zP_87 33 = (0, za_icmp_gt 59 36)) (ze_icmp_gt_t (zl_gt g (by omega) 7 (by decide) (by omega)))
  replace b := zz_fw b T9 (rfl : zz_ent zP_87 59 = (0, za_iload 1 60)) (ze_iload rfl)
  replace b := zz_fw b T9 (rfl : zz_ent zP_87 60 = (0, za_const (.int (Int32.ofNat 10)) 62)) (ze_const)
  replace b := zz_fw b T9 (rfl : zz_ent zP_87 62 = (0, za_icmp_gt 93 65)) (ze_icmp_gt_t (zl_gt g (by omega) 10 (by decide) (by omega)))
  replace b := zz_fw b T9 (rfl : zz_ent zP_87 93 = (0, za_iload 1 94)) (ze_iload rfl)
  replace b := zz_fw b T9 (rfl : zz_ent zP_87 94 = (0, za_const (.int (Int32.ofNat 13)) 96)) (ze_const)
  replace b := zz_fw b T9 (rfl : zz_ent zP_87 96 = (0, za_icmp_gt 122 99)) (ze_icmp_gt_t (zl_gt g (by omega) 13 (by decide) (by omega)))
  replace b := zz_fw b T9 (rfl : zz_ent zP_87 122 = (0, za_iload 1 123)) (ze_iload rfl)
  replace b := zz_fw b T9 (rfl : zz_ent zP_87 123 = (0, za_const (.int (Int32.ofNat 17)) 125)) (ze_const)
  replace b := zz_fw b T9 (rfl : zz_ent zP_87 125 = (0, za_icmp_gt 144 128)) (ze_icmp_gt_t (zl_gt g (by omega) 17 (by decide) (by omega)))
  replace b := zz_fw b T9 (rfl : zz_ent zP_87 144 = (0, za_iload 1 145)) (ze_iload rfl)
  replace b := zz_fw b T9 (rfl : zz_ent zP_87 145 = (0, za_const (.int (Int32.ofNat 19)) 147)) (ze_const)
  replace b := zz_fw b T9 (rfl : zz_ent zP_87 147 = (0, za_icmp_gt 160 150)) (ze_icmp_gt_t (zl_gt g (by omega) 19 (by decide) (by omega)))
  replace b := zz_fw b T9 (rfl : zz_ent zP_87 160 = (0, za_iload 1 161)) (ze_iload rfl)
  replace b := zz_fw b T9 (rfl : zz_ent zP_87 161 = (0, za_const (.int (Int32.ofNat 23)) 163)) (ze_const)
  replace b := zz_fw b T9 (rfl : zz_ent zP_87 163 = (0, za_icmp_gt 175 166)) (ze_icmp_gt_t (zl_gt g (by omega) 23 (by decide) (by omega)))
  replace b := zz_fw b T9 (rfl : zz_ent zP_87 175 = (0, za_iload 1 176)) (ze_iload rfl)
  replace b := zz_fw b T9 (rfl : zz_ent zP_87 176 = (0, za_const (.int (Int32.ofNat 25)) 178)) (ze_const)
  replace b := zz_fw b T9 (rfl : zz_ent zP_87 178 = (0, za_icmp_ne 196 181)) (ze_icmp_ne_t (zl_neq g (by omega) 25 (by decide) (by omega)))
  replace b := zz_fw b T9 (rfl : zz_ent zP_87 196 = (0, za_iload 1 197)) (ze_iload rfl)
  replace b := zz_fw b T9 (rfl : zz_ent zP_87 197 = (0, za_const (.int (Int32.ofNat 31)) 199)) (ze_const)
  replace b := zz_fw b T9 (rfl : zz_ent zP_87 199 = (0, za_icmp_gt 238 202)) (ze_icmp_gt_f (zl_ngt g (by omega) 31 (by decide) (by omega)))
  replace b := zz_fw b T9 (rfl : zz_ent zP_87 202 = (0, za_aload 0 203)) (ze_aload rfl)
  replace b := zz_fw b T9 (rfl : zz_ent zP_87 203 = (0, za_iload 4 205)) (ze_iload rfl)
  replace b := zz_fw b T9 (rfl : zz_ent zP_87 205 = (0, za_const (.int (Int32.ofNat 1)) 206)) (ze_const)
  obtain ⟨w1, hM1, hQ1⟩ := zM_r1 (d := d) (l := l) (D := D) (cy := cy) (sp := sp) hG hP hQ (p := p0) (s := 16) (by have g1 := zRg_5 p0 11; have g2 := zRg_5 p0 16; have g3 := zRg_5 p0 21; have g4 := zdc_11 p0.toInt16.toInt32; (try simp only [List.length_append, List.length_singleton] at hT ⊢); (try simp only [List.length_append, List.length_singleton]); omega)
  replace b := zz_fVv b TK (rfl : zz_ent zP_87 206 = (0, za_callV 0 131 2 209)) hM1 rfl rfl (zQ_ic hQ) (zz_lb rfl)
  replace b := zz_fw b T9 (rfl : zz_ent zP_87 209 = (0, za_aload 0 210)) (ze_aload rfl)
  replace b := zz_fw b T9 (rfl : zz_ent zP_87 210 = (0, za_iload 3 211)) (ze_iload rfl)
  replace b := zz_fw b T9 (rfl : zz_ent zP_87 211 = (0, za_const (.int (Int32.ofNat 1)) 212)) (ze_const)
  obtain ⟨w2, hM2, hQ2⟩ := zM_r1 (d := d) (l := l) (D := D) (cy := cy) (sp := sp) hG hP hQ1 (p := p0) (s := 21) (by have g1 := zRg_5 p0 11; have g2 := zRg_5 p0 16; have g3 := zRg_5 p0 21; have g4 := zdc_11 p0.toInt16.toInt32; (try simp only [List.length_append, List.length_singleton] at hT ⊢); (try simp only [List.length_append, List.length_singleton]); omega)
  replace b := zz_fVv b TK (rfl : zz_ent zP_87 212 = (0, za_callV 0 131 2 215)) hM2 rfl rfl (zQ_ic hQ1) (zz_lb rfl)
  replace b := zz_fw b T9 (rfl : zz_ent zP_87 215 = (0, za_aload 0 216)) (ze_aload rfl)
  replace b := zz_fw b T9 (rfl : zz_ent zP_87 216 = (0, za_iload 1 217)) (ze_iload rfl)
  replace b := zz_fw b T9 (rfl : zz_ent zP_87 217 = (0, za_const (.int (Int32.ofNat 28)) 219)) (ze_const)
  replace b := zz_fw b T9 (rfl : zz_ent zP_87 219 = (0, za_icmp_gt 227 222)) (ze_icmp_gt_t (zl_gt g (by omega) 28 (by decide) (by omega)))
  replace b := zz_fw b T9 (rfl : zz_ent zP_87 227 = (0, za_iload 2 228)) (ze_iload rfl)
  replace b := zz_fw b T9 (rfl : zz_ent zP_87 228 = (0, za_const (.int (Int32.ofNat 65535)) 231)) (ze_const)
  replace b := zz_fw b T9 (rfl : zz_ent zP_87 231 = (0, za_iand 232)) (ze_iand (zl_16 p0))
  obtain ⟨w3, hM3, hQ3⟩ := zM_num (d := d + 2) (l := l) (D := D) (cy := cy) (sp := sp) hG hP hQ2 (p0 := (p0.toInt16.toInt32 &&& Int32.ofNat 65535)) (by have g1 := zRg_5 p0 11; have g2 := zRg_5 p0 16; have g3 := zRg_5 p0 21; have g4 := zdc_11 (p0.toInt16.toInt32 &&& Int32.ofNat 65535); (try simp only [List.length_append, List.length_singleton] at hT ⊢); (try simp only [List.length_append, List.length_singleton]); omega)
  replace b := zz_fVv b TK (rfl : zz_ent zP_87 232 = (0, za_callV 0 88 1 235)) hM3 rfl rfl (zQ_ic hQ2) (zz_lb rfl)
  replace b := zz_fw b T9 (rfl : zz_ent zP_87 235 = (0, za_goto 348)) (ze_goto)
  have m := zz_M_B (yn := zYN) (cn := zCN) (ml := zMQ) (rt := zRT) (y := 87) (as := [.ref 171, .int (Int32.ofNat g), .int p0]) rfl rfl rfl rfl rfl (by decide +kernel) (zz_lb rfl) (zz_lb rfl) (zz_end_v (zr_87.1 348 rfl).1) b
  exact ⟨_, m, by have e := hQ3; simp only [List.append_assoc] at e; exact e⟩
theorem zM_op_10 {l : Launch} {D : va_G} {cy : Nat → ClassId} {z0 : Nat} {sp : Nat → Nat} {G : State → Prop} {d : Nat} (hG : zz_GF z0 G) (hP : ∀ U, G U → zz_GD zS zS2 zLg z0 sp U) {T : List Nat} {w0 w : zz_W} (hQ : zQ (T ++ [32]) w0 w) {p0 : Int32} (hT : T.length ≤ 8) : ∃ w', zz_M l zTs D zcl zFK cy z0 sp (zTys cy) G zYN zCN zMQ zRT (d + 5) 87 [.ref 171, .int (Int32.ofNat 32), .int p0] w [] w' ∧ zQ (T ++ zOp 10 p0) w0 w' := by
  have T9 := zt_87 (l := l) (D := D) (cy := cy) (z0 := z0) (sp := sp) (G := G) (d := (d + 4)) zz_k0_KS hG hP
  have TK := fun (K : zz_K) (h : zz_KS l D zcl zFK cy z0 sp (zTys cy) G zYN (fun y => Cond.code (zYN y) (zCN y) (zMQ y) (zRT y) :: zTs) (d + 4) K) => zt_87 h hG hP
  have b := zz_B_rf (l := l) (Ts := zTs) (D := D) (cl := zcl) (fk := zFK) (cy := cy) (z0 := z0) (sp := sp) (tys := zTys cy) (G := G) (own := "ToolMillModel") (mn := "showOperands") (nL := 7) (cc := prog_14_method_234_code) (d := (d + 4)) ((0, [(0, .ref 171), (1, .int (Int32.ofNat 32)), (2, .int p0)], [], w) : zz_F)
  replace b := zz_fw b T9 (rfl : zz_ent zP_87 0 = (0, za_iload 2 1)) (ze_iload rfl)
  replace b := zz_fw b T9 (rfl : zz_ent zP_87 1 = (0, za_const (.int (Int32.ofNat 21)) 3)) (ze_const)
  replace b := zz_fw b T9 (rfl : zz_ent zP_87 3 = (0, za_const (.int (Int32.ofNat 5)) 4)) (ze_const)
  replace b := zz_fSi b TK (rfl : zz_ent zP_87 4 = (0, za_callS 130 3 7)) (zM_fd_21_5 hG hP) rfl rfl (zz_lb rfl)
  replace b := zz_fw b T9 (rfl : zz_ent zP_87 7 = (0, za_istore 3 8)) (ze_istore (lv' := [(0, _), (1, _), (2, _)]) rfl)
  replace b := zz_fw b T9 (rfl : zz_ent zP_87 8 = (0, za_iload 2 9)) (ze_iload rfl)
  replace b := zz_fw b T9 (rfl : zz_ent zP_87 9 = (0, za_const (.int (Int32.ofNat 16)) 11)) (ze_const)
  replace b := zz_fw b T9 (rfl : zz_ent zP_87 11 = (0, za_const (.int (Int32.ofNat 5)) 12)) (ze_const)
  replace b := zz_fSi b TK (rfl : zz_ent zP_87 12 = (0, za_callS 130 3 15)) (zM_fd_16_5 hG hP) rfl rfl (zz_lb rfl)
  replace b := zz_fw b T9 (rfl : zz_ent zP_87 15 = (0, za_istore 4 17)) (ze_istore (lv' := [(3, _), (0, _), (1, _), (2, _)]) rfl)
  replace b := zz_fw b T9 (rfl : zz_ent zP_87 17 = (0, za_iload 2 18)) (ze_iload rfl)
  replace b := zz_fw b T9 (rfl : zz_ent zP_87 18 = (0, za_const (.int (Int32.ofNat 11)) 20)) (ze_const)
  replace b := zz_fw b T9 (rfl : zz_ent zP_87 20 = (0, za_const (.int (Int32.ofNat 5)) 21)) (ze_const)
  replace b := zz_fSi b TK (rfl : zz_ent zP_87 21 = (0, za_callS 130 3 24)) (zM_fd_11_5 hG hP) rfl rfl (zz_lb rfl)
  replace b := zz_fw b T9 (rfl : zz_ent zP_87 24 = (0, za_istore 5 26)) (ze_istore (lv' := [(4, _), (3, _), (0, _), (1, _), (2, _)]) rfl)
  replace b := zz_fw b T9 (rfl : zz_ent zP_87 26 = (0, za_iload 2 27)) (ze_iload rfl)
  replace b := zz_fw b T9 (rfl : zz_ent zP_87 27 = (0, za_i2s 28)) (ze_i2s rfl)
  replace b := zz_fw b T9 (rfl : zz_ent zP_87 28 = (0, za_istore 6 30)) (ze_istore (lv' := [(5, _), (4, _), (3, _), (0, _), (1, _), (2, _)]) rfl)
  replace b := zz_fw b T9 (rfl : zz_ent zP_87 30 = (0, za_iload 1 31)) (ze_iload rfl)
  replace b := zz_fw b T9 (rfl : zz_ent zP_87 31 = (0, za_const (.int (Int32.ofNat 7)) 33)) (ze_const)
  replace b := zz_fw b T9 (rfl : zz_ent zP_87 33 = (0, za_icmp_gt 59 36)) (ze_icmp_gt_t (by decide))
  replace b := zz_fw b T9 (rfl : zz_ent zP_87 59 = (0, za_iload 1 60)) (ze_iload rfl)
  replace b := zz_fw b T9 (rfl : zz_ent zP_87 60 = (0, za_const (.int (Int32.ofNat 10)) 62)) (ze_const)
  replace b := zz_fw b T9 (rfl : zz_ent zP_87 62 = (0, za_icmp_gt 93 65)) (ze_icmp_gt_t (by decide))
  replace b := zz_fw b T9 (rfl : zz_ent zP_87 93 = (0, za_iload 1 94)) (ze_iload rfl)
  replace b := zz_fw b T9 (rfl : zz_ent zP_87 94 = (0, za_const (.int (Int32.ofNat 13)) 96)) (ze_const)
  replace b := zz_fw b T9 (rfl : zz_ent zP_87 96 = (0, za_icmp_gt 122 99)) (ze_icmp_gt_t (by decide))
  replace b := zz_fw b T9 (rfl : zz_ent zP_87 122 = (0, za_iload 1 123)) (ze_iload rfl)
  replace b := zz_fw b T9 (rfl : zz_ent zP_87 123 = (0, za_const (.int (Int32.ofNat 17)) 125)) (ze_const)
  replace b := zz_fw b T9 (rfl : zz_ent zP_87 125 = (0, za_icmp_gt 144 128)) (ze_icmp_gt_t (by decide))
  replace b := zz_fw b T9 (rfl : zz_ent zP_87 144 = (0, za_iload 1 145)) (ze_iload rfl)
  replace b := zz_fw b T9 (rfl : zz_ent zP_87 145 = (0, za_const (.int (Int32.ofNat 19)) 147)) (ze_const)
  replace b := zz_fw b T9 (rfl : zz_ent zP_87 147 = (0, za_icmp_gt 160 150)) (ze_icmp_gt_t (by decide))
  replace b := zz_fw b T9 (rfl : zz_ent zP_87 160 = (0, za_iload 1 161)) (ze_iload rfl)
  replace b := zz_fw b T9 (rfl : zz_ent zP_87 161 = (0, za_const (.int (Int32.ofNat 23)) 163)) (ze_const)
  replace b := zz_fw b T9 (rfl : zz_ent zP_87 163 = (0, za_icmp_gt 175 166)) (ze_icmp_gt_t (by decide))
  replace b := zz_fw b T9 (rfl : zz_ent zP_87 175 = (0, za_iload 1 176)) (ze_iload rfl)
  replace b := zz_fw b T9 (rfl : zz_ent zP_87 176 = (0, za_const (.int (Int32.ofNat 25)) 178)) (ze_const)
  replace b := zz_fw b T9 (rfl : zz_ent zP_87 178 = (0, za_icmp_ne 196 181)) (ze_icmp_ne_t (by decide))
  replace b := zz_fw b T9 (rfl : zz_ent zP_87 196 = (0, za_iload 1 197)) (ze_iload rfl)
  replace b := zz_fw b T9 (rfl : zz_ent zP_87 197 = (0, za_const (.int (Int32.ofNat 31)) 199)) (ze_const)
  replace b := zz_fw b T9 (rfl : zz_ent zP_87 199 = (0, za_icmp_gt 238 202)) (ze_icmp_gt_t (by decide))
  replace b := zz_fw b T9 (rfl : zz_ent zP_87 238 = (0, za_iload 1 239)) (ze_iload rfl)
  replace b := zz_fw b T9 (rfl : zz_ent zP_87 239 = (0, za_const (.int (Int32.ofNat 32)) 241)) (ze_const)
  replace b := zz_fw b T9 (rfl : zz_ent zP_87 241 = (0, za_icmp_ne 263 244)) (ze_icmp_ne_f (by decide))
  replace b := zz_fw b T9 (rfl : zz_ent zP_87 244 = (0, za_aload 0 245)) (ze_aload rfl)
  replace b := zz_fw b T9 (rfl : zz_ent zP_87 245 = (0, za_iload 4 247)) (ze_iload rfl)
  replace b := zz_fw b T9 (rfl : zz_ent zP_87 247 = (0, za_const (.int (Int32.ofNat 1)) 248)) (ze_const)
  obtain ⟨w1, hM1, hQ1⟩ := zM_r1 (d := d) (l := l) (D := D) (cy := cy) (sp := sp) hG hP hQ (p := p0) (s := 16) (by have g1 := zRg_5 p0 11; have g2 := zRg_5 p0 16; have g3 := zRg_5 p0 21; have g4 := zdc_11 p0.toInt16.toInt32; (try simp only [List.length_append, List.length_singleton] at hT ⊢); (try simp only [List.length_append, List.length_singleton]); omega)
  replace b := zz_fVv b TK (rfl : zz_ent zP_87 248 = (0, za_callV 0 131 2 251)) hM1 rfl rfl (zQ_ic hQ) (zz_lb rfl)
  replace b := zz_fw b T9 (rfl : zz_ent zP_87 251 = (0, za_aload 0 252)) (ze_aload rfl)
  replace b := zz_fw b T9 (rfl : zz_ent zP_87 252 = (0, za_iload 2 253)) (ze_iload rfl)
  replace b := zz_fw b T9 (rfl : zz_ent zP_87 253 = (0, za_const (.int (Int32.ofNat 65535)) 256)) (ze_const)
  replace b := zz_fw b T9 (rfl : zz_ent zP_87 256 = (0, za_iand 257)) (ze_iand (zl_16 p0))
  obtain ⟨w2, hM2, hQ2⟩ := zM_num (d := d + 2) (l := l) (D := D) (cy := cy) (sp := sp) hG hP hQ1 (p0 := (p0.toInt16.toInt32 &&& Int32.ofNat 65535)) (by have g1 := zRg_5 p0 11; have g2 := zRg_5 p0 16; have g3 := zRg_5 p0 21; have g4 := zdc_11 (p0.toInt16.toInt32 &&& Int32.ofNat 65535); (try simp only [List.length_append, List.length_singleton] at hT ⊢); (try simp only [List.length_append, List.length_singleton]); omega)
  replace b := zz_fVv b TK (rfl : zz_ent zP_87 257 = (0, za_callV 0 88 1 260)) hM2 rfl rfl (zQ_ic hQ1) (zz_lb rfl)
  replace b := zz_fw b T9 (rfl : zz_ent zP_87 260 = (0, za_goto 348)) (ze_goto)
  have m := zz_M_B (yn := zYN) (cn := zCN) (ml := zMQ) (rt := zRT) (y := 87) (as := [.ref 171, .int (Int32.ofNat 32), .int p0]) rfl rfl rfl rfl rfl (by decide +kernel) (zz_lb rfl) (zz_lb rfl) (zz_end_v (zr_87.1 348 rfl).1) b
  exact ⟨_, m, by have e := hQ2; simp only [List.append_assoc] at e; exact e⟩
theorem zM_op_11 {l : Launch} {D : va_G} {cy : Nat → ClassId} {z0 : Nat} {sp : Nat → Nat} {G : State → Prop} {d : Nat} (hG : zz_GF z0 G) (hP : ∀ U, G U → zz_GD zS zS2 zLg z0 sp U) {T : List Nat} {w0 w : zz_W} (hQ : zQ (T ++ [32]) w0 w) {p0 : Int32} {g : Nat} (h1 : 33 ≤ g) (h2 : g ≤ 40) (hT : T.length ≤ 8) : ∃ w', zz_M l zTs D zcl zFK cy z0 sp (zTys cy) G zYN zCN zMQ zRT (d + 5) 87 [.ref 171, .int (Int32.ofNat g), .int p0] w [] w' ∧ zQ (T ++ zOp 11 p0) w0 w' := by
  have T9 := zt_87 (l := l) (D := D) (cy := cy) (z0 := z0) (sp := sp) (G := G) (d := (d + 4)) zz_k0_KS hG hP
  have TK := fun (K : zz_K) (h : zz_KS l D zcl zFK cy z0 sp (zTys cy) G zYN (fun y => Cond.code (zYN y) (zCN y) (zMQ y) (zRT y) :: zTs) (d + 4) K) => zt_87 h hG hP
  have b := zz_B_rf (l := l) (Ts := zTs) (D := D) (cl := zcl) (fk := zFK) (cy := cy) (z0 := z0) (sp := sp) (tys := zTys cy) (G := G) (own := "ToolMillModel") (mn := "showOperands") (nL := 7) (cc := prog_14_method_234_code) (d := (d + 4)) ((0, [(0, .ref 171), (1, .int (Int32.ofNat g)), (2, .int p0)], [], w) : zz_F)
  replace b := zz_fw b T9 (rfl : zz_ent zP_87 0 = (0, za_iload 2 1)) (ze_iload rfl)
  replace b := zz_fw b T9 (rfl : zz_ent zP_87 1 = (0, za_const (.int (Int32.ofNat 21)) 3)) (ze_const)
  replace b := zz_fw b T9 (rfl : zz_ent zP_87 3 = (0, za_const (.int (Int32.ofNat 5)) 4)) (ze_const)
  replace b := zz_fSi b TK (rfl : zz_ent zP_87 4 = (0, za_callS 130 3 7)) (zM_fd_21_5 hG hP) rfl rfl (zz_lb rfl)
  replace b := zz_fw b T9 (rfl : zz_ent zP_87 7 = (0, za_istore 3 8)) (ze_istore (lv' := [(0, _), (1, _), (2, _)]) rfl)
  replace b := zz_fw b T9 (rfl : zz_ent zP_87 8 = (0, za_iload 2 9)) (ze_iload rfl)
  replace b := zz_fw b T9 (rfl : zz_ent zP_87 9 = (0, za_const (.int (Int32.ofNat 16)) 11)) (ze_const)
  replace b := zz_fw b T9 (rfl : zz_ent zP_87 11 = (0, za_const (.int (Int32.ofNat 5)) 12)) (ze_const)
  replace b := zz_fSi b TK (rfl : zz_ent zP_87 12 = (0, za_callS 130 3 15)) (zM_fd_16_5 hG hP) rfl rfl (zz_lb rfl)
  replace b := zz_fw b T9 (rfl : zz_ent zP_87 15 = (0, za_istore 4 17)) (ze_istore (lv' := [(3, _), (0, _), (1, _), (2, _)]) rfl)
  replace b := zz_fw b T9 (rfl : zz_ent zP_87 17 = (0, za_iload 2 18)) (ze_iload rfl)
  replace b := zz_fw b T9 (rfl : zz_ent zP_87 18 = (0, za_const (.int (Int32.ofNat 11)) 20)) (ze_const)
  replace b := zz_fw b T9 (rfl : zz_ent zP_87 20 = (0, za_const (.int (Int32.ofNat 5)) 21)) (ze_const)
  replace b := zz_fSi b TK (rfl : zz_ent zP_87 21 = (0, za_callS 130 3 24)) (zM_fd_11_5 hG hP) rfl rfl (zz_lb rfl)
  replace b := zz_fw b T9 (rfl : zz_ent zP_87 24 = (0, za_istore 5 26)) (ze_istore (lv' := [(4, _), (3, _), (0, _), (1, _), (2, _)]) rfl)
  replace b := zz_fw b T9 (rfl : zz_ent zP_87 26 = (0, za_iload 2 27)) (ze_iload rfl)
  replace b := zz_fw b T9 (rfl : zz_ent zP_87 27 = (0, za_i2s 28)) (ze_i2s rfl)
  replace b := zz_fw b T9 (rfl : zz_ent zP_87 28 = (0, za_istore 6 30)) (ze_istore (lv' := [(5, _), (4, _), (3, _), (0, _), (1, _), (2, _)]) rfl)
  replace b := zz_fw b T9 (rfl : zz_ent zP_87 30 = (0, za_iload 1 31)) (ze_iload rfl)
  replace b := zz_fw b T9 (rfl : zz_ent zP_87 31 = (0, za_const (.int (Int32.ofNat 7)) 33)) (ze_const)
  replace b := zz_fw b T9 (rfl : zz_ent zP_87 33 = (0, za_icmp_gt 59 36)) (ze_icmp_gt_t (zl_gt g (by omega) 7 (by decide) (by omega)))
  replace b := zz_fw b T9 (rfl : zz_ent zP_87 59 = (0, za_iload 1 60)) (ze_iload rfl)
  replace b := zz_fw b T9 (rfl : zz_ent zP_87 60 = (0, za_const (.int (Int32.ofNat 10)) 62)) (ze_const)
  replace b := zz_fw b T9 (rfl : zz_ent zP_87 62 = (0, za_icmp_gt 93 65)) (ze_icmp_gt_t (zl_gt g (by omega) 10 (by decide) (by omega)))
  replace b := zz_fw b T9 (rfl : zz_ent zP_87 93 = (0, za_iload 1 94)) (ze_iload rfl)
  replace b := zz_fw b T9 (rfl : zz_ent zP_87 94 = (0, za_const (.int (Int32.ofNat 13)) 96)) (ze_const)
  replace b := zz_fw b T9 (rfl : zz_ent zP_87 96 = (0, za_icmp_gt 122 99)) (ze_icmp_gt_t (zl_gt g (by omega) 13 (by decide) (by omega)))
  replace b := zz_fw b T9 (rfl : zz_ent zP_87 122 = (0, za_iload 1 123)) (ze_iload rfl)
  replace b := zz_fw b T9 (rfl : zz_ent zP_87 123 = (0, za_const (.int (Int32.ofNat 17)) 125)) (ze_const)
  replace b := zz_fw b T9 (rfl : zz_ent zP_87 125 = (0, za_icmp_gt 144 128)) (ze_icmp_gt_t (zl_gt g (by omega) 17 (by decide) (by omega)))
  replace b := zz_fw b T9 (rfl : zz_ent zP_87 144 = (0, za_iload 1 145)) (ze_iload rfl)
  replace b := zz_fw b T9 (rfl : zz_ent zP_87 145 = (0, za_const (.int (Int32.ofNat 19)) 147)) (ze_const)
  replace b := zz_fw b T9 (rfl : zz_ent zP_87 147 = (0, za_icmp_gt 160 150)) (ze_icmp_gt_t (zl_gt g (by omega) 19 (by decide) (by omega)))
  replace b := zz_fw b T9 (rfl : zz_ent zP_87 160 = (0, za_iload 1 161)) (ze_iload rfl)
  replace b := zz_fw b T9 (rfl : zz_ent zP_87 161 = (0, za_const (.int (Int32.ofNat 23)) 163)) (ze_const)
  replace b := zz_fw b T9 (rfl : zz_ent zP_87 163 = (0, za_icmp_gt 175 166)) (ze_icmp_gt_t (zl_gt g (by omega) 23 (by decide) (by omega)))
  replace b := zz_fw b T9 (rfl : zz_ent zP_87 175 = (0, za_iload 1 176)) (ze_iload rfl)
  replace b := zz_fw b T9 (rfl : zz_ent zP_87 176 = (0, za_const (.int (Int32.ofNat 25)) 178)) (ze_const)
  replace b := zz_fw b T9 (rfl : zz_ent zP_87 178 = (0, za_icmp_ne 196 181)) (ze_icmp_ne_t (zl_neq g (by omega) 25 (by decide) (by omega)))
  replace b := zz_fw b T9 (rfl : zz_ent zP_87 196 = (0, za_iload 1 197)) (ze_iload rfl)
  replace b := zz_fw b T9 (rfl : zz_ent zP_87 197 = (0, za_const (.int (Int32.ofNat 31)) 199)) (ze_const)
  replace b := zz_fw b T9 (rfl : zz_ent zP_87 199 = (0, za_icmp_gt 238 202)) (ze_icmp_gt_t (zl_gt g (by omega) 31 (by decide) (by omega)))
  replace b := zz_fw b T9 (rfl : zz_ent zP_87 238 = (0, za_iload 1 239)) (ze_iload rfl)
  replace b := zz_fw b T9 (rfl : zz_ent zP_87 239 = (0, za_const (.int (Int32.ofNat 32)) 241)) (ze_const)
  replace b := zz_fw b T9 (rfl : zz_ent zP_87 241 = (0, za_icmp_ne 263 244)) (ze_icmp_ne_t (zl_neq g (by omega) 32 (by decide) (by omega)))
  replace b := zz_fw b T9 (rfl : zz_ent zP_87 263 = (0, za_iload 1 264)) (ze_iload rfl)
  replace b := zz_fw b T9 (rfl : zz_ent zP_87 264 = (0, za_const (.int (Int32.ofNat 40)) 266)) (ze_const)
  replace b := zz_fw b T9 (rfl : zz_ent zP_87 266 = (0, za_icmp_gt 303 269)) (ze_icmp_gt_f (zl_ngt g (by omega) 40 (by decide) (by omega)))
  replace b := zz_fw b T9 (rfl : zz_ent zP_87 269 = (0, za_aload 0 270)) (ze_aload rfl)
  replace b := zz_fw b T9 (rfl : zz_ent zP_87 270 = (0, za_iload 4 272)) (ze_iload rfl)
  replace b := zz_fw b T9 (rfl : zz_ent zP_87 272 = (0, za_const (.int (Int32.ofNat 1)) 273)) (ze_const)
  obtain ⟨w1, hM1, hQ1⟩ := zM_r1 (d := d) (l := l) (D := D) (cy := cy) (sp := sp) hG hP hQ (p := p0) (s := 16) (by have g1 := zRg_5 p0 11; have g2 := zRg_5 p0 16; have g3 := zRg_5 p0 21; have g4 := zdc_11 p0.toInt16.toInt32; (try simp only [List.length_append, List.length_singleton] at hT ⊢); (try simp only [List.length_append, List.length_singleton]); omega)
  replace b := zz_fVv b TK (rfl : zz_ent zP_87 273 = (0, za_callV 0 131 2 276)) hM1 rfl rfl (zQ_ic hQ) (zz_lb rfl)
  replace b := zz_fw b T9 (rfl : zz_ent zP_87 276 = (0, za_aload 0 277)) (ze_aload rfl)
  replace b := zz_fw b T9 (rfl : zz_ent zP_87 277 = (0, za_iload 6 279)) (ze_iload rfl)
  obtain ⟨w2, hM2, hQ2⟩ := zM_num (d := d + 2) (l := l) (D := D) (cy := cy) (sp := sp) hG hP hQ1 (p0 := p0.toInt16.toInt32) (by have g1 := zRg_5 p0 11; have g2 := zRg_5 p0 16; have g3 := zRg_5 p0 21; have g4 := zdc_11 p0.toInt16.toInt32; (try simp only [List.length_append, List.length_singleton] at hT ⊢); (try simp only [List.length_append, List.length_singleton]); omega)
  replace b := zz_fVv b TK (rfl : zz_ent zP_87 279 = (0, za_callV 0 88 1 282)) hM2 rfl rfl (zQ_ic hQ1) (zz_lb rfl)
  replace b := zz_fw b T9 (rfl : zz_ent zP_87 282 = (0, za_aload 0 283)) (ze_aload rfl)
  replace b := zz_fw b T9 (rfl : zz_ent zP_87 283 = (0, za_const (.int (Int32.ofNat 40)) 285)) (ze_const)
  obtain ⟨w3, hM3, hQ3⟩ := zM_show (d := d + 3) (l := l) (D := D) (cy := cy) (sp := sp) hG hP hQ2 (x := 40) (by have g1 := zRg_5 p0 11; have g2 := zRg_5 p0 16; have g3 := zRg_5 p0 21; have g4 := zdc_11 p0.toInt16.toInt32; (try simp only [List.length_append, List.length_singleton] at hT ⊢); (try simp only [List.length_append, List.length_singleton]); omega) (by decide)
  replace b := zz_fVv b TK (rfl : zz_ent zP_87 285 = (0, za_callV 0 86 1 288)) hM3 rfl rfl (zQ_ic hQ2) (zz_lb rfl)
  replace b := zz_fw b T9 (rfl : zz_ent zP_87 288 = (0, za_aload 0 289)) (ze_aload rfl)
  replace b := zz_fw b T9 (rfl : zz_ent zP_87 289 = (0, za_iload 3 290)) (ze_iload rfl)
  replace b := zz_fw b T9 (rfl : zz_ent zP_87 290 = (0, za_const (.int (Int32.ofNat 0)) 291)) (ze_const)
  obtain ⟨w4, hM4, hQ4⟩ := zM_r0 (d := d) (l := l) (D := D) (cy := cy) (sp := sp) hG hP hQ3 (p := p0) (s := 21) (by have g1 := zRg_5 p0 11; have g2 := zRg_5 p0 16; have g3 := zRg_5 p0 21; have g4 := zdc_11 p0.toInt16.toInt32; (try simp only [List.length_append, List.length_singleton] at hT ⊢); (try simp only [List.length_append, List.length_singleton]); omega)
  replace b := zz_fVv b TK (rfl : zz_ent zP_87 291 = (0, za_callV 0 131 2 294)) hM4 rfl rfl (zQ_ic hQ3) (zz_lb rfl)
  replace b := zz_fw b T9 (rfl : zz_ent zP_87 294 = (0, za_aload 0 295)) (ze_aload rfl)
  replace b := zz_fw b T9 (rfl : zz_ent zP_87 295 = (0, za_const (.int (Int32.ofNat 41)) 297)) (ze_const)
  obtain ⟨w5, hM5, hQ5⟩ := zM_show (d := d + 3) (l := l) (D := D) (cy := cy) (sp := sp) hG hP hQ4 (x := 41) (by have g1 := zRg_5 p0 11; have g2 := zRg_5 p0 16; have g3 := zRg_5 p0 21; have g4 := zdc_11 p0.toInt16.toInt32; (try simp only [List.length_append, List.length_singleton] at hT ⊢); (try simp only [List.length_append, List.length_singleton]); omega) (by decide)
  replace b := zz_fVv b TK (rfl : zz_ent zP_87 297 = (0, za_callV 0 86 1 300)) hM5 rfl rfl (zQ_ic hQ4) (zz_lb rfl)
  replace b := zz_fw b T9 (rfl : zz_ent zP_87 300 = (0, za_goto 348)) (ze_goto)
  have m := zz_M_B (yn := zYN) (cn := zCN) (ml := zMQ) (rt := zRT) (y := 87) (as := [.ref 171, .int (Int32.ofNat g), .int p0]) rfl rfl rfl rfl rfl (by decide +kernel) (zz_lb rfl) (zz_lb rfl) (zz_end_v (zr_87.1 348 rfl).1) b
  exact ⟨_, m, by have e := hQ5; simp only [List.append_assoc] at e; exact e⟩
theorem zM_op_12 {l : Launch} {D : va_G} {cy : Nat → ClassId} {z0 : Nat} {sp : Nat → Nat} {G : State → Prop} {d : Nat} (hG : zz_GF z0 G) (hP : ∀ U, G U → zz_GD zS zS2 zLg z0 sp U) {T : List Nat} {w0 w : zz_W} (hQ : zQ (T ++ [32]) w0 w) {p0 : Int32} {g : Nat} (h1 : 41 ≤ g) (h2 : g ≤ 42) (hT : T.length ≤ 8) : ∃ w', zz_M l zTs D zcl zFK cy z0 sp (zTys cy) G zYN zCN zMQ zRT (d + 5) 87 [.ref 171, .int (Int32.ofNat g), .int p0] w [] w' ∧ zQ (T ++ zOp 12 p0) w0 w' := by
  have T9 := zt_87 (l := l) (D := D) (cy := cy) (z0 := z0) (sp := sp) (G := G) (d := (d + 4)) zz_k0_KS hG hP
  have TK := fun (K : zz_K) (h : zz_KS l D zcl zFK cy z0 sp (zTys cy) G zYN (fun y => Cond.code (zYN y) (zCN y) (zMQ y) (zRT y) :: zTs) (d + 4) K) => zt_87 h hG hP
  have b := zz_B_rf (l := l) (Ts := zTs) (D := D) (cl := zcl) (fk := zFK) (cy := cy) (z0 := z0) (sp := sp) (tys := zTys cy) (G := G) (own := "ToolMillModel") (mn := "showOperands") (nL := 7) (cc := prog_14_method_234_code) (d := (d + 4)) ((0, [(0, .ref 171), (1, .int (Int32.ofNat g)), (2, .int p0)], [], w) : zz_F)
  replace b := zz_fw b T9 (rfl : zz_ent zP_87 0 = (0, za_iload 2 1)) (ze_iload rfl)
  replace b := zz_fw b T9 (rfl : zz_ent zP_87 1 = (0, za_const (.int (Int32.ofNat 21)) 3)) (ze_const)
  replace b := zz_fw b T9 (rfl : zz_ent zP_87 3 = (0, za_const (.int (Int32.ofNat 5)) 4)) (ze_const)
  replace b := zz_fSi b TK (rfl : zz_ent zP_87 4 = (0, za_callS 130 3 7)) (zM_fd_21_5 hG hP) rfl rfl (zz_lb rfl)
  replace b := zz_fw b T9 (rfl : zz_ent zP_87 7 = (0, za_istore 3 8)) (ze_istore (lv' := [(0, _), (1, _), (2, _)]) rfl)
  replace b := zz_fw b T9 (rfl : zz_ent zP_87 8 = (0, za_iload 2 9)) (ze_iload rfl)
  replace b := zz_fw b T9 (rfl : zz_ent zP_87 9 = (0, za_const (.int (Int32.ofNat 16)) 11)) (ze_const)
  replace b := zz_fw b T9 (rfl : zz_ent zP_87 11 = (0, za_const (.int (Int32.ofNat 5)) 12)) (ze_const)
  replace b := zz_fSi b TK (rfl : zz_ent zP_87 12 = (0, za_callS 130 3 15)) (zM_fd_16_5 hG hP) rfl rfl (zz_lb rfl)
  replace b := zz_fw b T9 (rfl : zz_ent zP_87 15 = (0, za_istore 4 17)) (ze_istore (lv' := [(3, _), (0, _), (1, _), (2, _)]) rfl)
  replace b := zz_fw b T9 (rfl : zz_ent zP_87 17 = (0, za_iload 2 18)) (ze_iload rfl)
  replace b := zz_fw b T9 (rfl : zz_ent zP_87 18 = (0, za_const (.int (Int32.ofNat 11)) 20)) (ze_const)
  replace b := zz_fw b T9 (rfl : zz_ent zP_87 20 = (0, za_const (.int (Int32.ofNat 5)) 21)) (ze_const)
  replace b := zz_fSi b TK (rfl : zz_ent zP_87 21 = (0, za_callS 130 3 24)) (zM_fd_11_5 hG hP) rfl rfl (zz_lb rfl)
  replace b := zz_fw b T9 (rfl : zz_ent zP_87 24 = (0, za_istore 5 26)) (ze_istore (lv' := [(4, _), (3, _), (0, _), (1, _), (2, _)]) rfl)
  replace b := zz_fw b T9 (rfl : zz_ent zP_87 26 = (0, za_iload 2 27)) (ze_iload rfl)
  replace b := zz_fw b T9 (rfl : zz_ent zP_87 27 = (0, za_i2s 28)) (ze_i2s rfl)
  replace b := zz_fw b T9 (rfl : zz_ent zP_87 28 = (0, za_istore 6 30)) (ze_istore (lv' := [(5, _), (4, _), (3, _), (0, _), (1, _), (2, _)]) rfl)
  replace b := zz_fw b T9 (rfl : zz_ent zP_87 30 = (0, za_iload 1 31)) (ze_iload rfl)
  replace b := zz_fw b T9 (rfl : zz_ent zP_87 31 = (0, za_const (.int (Int32.ofNat 7)) 33)) (ze_const)
  replace b := zz_fw b T9 (rfl : zz_ent zP_87 33 = (0, za_icmp_gt 59 36)) (ze_icmp_gt_t (zl_gt g (by omega) 7 (by decide) (by omega)))
  replace b := zz_fw b T9 (rfl : zz_ent zP_87 59 = (0, za_iload 1 60)) (ze_iload rfl)
  replace b := zz_fw b T9 (rfl : zz_ent zP_87 60 = (0, za_const (.int (Int32.ofNat 10)) 62)) (ze_const)
  replace b := zz_fw b T9 (rfl : zz_ent zP_87 62 = (0, za_icmp_gt 93 65)) (ze_icmp_gt_t (zl_gt g (by omega) 10 (by decide) (by omega)))
  replace b := zz_fw b T9 (rfl : zz_ent zP_87 93 = (0, za_iload 1 94)) (ze_iload rfl)
  replace b := zz_fw b T9 (rfl : zz_ent zP_87 94 = (0, za_const (.int (Int32.ofNat 13)) 96)) (ze_const)
  replace b := zz_fw b T9 (rfl : zz_ent zP_87 96 = (0, za_icmp_gt 122 99)) (ze_icmp_gt_t (zl_gt g (by omega) 13 (by decide) (by omega)))
  replace b := zz_fw b T9 (rfl : zz_ent zP_87 122 = (0, za_iload 1 123)) (ze_iload rfl)
  replace b := zz_fw b T9 (rfl : zz_ent zP_87 123 = (0, za_const (.int (Int32.ofNat 17)) 125)) (ze_const)
  replace b := zz_fw b T9 (rfl : zz_ent zP_87 125 = (0, za_icmp_gt 144 128)) (ze_icmp_gt_t (zl_gt g (by omega) 17 (by decide) (by omega)))
  replace b := zz_fw b T9 (rfl : zz_ent zP_87 144 = (0, za_iload 1 145)) (ze_iload rfl)
  replace b := zz_fw b T9 (rfl : zz_ent zP_87 145 = (0, za_const (.int (Int32.ofNat 19)) 147)) (ze_const)
  replace b := zz_fw b T9 (rfl : zz_ent zP_87 147 = (0, za_icmp_gt 160 150)) (ze_icmp_gt_t (zl_gt g (by omega) 19 (by decide) (by omega)))
  replace b := zz_fw b T9 (rfl : zz_ent zP_87 160 = (0, za_iload 1 161)) (ze_iload rfl)
  replace b := zz_fw b T9 (rfl : zz_ent zP_87 161 = (0, za_const (.int (Int32.ofNat 23)) 163)) (ze_const)
  replace b := zz_fw b T9 (rfl : zz_ent zP_87 163 = (0, za_icmp_gt 175 166)) (ze_icmp_gt_t (zl_gt g (by omega) 23 (by decide) (by omega)))
  replace b := zz_fw b T9 (rfl : zz_ent zP_87 175 = (0, za_iload 1 176)) (ze_iload rfl)
  replace b := zz_fw b T9 (rfl : zz_ent zP_87 176 = (0, za_const (.int (Int32.ofNat 25)) 178)) (ze_const)
  replace b := zz_fw b T9 (rfl : zz_ent zP_87 178 = (0, za_icmp_ne 196 181)) (ze_icmp_ne_t (zl_neq g (by omega) 25 (by decide) (by omega)))
  replace b := zz_fw b T9 (rfl : zz_ent zP_87 196 = (0, za_iload 1 197)) (ze_iload rfl)
  replace b := zz_fw b T9 (rfl : zz_ent zP_87 197 = (0, za_const (.int (Int32.ofNat 31)) 199)) (ze_const)
  replace b := zz_fw b T9 (rfl : zz_ent zP_87 199 = (0, za_icmp_gt 238 202)) (ze_icmp_gt_t (zl_gt g (by omega) 31 (by decide) (by omega)))
  replace b := zz_fw b T9 (rfl : zz_ent zP_87 238 = (0, za_iload 1 239)) (ze_iload rfl)
  replace b := zz_fw b T9 (rfl : zz_ent zP_87 239 = (0, za_const (.int (Int32.ofNat 32)) 241)) (ze_const)
  replace b := zz_fw b T9 (rfl : zz_ent zP_87 241 = (0, za_icmp_ne 263 244)) (ze_icmp_ne_t (zl_neq g (by omega) 32 (by decide) (by omega)))
  replace b := zz_fw b T9 (rfl : zz_ent zP_87 263 = (0, za_iload 1 264)) (ze_iload rfl)
  replace b := zz_fw b T9 (rfl : zz_ent zP_87 264 = (0, za_const (.int (Int32.ofNat 40)) 266)) (ze_const)
  replace b := zz_fw b T9 (rfl : zz_ent zP_87 266 = (0, za_icmp_gt 303 269)) (ze_icmp_gt_t (zl_gt g (by omega) 40 (by decide) (by omega)))
  replace b := zz_fw b T9 (rfl : zz_ent zP_87 303 = (0, za_iload 1 304)) (ze_iload rfl)
  replace b := zz_fw b T9 (rfl : zz_ent zP_87 304 = (0, za_const (.int (Int32.ofNat 49)) 306)) (ze_const)
  replace b := zz_fw b T9 (rfl : zz_ent zP_87 306 = (0, za_icmp_lt 323 309)) (ze_icmp_lt_t (zl_lt g (by omega) 49 (by decide) (by omega)))
  replace b := zz_fw b T9 (rfl : zz_ent zP_87 323 = (0, za_aload 0 324)) (ze_aload rfl)
  replace b := zz_fw b T9 (rfl : zz_ent zP_87 324 = (0, za_iload 3 325)) (ze_iload rfl)
  replace b := zz_fw b T9 (rfl : zz_ent zP_87 325 = (0, za_const (.int (Int32.ofNat 1)) 326)) (ze_const)
  obtain ⟨w1, hM1, hQ1⟩ := zM_r1 (d := d) (l := l) (D := D) (cy := cy) (sp := sp) hG hP hQ (p := p0) (s := 21) (by have g1 := zRg_5 p0 11; have g2 := zRg_5 p0 16; have g3 := zRg_5 p0 21; have g4 := zdc_11 p0.toInt16.toInt32; (try simp only [List.length_append, List.length_singleton] at hT ⊢); (try simp only [List.length_append, List.length_singleton]); omega)
  replace b := zz_fVv b TK (rfl : zz_ent zP_87 326 = (0, za_callV 0 131 2 329)) hM1 rfl rfl (zQ_ic hQ) (zz_lb rfl)
  replace b := zz_fw b T9 (rfl : zz_ent zP_87 329 = (0, za_iload 1 330)) (ze_iload rfl)
  replace b := zz_fw b T9 (rfl : zz_ent zP_87 330 = (0, za_const (.int (Int32.ofNat 42)) 332)) (ze_const)
  replace b := zz_fw b T9 (rfl : zz_ent zP_87 332 = (0, za_icmp_gt 342 335)) (ze_icmp_gt_f (zl_ngt g (by omega) 42 (by decide) (by omega)))
  replace b := zz_fw b T9 (rfl : zz_ent zP_87 335 = (0, za_aload 0 336)) (ze_aload rfl)
  replace b := zz_fw b T9 (rfl : zz_ent zP_87 336 = (0, za_iload 4 338)) (ze_iload rfl)
  replace b := zz_fw b T9 (rfl : zz_ent zP_87 338 = (0, za_const (.int (Int32.ofNat 1)) 339)) (ze_const)
  obtain ⟨w2, hM2, hQ2⟩ := zM_r1 (d := d) (l := l) (D := D) (cy := cy) (sp := sp) hG hP hQ1 (p := p0) (s := 16) (by have g1 := zRg_5 p0 11; have g2 := zRg_5 p0 16; have g3 := zRg_5 p0 21; have g4 := zdc_11 p0.toInt16.toInt32; (try simp only [List.length_append, List.length_singleton] at hT ⊢); (try simp only [List.length_append, List.length_singleton]); omega)
  replace b := zz_fVv b TK (rfl : zz_ent zP_87 339 = (0, za_callV 0 131 2 342)) hM2 rfl rfl (zQ_ic hQ1) (zz_lb rfl)
  replace b := zz_fw b T9 (rfl : zz_ent zP_87 342 = (0, za_aload 0 343)) (ze_aload rfl)
  replace b := zz_fw b T9 (rfl : zz_ent zP_87 343 = (0, za_iload 6 345)) (ze_iload rfl)
  obtain ⟨w3, hM3, hQ3⟩ := zM_num (d := d + 2) (l := l) (D := D) (cy := cy) (sp := sp) hG hP hQ2 (p0 := p0.toInt16.toInt32) (by have g1 := zRg_5 p0 11; have g2 := zRg_5 p0 16; have g3 := zRg_5 p0 21; have g4 := zdc_11 p0.toInt16.toInt32; (try simp only [List.length_append, List.length_singleton] at hT ⊢); (try simp only [List.length_append, List.length_singleton]); omega)
  replace b := zz_fVv b TK (rfl : zz_ent zP_87 345 = (0, za_callV 0 88 1 348)) hM3 rfl rfl (zQ_ic hQ2) (zz_lb rfl)
  have m := zz_M_B (yn := zYN) (cn := zCN) (ml := zMQ) (rt := zRT) (y := 87) (as := [.ref 171, .int (Int32.ofNat g), .int p0]) rfl rfl rfl rfl rfl (by decide +kernel) (zz_lb rfl) (zz_lb rfl) (zz_end_v (zr_87.1 348 rfl).1) b
  exact ⟨_, m, by have e := hQ3; simp only [List.append_assoc] at e; exact e⟩
theorem zM_op_13 {l : Launch} {D : va_G} {cy : Nat → ClassId} {z0 : Nat} {sp : Nat → Nat} {G : State → Prop} {d : Nat} (hG : zz_GF z0 G) (hP : ∀ U, G U → zz_GD zS zS2 zLg z0 sp U) {T : List Nat} {w0 w : zz_W} (hQ : zQ (T ++ [32]) w0 w) {p0 : Int32} {g : Nat} (h1 : 43 ≤ g) (h2 : g ≤ 48) (hT : T.length ≤ 8) : ∃ w', zz_M l zTs D zcl zFK cy z0 sp (zTys cy) G zYN zCN zMQ zRT (d + 5) 87 [.ref 171, .int (Int32.ofNat g), .int p0] w [] w' ∧ zQ (T ++ zOp 13 p0) w0 w' := by
  have T9 := zt_87 (l := l) (D := D) (cy := cy) (z0 := z0) (sp := sp) (G := G) (d := (d + 4)) zz_k0_KS hG hP
  have TK := fun (K : zz_K) (h : zz_KS l D zcl zFK cy z0 sp (zTys cy) G zYN (fun y => Cond.code (zYN y) (zCN y) (zMQ y) (zRT y) :: zTs) (d + 4) K) => zt_87 h hG hP
  have b := zz_B_rf (l := l) (Ts := zTs) (D := D) (cl := zcl) (fk := zFK) (cy := cy) (z0 := z0) (sp := sp) (tys := zTys cy) (G := G) (own := "ToolMillModel") (mn := "showOperands") (nL := 7) (cc := prog_14_method_234_code) (d := (d + 4)) ((0, [(0, .ref 171), (1, .int (Int32.ofNat g)), (2, .int p0)], [], w) : zz_F)
  replace b := zz_fw b T9 (rfl : zz_ent zP_87 0 = (0, za_iload 2 1)) (ze_iload rfl)
  replace b := zz_fw b T9 (rfl : zz_ent zP_87 1 = (0, za_const (.int (Int32.ofNat 21)) 3)) (ze_const)
  replace b := zz_fw b T9 (rfl : zz_ent zP_87 3 = (0, za_const (.int (Int32.ofNat 5)) 4)) (ze_const)
  replace b := zz_fSi b TK (rfl : zz_ent zP_87 4 = (0, za_callS 130 3 7)) (zM_fd_21_5 hG hP) rfl rfl (zz_lb rfl)
  replace b := zz_fw b T9 (rfl : zz_ent zP_87 7 = (0, za_istore 3 8)) (ze_istore (lv' := [(0, _), (1, _), (2, _)]) rfl)
  replace b := zz_fw b T9 (rfl : zz_ent zP_87 8 = (0, za_iload 2 9)) (ze_iload rfl)
  replace b := zz_fw b T9 (rfl : zz_ent zP_87 9 = (0, za_const (.int (Int32.ofNat 16)) 11)) (ze_const)
  replace b := zz_fw b T9 (rfl : zz_ent zP_87 11 = (0, za_const (.int (Int32.ofNat 5)) 12)) (ze_const)
  replace b := zz_fSi b TK (rfl : zz_ent zP_87 12 = (0, za_callS 130 3 15)) (zM_fd_16_5 hG hP) rfl rfl (zz_lb rfl)
  replace b := zz_fw b T9 (rfl : zz_ent zP_87 15 = (0, za_istore 4 17)) (ze_istore (lv' := [(3, _), (0, _), (1, _), (2, _)]) rfl)
  replace b := zz_fw b T9 (rfl : zz_ent zP_87 17 = (0, za_iload 2 18)) (ze_iload rfl)
  replace b := zz_fw b T9 (rfl : zz_ent zP_87 18 = (0, za_const (.int (Int32.ofNat 11)) 20)) (ze_const)
  replace b := zz_fw b T9 (rfl : zz_ent zP_87 20 = (0, za_const (.int (Int32.ofNat 5)) 21)) (ze_const)
  replace b := zz_fSi b TK (rfl : zz_ent zP_87 21 = (0, za_callS 130 3 24)) (zM_fd_11_5 hG hP) rfl rfl (zz_lb rfl)
  replace b := zz_fw b T9 (rfl : zz_ent zP_87 24 = (0, za_istore 5 26)) (ze_istore (lv' := [(4, _), (3, _), (0, _), (1, _), (2, _)]) rfl)
  replace b := zz_fw b T9 (rfl : zz_ent zP_87 26 = (0, za_iload 2 27)) (ze_iload rfl)
  replace b := zz_fw b T9 (rfl : zz_ent zP_87 27 = (0, za_i2s 28)) (ze_i2s rfl)
  replace b := zz_fw b T9 (rfl : zz_ent zP_87 28 = (0, za_istore 6 30)) (ze_istore (lv' := [(5, _), (4, _), (3, _), (0, _), (1, _), (2, _)]) rfl)
  replace b := zz_fw b T9 (rfl : zz_ent zP_87 30 = (0, za_iload 1 31)) (ze_iload rfl)
  replace b := zz_fw b T9 (rfl : zz_ent zP_87 31 = (0, za_const (.int (Int32.ofNat 7)) 33)) (ze_const)
  replace b := zz_fw b T9 (rfl : zz_ent zP_87 33 = (0, za_icmp_gt 59 36)) (ze_icmp_gt_t (zl_gt g (by omega) 7 (by decide) (by omega)))
  replace b := zz_fw b T9 (rfl : zz_ent zP_87 59 = (0, za_iload 1 60)) (ze_iload rfl)
  replace b := zz_fw b T9 (rfl : zz_ent zP_87 60 = (0, za_const (.int (Int32.ofNat 10)) 62)) (ze_const)
  replace b := zz_fw b T9 (rfl : zz_ent zP_87 62 = (0, za_icmp_gt 93 65)) (ze_icmp_gt_t (zl_gt g (by omega) 10 (by decide) (by omega)))
  replace b := zz_fw b T9 (rfl : zz_ent zP_87 93 = (0, za_iload 1 94)) (ze_iload rfl)
  replace b := zz_fw b T9 (rfl : zz_ent zP_87 94 = (0, za_const (.int (Int32.ofNat 13)) 96)) (ze_const)
  replace b := zz_fw b T9 (rfl : zz_ent zP_87 96 = (0, za_icmp_gt 122 99)) (ze_icmp_gt_t (zl_gt g (by omega) 13 (by decide) (by omega)))
  replace b := zz_fw b T9 (rfl : zz_ent zP_87 122 = (0, za_iload 1 123)) (ze_iload rfl)
  replace b := zz_fw b T9 (rfl : zz_ent zP_87 123 = (0, za_const (.int (Int32.ofNat 17)) 125)) (ze_const)
  replace b := zz_fw b T9 (rfl : zz_ent zP_87 125 = (0, za_icmp_gt 144 128)) (ze_icmp_gt_t (zl_gt g (by omega) 17 (by decide) (by omega)))
  replace b := zz_fw b T9 (rfl : zz_ent zP_87 144 = (0, za_iload 1 145)) (ze_iload rfl)
  replace b := zz_fw b T9 (rfl : zz_ent zP_87 145 = (0, za_const (.int (Int32.ofNat 19)) 147)) (ze_const)
  replace b := zz_fw b T9 (rfl : zz_ent zP_87 147 = (0, za_icmp_gt 160 150)) (ze_icmp_gt_t (zl_gt g (by omega) 19 (by decide) (by omega)))
  replace b := zz_fw b T9 (rfl : zz_ent zP_87 160 = (0, za_iload 1 161)) (ze_iload rfl)
  replace b := zz_fw b T9 (rfl : zz_ent zP_87 161 = (0, za_const (.int (Int32.ofNat 23)) 163)) (ze_const)
  replace b := zz_fw b T9 (rfl : zz_ent zP_87 163 = (0, za_icmp_gt 175 166)) (ze_icmp_gt_t (zl_gt g (by omega) 23 (by decide) (by omega)))
  replace b := zz_fw b T9 (rfl : zz_ent zP_87 175 = (0, za_iload 1 176)) (ze_iload rfl)
  replace b := zz_fw b T9 (rfl : zz_ent zP_87 176 = (0, za_const (.int (Int32.ofNat 25)) 178)) (ze_const)
  replace b := zz_fw b T9 (rfl : zz_ent zP_87 178 = (0, za_icmp_ne 196 181)) (ze_icmp_ne_t (zl_neq g (by omega) 25 (by decide) (by omega)))
  replace b := zz_fw b T9 (rfl : zz_ent zP_87 196 = (0, za_iload 1 197)) (ze_iload rfl)
  replace b := zz_fw b T9 (rfl : zz_ent zP_87 197 = (0, za_const (.int (Int32.ofNat 31)) 199)) (ze_const)
  replace b := zz_fw b T9 (rfl : zz_ent zP_87 199 = (0, za_icmp_gt 238 202)) (ze_icmp_gt_t (zl_gt g (by omega) 31 (by decide) (by omega)))
  replace b := zz_fw b T9 (rfl : zz_ent zP_87 238 = (0, za_iload 1 239)) (ze_iload rfl)
  replace b := zz_fw b T9 (rfl : zz_ent zP_87 239 = (0, za_const (.int (Int32.ofNat 32)) 241)) (ze_const)
  replace b := zz_fw b T9 (rfl : zz_ent zP_87 241 = (0, za_icmp_ne 263 244)) (ze_icmp_ne_t (zl_neq g (by omega) 32 (by decide) (by omega)))
  replace b := zz_fw b T9 (rfl : zz_ent zP_87 263 = (0, za_iload 1 264)) (ze_iload rfl)
  replace b := zz_fw b T9 (rfl : zz_ent zP_87 264 = (0, za_const (.int (Int32.ofNat 40)) 266)) (ze_const)
  replace b := zz_fw b T9 (rfl : zz_ent zP_87 266 = (0, za_icmp_gt 303 269)) (ze_icmp_gt_t (zl_gt g (by omega) 40 (by decide) (by omega)))
  replace b := zz_fw b T9 (rfl : zz_ent zP_87 303 = (0, za_iload 1 304)) (ze_iload rfl)
  replace b := zz_fw b T9 (rfl : zz_ent zP_87 304 = (0, za_const (.int (Int32.ofNat 49)) 306)) (ze_const)
  replace b := zz_fw b T9 (rfl : zz_ent zP_87 306 = (0, za_icmp_lt 323 309)) (ze_icmp_lt_t (zl_lt g (by omega) 49 (by decide) (by omega)))
  replace b := zz_fw b T9 (rfl : zz_ent zP_87 323 = (0, za_aload 0 324)) (ze_aload rfl)
  replace b := zz_fw b T9 (rfl : zz_ent zP_87 324 = (0, za_iload 3 325)) (ze_iload rfl)
  replace b := zz_fw b T9 (rfl : zz_ent zP_87 325 = (0, za_const (.int (Int32.ofNat 1)) 326)) (ze_const)
  obtain ⟨w1, hM1, hQ1⟩ := zM_r1 (d := d) (l := l) (D := D) (cy := cy) (sp := sp) hG hP hQ (p := p0) (s := 21) (by have g1 := zRg_5 p0 11; have g2 := zRg_5 p0 16; have g3 := zRg_5 p0 21; have g4 := zdc_11 p0.toInt16.toInt32; (try simp only [List.length_append, List.length_singleton] at hT ⊢); (try simp only [List.length_append, List.length_singleton]); omega)
  replace b := zz_fVv b TK (rfl : zz_ent zP_87 326 = (0, za_callV 0 131 2 329)) hM1 rfl rfl (zQ_ic hQ) (zz_lb rfl)
  replace b := zz_fw b T9 (rfl : zz_ent zP_87 329 = (0, za_iload 1 330)) (ze_iload rfl)
  replace b := zz_fw b T9 (rfl : zz_ent zP_87 330 = (0, za_const (.int (Int32.ofNat 42)) 332)) (ze_const)
  replace b := zz_fw b T9 (rfl : zz_ent zP_87 332 = (0, za_icmp_gt 342 335)) (ze_icmp_gt_t (zl_gt g (by omega) 42 (by decide) (by omega)))
  replace b := zz_fw b T9 (rfl : zz_ent zP_87 342 = (0, za_aload 0 343)) (ze_aload rfl)
  replace b := zz_fw b T9 (rfl : zz_ent zP_87 343 = (0, za_iload 6 345)) (ze_iload rfl)
  obtain ⟨w2, hM2, hQ2⟩ := zM_num (d := d + 2) (l := l) (D := D) (cy := cy) (sp := sp) hG hP hQ1 (p0 := p0.toInt16.toInt32) (by have g1 := zRg_5 p0 11; have g2 := zRg_5 p0 16; have g3 := zRg_5 p0 21; have g4 := zdc_11 p0.toInt16.toInt32; (try simp only [List.length_append, List.length_singleton] at hT ⊢); (try simp only [List.length_append, List.length_singleton]); omega)
  replace b := zz_fVv b TK (rfl : zz_ent zP_87 345 = (0, za_callV 0 88 1 348)) hM2 rfl rfl (zQ_ic hQ1) (zz_lb rfl)
  have m := zz_M_B (yn := zYN) (cn := zCN) (ml := zMQ) (rt := zRT) (y := 87) (as := [.ref 171, .int (Int32.ofNat g), .int p0]) rfl rfl rfl rfl rfl (by decide +kernel) (zz_lb rfl) (zz_lb rfl) (zz_end_v (zr_87.1 348 rfl).1) b
  exact ⟨_, m, by have e := hQ2; simp only [List.append_assoc] at e; exact e⟩
theorem zM_op_14 {l : Launch} {D : va_G} {cy : Nat → ClassId} {z0 : Nat} {sp : Nat → Nat} {G : State → Prop} {d : Nat} (hG : zz_GF z0 G) (hP : ∀ U, G U → zz_GD zS zS2 zLg z0 sp U) {T : List Nat} {w0 w : zz_W} (hQ : zQ (T ++ [32]) w0 w) {p0 : Int32} {g : Nat} (h1 : 49 ≤ g) (h2 : g ≤ 50) (hT : T.length ≤ 8) : ∃ w', zz_M l zTs D zcl zFK cy z0 sp (zTys cy) G zYN zCN zMQ zRT (d + 5) 87 [.ref 171, .int (Int32.ofNat g), .int p0] w [] w' ∧ zQ (T ++ zOp 14 p0) w0 w' := by
  have T9 := zt_87 (l := l) (D := D) (cy := cy) (z0 := z0) (sp := sp) (G := G) (d := (d + 4)) zz_k0_KS hG hP
  have TK := fun (K : zz_K) (h : zz_KS l D zcl zFK cy z0 sp (zTys cy) G zYN (fun y => Cond.code (zYN y) (zCN y) (zMQ y) (zRT y) :: zTs) (d + 4) K) => zt_87 h hG hP
  have b := zz_B_rf (l := l) (Ts := zTs) (D := D) (cl := zcl) (fk := zFK) (cy := cy) (z0 := z0) (sp := sp) (tys := zTys cy) (G := G) (own := "ToolMillModel") (mn := "showOperands") (nL := 7) (cc := prog_14_method_234_code) (d := (d + 4)) ((0, [(0, .ref 171), (1, .int (Int32.ofNat g)), (2, .int p0)], [], w) : zz_F)
  replace b := zz_fw b T9 (rfl : zz_ent zP_87 0 = (0, za_iload 2 1)) (ze_iload rfl)
  replace b := zz_fw b T9 (rfl : zz_ent zP_87 1 = (0, za_const (.int (Int32.ofNat 21)) 3)) (ze_const)
  replace b := zz_fw b T9 (rfl : zz_ent zP_87 3 = (0, za_const (.int (Int32.ofNat 5)) 4)) (ze_const)
  replace b := zz_fSi b TK (rfl : zz_ent zP_87 4 = (0, za_callS 130 3 7)) (zM_fd_21_5 hG hP) rfl rfl (zz_lb rfl)
  replace b := zz_fw b T9 (rfl : zz_ent zP_87 7 = (0, za_istore 3 8)) (ze_istore (lv' := [(0, _), (1, _), (2, _)]) rfl)
  replace b := zz_fw b T9 (rfl : zz_ent zP_87 8 = (0, za_iload 2 9)) (ze_iload rfl)
  replace b := zz_fw b T9 (rfl : zz_ent zP_87 9 = (0, za_const (.int (Int32.ofNat 16)) 11)) (ze_const)
  replace b := zz_fw b T9 (rfl : zz_ent zP_87 11 = (0, za_const (.int (Int32.ofNat 5)) 12)) (ze_const)
  replace b := zz_fSi b TK (rfl : zz_ent zP_87 12 = (0, za_callS 130 3 15)) (zM_fd_16_5 hG hP) rfl rfl (zz_lb rfl)
  replace b := zz_fw b T9 (rfl : zz_ent zP_87 15 = (0, za_istore 4 17)) (ze_istore (lv' := [(3, _), (0, _), (1, _), (2, _)]) rfl)
  replace b := zz_fw b T9 (rfl : zz_ent zP_87 17 = (0, za_iload 2 18)) (ze_iload rfl)
  replace b := zz_fw b T9 (rfl : zz_ent zP_87 18 = (0, za_const (.int (Int32.ofNat 11)) 20)) (ze_const)
  replace b := zz_fw b T9 (rfl : zz_ent zP_87 20 = (0, za_const (.int (Int32.ofNat 5)) 21)) (ze_const)
  replace b := zz_fSi b TK (rfl : zz_ent zP_87 21 = (0, za_callS 130 3 24)) (zM_fd_11_5 hG hP) rfl rfl (zz_lb rfl)
  replace b := zz_fw b T9 (rfl : zz_ent zP_87 24 = (0, za_istore 5 26)) (ze_istore (lv' := [(4, _), (3, _), (0, _), (1, _), (2, _)]) rfl)
  replace b := zz_fw b T9 (rfl : zz_ent zP_87 26 = (0, za_iload 2 27)) (ze_iload rfl)
  replace b := zz_fw b T9 (rfl : zz_ent zP_87 27 = (0, za_i2s 28)) (ze_i2s rfl)
  replace b := zz_fw b T9 (rfl : zz_ent zP_87 28 = (0, za_istore 6 30)) (ze_istore (lv' := [(5, _), (4, _), (3, _), (0, _), (1, _), (2, _)]) rfl)
  replace b := zz_fw b T9 (rfl : zz_ent zP_87 30 = (0, za_iload 1 31)) (ze_iload rfl)
  replace b := zz_fw b T9 (rfl : zz_ent zP_87 31 = (0, za_const (.int (Int32.ofNat 7)) 33)) (ze_const)
  replace b := zz_fw b T9 (rfl : zz_ent zP_87 33 = (0, za_icmp_gt 59 36)) (ze_icmp_gt_t (zl_gt g (by omega) 7 (by decide) (by omega)))
  replace b := zz_fw b T9 (rfl : zz_ent zP_87 59 = (0, za_iload 1 60)) (ze_iload rfl)
  replace b := zz_fw b T9 (rfl : zz_ent zP_87 60 = (0, za_const (.int (Int32.ofNat 10)) 62)) (ze_const)
  replace b := zz_fw b T9 (rfl : zz_ent zP_87 62 = (0, za_icmp_gt 93 65)) (ze_icmp_gt_t (zl_gt g (by omega) 10 (by decide) (by omega)))
  replace b := zz_fw b T9 (rfl : zz_ent zP_87 93 = (0, za_iload 1 94)) (ze_iload rfl)
  replace b := zz_fw b T9 (rfl : zz_ent zP_87 94 = (0, za_const (.int (Int32.ofNat 13)) 96)) (ze_const)
  replace b := zz_fw b T9 (rfl : zz_ent zP_87 96 = (0, za_icmp_gt 122 99)) (ze_icmp_gt_t (zl_gt g (by omega) 13 (by decide) (by omega)))
  replace b := zz_fw b T9 (rfl : zz_ent zP_87 122 = (0, za_iload 1 123)) (ze_iload rfl)
  replace b := zz_fw b T9 (rfl : zz_ent zP_87 123 = (0, za_const (.int (Int32.ofNat 17)) 125)) (ze_const)
  replace b := zz_fw b T9 (rfl : zz_ent zP_87 125 = (0, za_icmp_gt 144 128)) (ze_icmp_gt_t (zl_gt g (by omega) 17 (by decide) (by omega)))
  replace b := zz_fw b T9 (rfl : zz_ent zP_87 144 = (0, za_iload 1 145)) (ze_iload rfl)
  replace b := zz_fw b T9 (rfl : zz_ent zP_87 145 = (0, za_const (.int (Int32.ofNat 19)) 147)) (ze_const)
  replace b := zz_fw b T9 (rfl : zz_ent zP_87 147 = (0, za_icmp_gt 160 150)) (ze_icmp_gt_t (zl_gt g (by omega) 19 (by decide) (by omega)))
  replace b := zz_fw b T9 (rfl : zz_ent zP_87 160 = (0, za_iload 1 161)) (ze_iload rfl)
  replace b := zz_fw b T9 (rfl : zz_ent zP_87 161 = (0, za_const (.int (Int32.ofNat 23)) 163)) (ze_const)
  replace b := zz_fw b T9 (rfl : zz_ent zP_87 163 = (0, za_icmp_gt 175 166)) (ze_icmp_gt_t (zl_gt g (by omega) 23 (by decide) (by omega)))
  replace b := zz_fw b T9 (rfl : zz_ent zP_87 175 = (0, za_iload 1 176)) (ze_iload rfl)
  replace b := zz_fw b T9 (rfl : zz_ent zP_87 176 = (0, za_const (.int (Int32.ofNat 25)) 178)) (ze_const)
  replace b := zz_fw b T9 (rfl : zz_ent zP_87 178 = (0, za_icmp_ne 196 181)) (ze_icmp_ne_t (zl_neq g (by omega) 25 (by decide) (by omega)))
  replace b := zz_fw b T9 (rfl : zz_ent zP_87 196 = (0, za_iload 1 197)) (ze_iload rfl)
  replace b := zz_fw b T9 (rfl : zz_ent zP_87 197 = (0, za_const (.int (Int32.ofNat 31)) 199)) (ze_const)
  replace b := zz_fw b T9 (rfl : zz_ent zP_87 199 = (0, za_icmp_gt 238 202)) (ze_icmp_gt_t (zl_gt g (by omega) 31 (by decide) (by omega)))
  replace b := zz_fw b T9 (rfl : zz_ent zP_87 238 = (0, za_iload 1 239)) (ze_iload rfl)
  replace b := zz_fw b T9 (rfl : zz_ent zP_87 239 = (0, za_const (.int (Int32.ofNat 32)) 241)) (ze_const)
  replace b := zz_fw b T9 (rfl : zz_ent zP_87 241 = (0, za_icmp_ne 263 244)) (ze_icmp_ne_t (zl_neq g (by omega) 32 (by decide) (by omega)))
  replace b := zz_fw b T9 (rfl : zz_ent zP_87 263 = (0, za_iload 1 264)) (ze_iload rfl)
  replace b := zz_fw b T9 (rfl : zz_ent zP_87 264 = (0, za_const (.int (Int32.ofNat 40)) 266)) (ze_const)
  replace b := zz_fw b T9 (rfl : zz_ent zP_87 266 = (0, za_icmp_gt 303 269)) (ze_icmp_gt_t (zl_gt g (by omega) 40 (by decide) (by omega)))
  replace b := zz_fw b T9 (rfl : zz_ent zP_87 303 = (0, za_iload 1 304)) (ze_iload rfl)
  replace b := zz_fw b T9 (rfl : zz_ent zP_87 304 = (0, za_const (.int (Int32.ofNat 49)) 306)) (ze_const)
  replace b := zz_fw b T9 (rfl : zz_ent zP_87 306 = (0, za_icmp_lt 323 309)) (ze_icmp_lt_f (zl_nlt g (by omega) 49 (by decide) (by omega)))
  replace b := zz_fw b T9 (rfl : zz_ent zP_87 309 = (0, za_aload 0 310)) (ze_aload rfl)
  replace b := zz_fw b T9 (rfl : zz_ent zP_87 310 = (0, za_iload 2 311)) (ze_iload rfl)
  replace b := zz_fw b T9 (rfl : zz_ent zP_87 311 = (0, za_const (.int (Int32.ofNat 0)) 312)) (ze_const)
  replace b := zz_fw b T9 (rfl : zz_ent zP_87 312 = (0, za_const (.int (Int32.ofNat 26)) 314)) (ze_const)
  replace b := zz_fSi b TK (rfl : zz_ent zP_87 314 = (0, za_callS 130 3 317)) (zM_fd_0_26 hG hP) rfl rfl (zz_lb rfl)
  obtain ⟨w1, hM1, hQ1⟩ := zM_num (d := d + 2) (l := l) (D := D) (cy := cy) (sp := sp) hG hP hQ (p0 := (Int32.ofNat (zF p0 0 26))) (by have g1 := zRg_5 p0 11; have g2 := zRg_5 p0 16; have g3 := zRg_5 p0 21; have g4 := zdc_11 (Int32.ofNat (zF p0 0 26)); (try simp only [List.length_append, List.length_singleton] at hT ⊢); (try simp only [List.length_append, List.length_singleton]); omega)
  replace b := zz_fVv b TK (rfl : zz_ent zP_87 317 = (0, za_callV 0 88 1 320)) hM1 rfl rfl (zQ_ic hQ) (zz_lb rfl)
  replace b := zz_fw b T9 (rfl : zz_ent zP_87 320 = (0, za_goto 348)) (ze_goto)
  have m := zz_M_B (yn := zYN) (cn := zCN) (ml := zMQ) (rt := zRT) (y := 87) (as := [.ref 171, .int (Int32.ofNat g), .int p0]) rfl rfl rfl rfl rfl (by decide +kernel) (zz_lb rfl) (zz_lb rfl) (zz_end_v (zr_87.1 348 rfl).1) b
  exact ⟨_, m, by have e := hQ1; simp only [List.append_assoc] at e; exact e⟩
/-- the form of the reference's instruction g -/
def zgF (g : Nat) : Nat := if g ≤ 7 then 0 else if g ≤ 10 then 1 else if g ≤ 13 then 2 else if g ≤ 17 then 3 else if g ≤ 19 then 4 else if g ≤ 23 then 5 else if g ≤ 24 then 6 else if g ≤ 25 then 7 else if g ≤ 28 then 8 else if g ≤ 31 then 9 else if g ≤ 32 then 10 else if g ≤ 40 then 11 else if g ≤ 42 then 12 else if g ≤ 48 then 13 else 14
theorem zM_ops {l : Launch} {D : va_G} {cy : Nat → ClassId} {z0 : Nat} {sp : Nat → Nat} {G : State → Prop} {d : Nat} (hG : zz_GF z0 G) (hP : ∀ U, G U → zz_GD zS zS2 zLg z0 sp U) {T : List Nat} {w0 w : zz_W} (hQ : zQ (T ++ [32]) w0 w) {p0 : Int32} {g : Nat} (h51 : g < 51) (h24 : ¬ g = 24) (hT : T.length ≤ 8) : ∃ w', zz_M l zTs D zcl zFK cy z0 sp (zTys cy) G zYN zCN zMQ zRT (d + 5) 87 [.ref 171, .int (Int32.ofNat g), .int p0] w [] w' ∧ zQ (T ++ zOp (zgF g) p0) w0 w' := by
  unfold zgF
  by_cases c : g ≤ 7
  case pos =>
    rw [if_pos c]
    exact zM_op_0 hG hP hQ (by omega) (by omega) hT
  rw [if_neg c]
  by_cases c : g ≤ 10
  case pos =>
    rw [if_pos c]
    exact zM_op_1 hG hP hQ (by omega) (by omega) hT
  rw [if_neg c]
  by_cases c : g ≤ 13
  case pos =>
    rw [if_pos c]
    exact zM_op_2 hG hP hQ (by omega) (by omega) hT
  rw [if_neg c]
  by_cases c : g ≤ 17
  case pos =>
    rw [if_pos c]
    exact zM_op_3 hG hP hQ (by omega) (by omega) hT
  rw [if_neg c]
  by_cases c : g ≤ 19
  case pos =>
    rw [if_pos c]
    exact zM_op_4 hG hP hQ (by omega) (by omega) hT
  rw [if_neg c]
  by_cases c : g ≤ 23
  case pos =>
    rw [if_pos c]
    exact zM_op_5 hG hP hQ (by omega) (by omega) hT
  rw [if_neg c]
  rw [if_neg (by omega : ¬ g ≤ 24)]
  by_cases c : g ≤ 25
  case pos =>
    rw [if_pos c]
    have e : g = 25 := by omega
    subst e
    exact zM_op_7 hG hP hQ hT
  rw [if_neg c]
  by_cases c : g ≤ 28
  case pos =>
    rw [if_pos c]
    exact zM_op_8 hG hP hQ (by omega) (by omega) hT
  rw [if_neg c]
  by_cases c : g ≤ 31
  case pos =>
    rw [if_pos c]
    exact zM_op_9 hG hP hQ (by omega) (by omega) hT
  rw [if_neg c]
  by_cases c : g ≤ 32
  case pos =>
    rw [if_pos c]
    have e : g = 32 := by omega
    subst e
    exact zM_op_10 hG hP hQ hT
  rw [if_neg c]
  by_cases c : g ≤ 40
  case pos =>
    rw [if_pos c]
    exact zM_op_11 hG hP hQ (by omega) (by omega) hT
  rw [if_neg c]
  by_cases c : g ≤ 42
  case pos =>
    rw [if_pos c]
    exact zM_op_12 hG hP hQ (by omega) (by omega) hT
  rw [if_neg c]
  by_cases c : g ≤ 48
  case pos =>
    rw [if_pos c]
    exact zM_op_13 hG hP hQ (by omega) (by omega) hT
  rw [if_neg c]
  exact zM_op_14 hG hP hQ (by omega) (by omega) hT
theorem zQ_0 {w : zz_W} (hw : zR w) : zQ [] w (zz_up (zz_up w 171 (3, 0, 243, zz_to 64 zc_171 0 (zz_nI (Int32.ofNat 0)))) 171 (3, 0, 243, zz_to 64 (zz_to 64 zc_171 0 (zz_nI (Int32.ofNat 0))) 222 (zz_nI (Int32.ofNat 0)))) := by
  have h1 := zR_has hw zh_171 (by decide) (by decide)
  have h2 := zR_has hw zh_319 (by decide) (by decide)
  refine ⟨zc_319, _, ⟨zz_up_sh (zz_up_sh hw.1), ⟨hw.2.1, rfl, rfl⟩, zz_has_up (zz_up_sh hw.1) (zz_has_up hw.1 h1), fun k a b => ?_, ?_, zz_has_ne (zz_up_sh hw.1) (by decide) (zz_has_ne hw.1 (by decide) h2 (by decide)) (by decide), fun i a b c => ?_, ?_⟩, ?_, by decide, fun j hj => absurd hj (Nat.not_lt_zero j)⟩
  · rw [zz_gn a, zz_gn b]
  · rw [zz_gn (by decide)]
    exact zz_gs2 (by decide)
  · rw [zz_up_ne (zz_up_sh hw.1) (by decide) (by omega), zz_up_ne hw.1 (by decide) (by omega)]
    exact hw.2.2 i (by omega) b
  · rw [zz_up_ne (zz_up_sh hw.1) (by decide) (by decide), zz_up_ne hw.1 (by decide) (by decide)]
  · exact zz_gs2 (by decide)
theorem zIr_77 : 77 ∈ zIr := List.mem_cons_self
theorem zlr_n {l : Launch} {D : va_G} {cy : Nat → ClassId} {z0 : Nat} {sp : Nat → Nat} {G : State → Prop} {d : Nat} (hG : zz_GF z0 G) (hP : ∀ U, G U → zz_GD zS zS2 zLg z0 sp U) {w : zz_W} (hw : zR w) {p0 : Int32} {k : Nat} (h2 : k < 2 ^ 31) (hn : ∀ g, ¬ zrK p0 g) : ∃ w', zz_B l zTs D zcl zFK cy z0 sp (zTys cy) G "ToolMillModel" "listing" 4 prog_14_method_235_code (d + 5) (0, [(0, .ref 171), (1, .int p0), (2, .int (Int32.ofNat k))], [], w) (86, [(0, .ref 171), (2, .int (Int32.ofNat k))], [], w') ∧ zQ (zNr 77 ++ [32] ++ zdc p0 ++ [10]) w w' := by
  have T9 := zt_47 (l := l) (D := D) (cy := cy) (z0 := z0) (sp := sp) (G := G) (d := (d + 5)) zz_k0_KS hG hP
  have TK := fun (K : zz_K) (h : zz_KS l D zcl zFK cy z0 sp (zTys cy) G zYN (fun y => Cond.code (zYN y) (zCN y) (zMQ y) (zRT y) :: zTs) (d + 5) K) => zt_47 h hG hP
  have b := zz_B_rf (l := l) (Ts := zTs) (D := D) (cl := zcl) (fk := zFK) (cy := cy) (z0 := z0) (sp := sp) (tys := zTys cy) (G := G) (own := "ToolMillModel") (mn := "listing") (nL := 4) (cc := prog_14_method_235_code) (d := (d + 5)) ((0, [(0, .ref 171), (1, .int p0), (2, .int (Int32.ofNat k))], [], w) : zz_F)
  replace b := zz_fw b T9 (rfl : zz_ent zP_47 0 = (0, za_aload 0 1)) (ze_aload rfl)
  replace b := zz_fw b T9 (rfl : zz_ent zP_47 1 = (0, za_iload 2 2)) (ze_iload rfl)
  replace b := zz_fw b T9 (rfl : zz_ent zP_47 2 = (0, za_if_ge 9 5)) (ze_if_ge_t (zl_k0_n h2))
  replace b := zz_fw b T9 (rfl : zz_ent zP_47 9 = (0, za_const (.int (Int32.ofNat 0)) 10)) (ze_const)
  replace b := zz_fw b T9 (rfl : zz_ent zP_47 10 = (0, za_const (.int (Int32.ofNat 0)) 11)) (ze_const)
  replace b := zz_fVi b TK (rfl : zz_ent zP_47 11 = (0, za_callV 0 71 2 14)) (zM_rf00 hG hP hw.1 (zR_has hw zh_171 (by decide) (by decide))) rfl rfl (zz_has_c (zR_has hw zh_171 (by decide) (by decide))) (zz_lb rfl)
  replace b := zz_fw b T9 (rfl : zz_ent zP_47 14 = (0, za_if_eq 19 17)) (ze_if_eq_t (by decide))
  replace b := zz_fw b T9 (rfl : zz_ent zP_47 19 = (0, za_aload 0 20)) (ze_aload rfl)
  replace b := zz_fw b T9 (rfl : zz_ent zP_47 20 = (0, za_const (.int (Int32.ofNat 0)) 21)) (ze_const)
  replace b := zz_fw b T9 (rfl : zz_ent zP_47 21 = (0, za_putI 0 222 24)) (ze_putI (zz_up_sh hw.1) (zz_has_up hw.1 (zR_has hw zh_171 (by decide) (by decide))) (by decide))
  have hQ := zQ_0 hw
  replace b := zz_fw b T9 (rfl : zz_ent zP_47 24 = (0, za_aload 0 25)) (ze_aload rfl)
  replace b := zz_fw b T9 (rfl : zz_ent zP_47 25 = (0, za_iload 1 26)) (ze_iload rfl)
  replace b := zz_fVi b TK (rfl : zz_ent zP_47 26 = (0, za_callV 0 84 1 29)) (zI_n (d := d + 3) (l := l) (D := D) (cy := cy) (sp := sp) hG hP hQ hn) rfl rfl (zQ_ic hQ) (zz_lb rfl)
  replace b := zz_fw b T9 (rfl : zz_ent zP_47 29 = (0, za_istore 3 30)) (ze_istore (lv' := [(0, _), (1, _), (2, _)]) rfl)
  replace b := zz_fw b T9 (rfl : zz_ent zP_47 30 = (0, za_iload 3 31)) (ze_iload rfl)
  replace b := zz_fw b T9 (rfl : zz_ent zP_47 31 = (0, za_if_ge 54 34)) (ze_if_ge_f (by decide))
  replace b := zz_fw b T9 (rfl : zz_ent zP_47 34 = (0, za_aload 0 35)) (ze_aload rfl)
  replace b := zz_fw b T9 (rfl : zz_ent zP_47 35 = (0, za_const (.int (Int32.ofNat 77)) 37)) (ze_const)
  obtain ⟨w1, hM1, hQ1⟩ := zM_sn (d := d + 2) (l := l) (D := D) (cy := cy) (sp := sp) hG hP hQ (n := 77) zIr_77 (by have n7 := (zNr_ok zIr_77).1; (try simp only [List.length_append, List.length_singleton, List.length_nil]); omega)
  replace b := zz_fVv b TK (rfl : zz_ent zP_47 37 = (0, za_callV 0 85 1 40)) hM1 rfl rfl (zQ_ic hQ) (zz_lb rfl)
  replace b := zz_fw b T9 (rfl : zz_ent zP_47 40 = (0, za_aload 0 41)) (ze_aload rfl)
  replace b := zz_fw b T9 (rfl : zz_ent zP_47 41 = (0, za_const (.int (Int32.ofNat 32)) 43)) (ze_const)
  obtain ⟨w2, hM2, hQ2⟩ := zM_show (d := d + 4) (l := l) (D := D) (cy := cy) (sp := sp) hG hP hQ1 (x := 32) (by have n7 := (zNr_ok zIr_77).1; (try simp only [List.length_append, List.length_singleton, List.length_nil]); omega) (by decide)
  replace b := zz_fVv b TK (rfl : zz_ent zP_47 43 = (0, za_callV 0 86 1 46)) hM2 rfl rfl (zQ_ic hQ1) (zz_lb rfl)
  replace b := zz_fw b T9 (rfl : zz_ent zP_47 46 = (0, za_aload 0 47)) (ze_aload rfl)
  replace b := zz_fw b T9 (rfl : zz_ent zP_47 47 = (0, za_iload 1 48)) (ze_iload rfl)
  obtain ⟨w3, hM3, hQ3⟩ := zM_num (d := d + 3) (l := l) (D := D) (cy := cy) (sp := sp) hG hP hQ2 (p0 := p0) (by have n7 := (zNr_ok zIr_77).1; have n8 := zdc_11 p0; (try simp only [List.length_append, List.length_singleton, List.length_nil]); omega)
  replace b := zz_fVv b TK (rfl : zz_ent zP_47 48 = (0, za_callV 0 88 1 51)) hM3 rfl rfl (zQ_ic hQ2) (zz_lb rfl)
  replace b := zz_fw b T9 (rfl : zz_ent zP_47 51 = (0, za_goto 80)) (ze_goto)
  replace b := zz_fw b T9 (rfl : zz_ent zP_47 80 = (0, za_aload 0 81)) (ze_aload rfl)
  replace b := zz_fw b T9 (rfl : zz_ent zP_47 81 = (0, za_const (.int (Int32.ofNat 10)) 83)) (ze_const)
  obtain ⟨w4, hM4, hQ4⟩ := zM_show (d := d + 4) (l := l) (D := D) (cy := cy) (sp := sp) hG hP hQ3 (x := 10) (by have n7 := (zNr_ok zIr_77).1; have n8 := zdc_11 p0; (try simp only [List.length_append, List.length_singleton, List.length_nil]); omega) (by decide)
  replace b := zz_fVv b TK (rfl : zz_ent zP_47 83 = (0, za_callV 0 86 1 86)) hM4 rfl rfl (zQ_ic hQ3) (zz_lb rfl)
  replace b := zz_fl (lv' := [(0, .ref 171), (2, .int (Int32.ofNat k))]) b (zz_mc (List.mem_cons_of_mem _ List.mem_cons_self) (zz_mc (List.mem_cons_of_mem _ (List.mem_cons_of_mem _ (List.mem_cons_of_mem _ List.mem_cons_self))) zz_mn))
  exact ⟨_, b, by rw [List.nil_append] at hQ4; exact hQ4⟩
theorem zlr_y {l : Launch} {D : va_G} {cy : Nat → ClassId} {z0 : Nat} {sp : Nat → Nat} {G : State → Prop} {d : Nat} (hG : zz_GF z0 G) (hP : ∀ U, G U → zz_GD zS zS2 zLg z0 sp U) {w : zz_W} (hw : zR w) {p0 : Int32} {k : Nat} (h2 : k < 2 ^ 31) {g : Nat} (h51 : g < 51) (h24 : ¬ g = 24) (hg : zrK p0 g) : ∃ w', zz_B l zTs D zcl zFK cy z0 sp (zTys cy) G "ToolMillModel" "listing" 4 prog_14_method_235_code (d + 5) (0, [(0, .ref 171), (1, .int p0), (2, .int (Int32.ofNat k))], [], w) (86, [(0, .ref 171), (2, .int (Int32.ofNat k))], [], w') ∧ zQ (zNr (8 + g) ++ zOp (zgF g) p0 ++ [10]) w w' := by
  have T9 := zt_47 (l := l) (D := D) (cy := cy) (z0 := z0) (sp := sp) (G := G) (d := (d + 5)) zz_k0_KS hG hP
  have TK := fun (K : zz_K) (h : zz_KS l D zcl zFK cy z0 sp (zTys cy) G zYN (fun y => Cond.code (zYN y) (zCN y) (zMQ y) (zRT y) :: zTs) (d + 5) K) => zt_47 h hG hP
  have b := zz_B_rf (l := l) (Ts := zTs) (D := D) (cl := zcl) (fk := zFK) (cy := cy) (z0 := z0) (sp := sp) (tys := zTys cy) (G := G) (own := "ToolMillModel") (mn := "listing") (nL := 4) (cc := prog_14_method_235_code) (d := (d + 5)) ((0, [(0, .ref 171), (1, .int p0), (2, .int (Int32.ofNat k))], [], w) : zz_F)
  replace b := zz_fw b T9 (rfl : zz_ent zP_47 0 = (0, za_aload 0 1)) (ze_aload rfl)
  replace b := zz_fw b T9 (rfl : zz_ent zP_47 1 = (0, za_iload 2 2)) (ze_iload rfl)
  replace b := zz_fw b T9 (rfl : zz_ent zP_47 2 = (0, za_if_ge 9 5)) (ze_if_ge_t (zl_k0_n h2))
  replace b := zz_fw b T9 (rfl : zz_ent zP_47 9 = (0, za_const (.int (Int32.ofNat 0)) 10)) (ze_const)
  replace b := zz_fw b T9 (rfl : zz_ent zP_47 10 = (0, za_const (.int (Int32.ofNat 0)) 11)) (ze_const)
  replace b := zz_fVi b TK (rfl : zz_ent zP_47 11 = (0, za_callV 0 71 2 14)) (zM_rf00 hG hP hw.1 (zR_has hw zh_171 (by decide) (by decide))) rfl rfl (zz_has_c (zR_has hw zh_171 (by decide) (by decide))) (zz_lb rfl)
  replace b := zz_fw b T9 (rfl : zz_ent zP_47 14 = (0, za_if_eq 19 17)) (ze_if_eq_t (by decide))
  replace b := zz_fw b T9 (rfl : zz_ent zP_47 19 = (0, za_aload 0 20)) (ze_aload rfl)
  replace b := zz_fw b T9 (rfl : zz_ent zP_47 20 = (0, za_const (.int (Int32.ofNat 0)) 21)) (ze_const)
  replace b := zz_fw b T9 (rfl : zz_ent zP_47 21 = (0, za_putI 0 222 24)) (ze_putI (zz_up_sh hw.1) (zz_has_up hw.1 (zR_has hw zh_171 (by decide) (by decide))) (by decide))
  have hQ := zQ_0 hw
  replace b := zz_fw b T9 (rfl : zz_ent zP_47 24 = (0, za_aload 0 25)) (ze_aload rfl)
  replace b := zz_fw b T9 (rfl : zz_ent zP_47 25 = (0, za_iload 1 26)) (ze_iload rfl)
  replace b := zz_fVi b TK (rfl : zz_ent zP_47 26 = (0, za_callV 0 84 1 29)) (zI_y (d := d + 3) (l := l) (D := D) (cy := cy) (sp := sp) hG hP hQ hg) rfl rfl (zQ_ic hQ) (zz_lb rfl)
  replace b := zz_fw b T9 (rfl : zz_ent zP_47 29 = (0, za_istore 3 30)) (ze_istore (lv' := [(0, _), (1, _), (2, _)]) rfl)
  replace b := zz_fw b T9 (rfl : zz_ent zP_47 30 = (0, za_iload 3 31)) (ze_iload rfl)
  replace b := zz_fw b T9 (rfl : zz_ent zP_47 31 = (0, za_if_ge 54 34)) (ze_if_ge_t (zl_k0_n (by omega)))
  replace b := zz_fw b T9 (rfl : zz_ent zP_47 54 = (0, za_aload 0 55)) (ze_aload rfl)
  replace b := zz_fw b T9 (rfl : zz_ent zP_47 55 = (0, za_const (.int (Int32.ofNat 8)) 57)) (ze_const)
  replace b := zz_fw b T9 (rfl : zz_ent zP_47 57 = (0, za_iload 3 58)) (ze_iload rfl)
  replace b := zz_fw b T9 (rfl : zz_ent zP_47 58 = (0, za_iadd 59)) (ze_iadd (Int32.ofNat_add 8 g).symm)
  obtain ⟨w1, hM1, hQ1⟩ := zM_sn (d := d + 2) (l := l) (D := D) (cy := cy) (sp := sp) hG hP hQ (n := 8 + g) (zIr_op h51) (by have n7 := (zNr_ok (zIr_op h51)).1; (try simp only [List.length_append, List.length_singleton, List.length_nil]); omega)
  replace b := zz_fVv b TK (rfl : zz_ent zP_47 59 = (0, za_callV 0 85 1 62)) hM1 rfl rfl (zQ_ic hQ) (zz_lb rfl)
  replace b := zz_fw b T9 (rfl : zz_ent zP_47 62 = (0, za_iload 3 63)) (ze_iload rfl)
  replace b := zz_fw b T9 (rfl : zz_ent zP_47 63 = (0, za_const (.int (Int32.ofNat 24)) 65)) (ze_const)
  replace b := zz_fw b T9 (rfl : zz_ent zP_47 65 = (0, za_icmp_eq 80 68)) (ze_icmp_eq_f (zl_neq g (by omega) 24 (by decide) h24))
  replace b := zz_fw b T9 (rfl : zz_ent zP_47 68 = (0, za_aload 0 69)) (ze_aload rfl)
  replace b := zz_fw b T9 (rfl : zz_ent zP_47 69 = (0, za_const (.int (Int32.ofNat 32)) 71)) (ze_const)
  obtain ⟨w2, hM2, hQ2⟩ := zM_show (d := d + 4) (l := l) (D := D) (cy := cy) (sp := sp) hG hP hQ1 (x := 32) (by have n7 := (zNr_ok (zIr_op h51)).1; (try simp only [List.length_append, List.length_singleton, List.length_nil]); omega) (by decide)
  replace b := zz_fVv b TK (rfl : zz_ent zP_47 71 = (0, za_callV 0 86 1 74)) hM2 rfl rfl (zQ_ic hQ1) (zz_lb rfl)
  replace b := zz_fw b T9 (rfl : zz_ent zP_47 74 = (0, za_aload 0 75)) (ze_aload rfl)
  replace b := zz_fw b T9 (rfl : zz_ent zP_47 75 = (0, za_iload 3 76)) (ze_iload rfl)
  replace b := zz_fw b T9 (rfl : zz_ent zP_47 76 = (0, za_iload 1 77)) (ze_iload rfl)
  obtain ⟨w3, hM3, hQ3⟩ := zM_ops (d := d) (l := l) (D := D) (cy := cy) (sp := sp) hG hP hQ2 (p0 := p0) h51 h24 (by have n7 := (zNr_ok (zIr_op h51)).1; (try simp only [List.length_append, List.length_singleton, List.length_nil]); omega)
  replace b := zz_fVv b TK (rfl : zz_ent zP_47 77 = (0, za_callV 0 87 2 80)) hM3 rfl rfl (zQ_ic hQ2) (zz_lb rfl)
  replace b := zz_fw b T9 (rfl : zz_ent zP_47 80 = (0, za_aload 0 81)) (ze_aload rfl)
  replace b := zz_fw b T9 (rfl : zz_ent zP_47 81 = (0, za_const (.int (Int32.ofNat 10)) 83)) (ze_const)
  obtain ⟨w4, hM4, hQ4⟩ := zM_show (d := d + 4) (l := l) (D := D) (cy := cy) (sp := sp) hG hP hQ3 (x := 10) (by have n7 := (zNr_ok (zIr_op h51)).1; have n8 := zOp_25 (zgF g) p0; (try simp only [List.length_append, List.length_singleton, List.length_nil]); omega) (by decide)
  replace b := zz_fVv b TK (rfl : zz_ent zP_47 83 = (0, za_callV 0 86 1 86)) hM4 rfl rfl (zQ_ic hQ3) (zz_lb rfl)
  replace b := zz_fl (lv' := [(0, .ref 171), (2, .int (Int32.ofNat k))]) b (zz_mc (List.mem_cons_of_mem _ List.mem_cons_self) (zz_mc (List.mem_cons_of_mem _ (List.mem_cons_of_mem _ (List.mem_cons_of_mem _ List.mem_cons_self))) zz_mn))
  exact ⟨_, b, by rw [List.nil_append] at hQ4; exact hQ4⟩
theorem zlr_s {l : Launch} {D : va_G} {cy : Nat → ClassId} {z0 : Nat} {sp : Nat → Nat} {G : State → Prop} {d : Nat} (hG : zz_GF z0 G) (hP : ∀ U, G U → zz_GD zS zS2 zLg z0 sp U) {w : zz_W} (hw : zR w) {p0 : Int32} {k : Nat} (h2 : k < 2 ^ 31) (hg : zrK p0 24) : ∃ w', zz_B l zTs D zcl zFK cy z0 sp (zTys cy) G "ToolMillModel" "listing" 4 prog_14_method_235_code (d + 5) (0, [(0, .ref 171), (1, .int p0), (2, .int (Int32.ofNat k))], [], w) (86, [(0, .ref 171), (2, .int (Int32.ofNat k))], [], w') ∧ zQ (zNr (8 + 24) ++ [10]) w w' := by
  have T9 := zt_47 (l := l) (D := D) (cy := cy) (z0 := z0) (sp := sp) (G := G) (d := (d + 5)) zz_k0_KS hG hP
  have TK := fun (K : zz_K) (h : zz_KS l D zcl zFK cy z0 sp (zTys cy) G zYN (fun y => Cond.code (zYN y) (zCN y) (zMQ y) (zRT y) :: zTs) (d + 5) K) => zt_47 h hG hP
  have b := zz_B_rf (l := l) (Ts := zTs) (D := D) (cl := zcl) (fk := zFK) (cy := cy) (z0 := z0) (sp := sp) (tys := zTys cy) (G := G) (own := "ToolMillModel") (mn := "listing") (nL := 4) (cc := prog_14_method_235_code) (d := (d + 5)) ((0, [(0, .ref 171), (1, .int p0), (2, .int (Int32.ofNat k))], [], w) : zz_F)
  replace b := zz_fw b T9 (rfl : zz_ent zP_47 0 = (0, za_aload 0 1)) (ze_aload rfl)
  replace b := zz_fw b T9 (rfl : zz_ent zP_47 1 = (0, za_iload 2 2)) (ze_iload rfl)
  replace b := zz_fw b T9 (rfl : zz_ent zP_47 2 = (0, za_if_ge 9 5)) (ze_if_ge_t (zl_k0_n h2))
  replace b := zz_fw b T9 (rfl : zz_ent zP_47 9 = (0, za_const (.int (Int32.ofNat 0)) 10)) (ze_const)
  replace b := zz_fw b T9 (rfl : zz_ent zP_47 10 = (0, za_const (.int (Int32.ofNat 0)) 11)) (ze_const)
  replace b := zz_fVi b TK (rfl : zz_ent zP_47 11 = (0, za_callV 0 71 2 14)) (zM_rf00 hG hP hw.1 (zR_has hw zh_171 (by decide) (by decide))) rfl rfl (zz_has_c (zR_has hw zh_171 (by decide) (by decide))) (zz_lb rfl)
  replace b := zz_fw b T9 (rfl : zz_ent zP_47 14 = (0, za_if_eq 19 17)) (ze_if_eq_t (by decide))
  replace b := zz_fw b T9 (rfl : zz_ent zP_47 19 = (0, za_aload 0 20)) (ze_aload rfl)
  replace b := zz_fw b T9 (rfl : zz_ent zP_47 20 = (0, za_const (.int (Int32.ofNat 0)) 21)) (ze_const)
  replace b := zz_fw b T9 (rfl : zz_ent zP_47 21 = (0, za_putI 0 222 24)) (ze_putI (zz_up_sh hw.1) (zz_has_up hw.1 (zR_has hw zh_171 (by decide) (by decide))) (by decide))
  have hQ := zQ_0 hw
  replace b := zz_fw b T9 (rfl : zz_ent zP_47 24 = (0, za_aload 0 25)) (ze_aload rfl)
  replace b := zz_fw b T9 (rfl : zz_ent zP_47 25 = (0, za_iload 1 26)) (ze_iload rfl)
  replace b := zz_fVi b TK (rfl : zz_ent zP_47 26 = (0, za_callV 0 84 1 29)) (zI_y (d := d + 3) (l := l) (D := D) (cy := cy) (sp := sp) hG hP hQ hg) rfl rfl (zQ_ic hQ) (zz_lb rfl)
  replace b := zz_fw b T9 (rfl : zz_ent zP_47 29 = (0, za_istore 3 30)) (ze_istore (lv' := [(0, _), (1, _), (2, _)]) rfl)
  replace b := zz_fw b T9 (rfl : zz_ent zP_47 30 = (0, za_iload 3 31)) (ze_iload rfl)
  replace b := zz_fw b T9 (rfl : zz_ent zP_47 31 = (0, za_if_ge 54 34)) (ze_if_ge_t (by decide))
  replace b := zz_fw b T9 (rfl : zz_ent zP_47 54 = (0, za_aload 0 55)) (ze_aload rfl)
  replace b := zz_fw b T9 (rfl : zz_ent zP_47 55 = (0, za_const (.int (Int32.ofNat 8)) 57)) (ze_const)
  replace b := zz_fw b T9 (rfl : zz_ent zP_47 57 = (0, za_iload 3 58)) (ze_iload rfl)
  replace b := zz_fw b T9 (rfl : zz_ent zP_47 58 = (0, za_iadd 59)) (ze_iadd (Int32.ofNat_add 8 24).symm)
  obtain ⟨w1, hM1, hQ1⟩ := zM_sn (d := d + 2) (l := l) (D := D) (cy := cy) (sp := sp) hG hP hQ (n := 8 + 24) (zIr_op (by decide)) (by have n7 := (zNr_ok (zIr_op (f := 24) (by decide))).1; (try simp only [List.length_append, List.length_singleton, List.length_nil]); omega)
  replace b := zz_fVv b TK (rfl : zz_ent zP_47 59 = (0, za_callV 0 85 1 62)) hM1 rfl rfl (zQ_ic hQ) (zz_lb rfl)
  replace b := zz_fw b T9 (rfl : zz_ent zP_47 62 = (0, za_iload 3 63)) (ze_iload rfl)
  replace b := zz_fw b T9 (rfl : zz_ent zP_47 63 = (0, za_const (.int (Int32.ofNat 24)) 65)) (ze_const)
  replace b := zz_fw b T9 (rfl : zz_ent zP_47 65 = (0, za_icmp_eq 80 68)) (ze_icmp_eq_t (by decide))
  replace b := zz_fw b T9 (rfl : zz_ent zP_47 80 = (0, za_aload 0 81)) (ze_aload rfl)
  replace b := zz_fw b T9 (rfl : zz_ent zP_47 81 = (0, za_const (.int (Int32.ofNat 10)) 83)) (ze_const)
  obtain ⟨w2, hM2, hQ2⟩ := zM_show (d := d + 4) (l := l) (D := D) (cy := cy) (sp := sp) hG hP hQ1 (x := 10) (by have n7 := (zNr_ok (zIr_op (f := 24) (by decide))).1; (try simp only [List.length_append, List.length_singleton, List.length_nil]); omega) (by decide)
  replace b := zz_fVv b TK (rfl : zz_ent zP_47 83 = (0, za_callV 0 86 1 86)) hM2 rfl rfl (zQ_ic hQ1) (zz_lb rfl)
  replace b := zz_fl (lv' := [(0, .ref 171), (2, .int (Int32.ofNat k))]) b (zz_mc (List.mem_cons_of_mem _ List.mem_cons_self) (zz_mc (List.mem_cons_of_mem _ (List.mem_cons_of_mem _ (List.mem_cons_of_mem _ List.mem_cons_self))) zz_mn))
  exact ⟨_, b, by rw [List.nil_append] at hQ2; exact hQ2⟩
theorem zlr_i {l : Launch} {D : va_G} {cy : Nat → ClassId} {z0 : Nat} {sp : Nat → Nat} {G : State → Prop} {d : Nat} (hG : zz_GF z0 G) (hP : ∀ U, G U → zz_GD zS zS2 zLg z0 sp U) {T : List Nat} {w0 w : zz_W} (hQ : zQ T w0 w) {k : Nat} (h2 : k < 2 ^ 31) (hk : k < T.length) : zz_B l zTs D zcl zFK cy z0 sp (zTys cy) G "ToolMillModel" "listing" 4 prog_14_method_235_code (d + 5) (86, [(0, .ref 171), (2, .int (Int32.ofNat k))], [], w) (104, [(0, .ref 171), (2, .int (Int32.ofNat k))], [.int (Int32.ofNat (T.getD k 0))], w) := by
  obtain ⟨N, M, r, hn, hc, ht⟩ := hQ
  have T9 := zt_47 (l := l) (D := D) (cy := cy) (z0 := z0) (sp := sp) (G := G) (d := (d + 5)) zz_k0_KS hG hP
  have TK := fun (K : zz_K) (h : zz_KS l D zcl zFK cy z0 sp (zTys cy) G zYN (fun y => Cond.code (zYN y) (zCN y) (zMQ y) (zRT y) :: zTs) (d + 5) K) => zt_47 h hG hP
  have b := zz_B_rf (l := l) (Ts := zTs) (D := D) (cl := zcl) (fk := zFK) (cy := cy) (z0 := z0) (sp := sp) (tys := zTys cy) (G := G) (own := "ToolMillModel") (mn := "listing") (nL := 4) (cc := prog_14_method_235_code) (d := (d + 5)) ((86, [(0, .ref 171), (2, .int (Int32.ofNat k))], [], w) : zz_F)
  replace b := zz_fw b T9 (rfl : zz_ent zP_47 86 = (0, za_iload 2 87)) (ze_iload rfl)
  replace b := zz_fw b T9 (rfl : zz_ent zP_47 87 = (0, za_aload 0 88)) (ze_aload rfl)
  replace b := zz_fw b T9 (rfl : zz_ent zP_47 88 = (0, za_getI 0 222 91)) (ze_getI (zQr_m r) (by decide) (congrArg Int32.ofNat hn))
  replace b := zz_fw b T9 (rfl : zz_ent zP_47 91 = (0, za_icmp_ge 103 94)) (ze_icmp_ge_f (fun q => absurd ((Int32.ofNat_le_iff_le (by omega) h2).mp q) (by omega)))
  replace b := zz_fw b T9 (rfl : zz_ent zP_47 94 = (0, za_aload 0 95)) (ze_aload rfl)
  replace b := zz_fw b T9 (rfl : zz_ent zP_47 95 = (0, za_getA 0 223 98)) (ze_getA (zQr_m r) (by decide) ((zQr_f r (by decide) (by decide)).trans zv_171_223))
  replace b := zz_fw b T9 (rfl : zz_ent zP_47 98 = (0, za_iload 2 99)) (ze_iload rfl)
  replace b := zz_fw b T9 (rfl : zz_ent zP_47 99 = (0, za_aldI 0 100)) (ze_aldI (zQr_l r) (by rw [zz_nI_ofNat (by omega)]; omega) (by decide) (by rw [zz_nI_ofNat (by omega), ht k hk]))
  replace b := zz_fw b T9 (rfl : zz_ent zP_47 100 = (0, za_goto 104)) (ze_goto)
  exact b
theorem zlr_o {l : Launch} {D : va_G} {cy : Nat → ClassId} {z0 : Nat} {sp : Nat → Nat} {G : State → Prop} {d : Nat} (hG : zz_GF z0 G) (hP : ∀ U, G U → zz_GD zS zS2 zLg z0 sp U) {T : List Nat} {w0 w : zz_W} (hQ : zQ T w0 w) {k : Nat} (h2 : k < 2 ^ 31) (hk : T.length ≤ k) : zz_B l zTs D zcl zFK cy z0 sp (zTys cy) G "ToolMillModel" "listing" 4 prog_14_method_235_code (d + 5) (86, [(0, .ref 171), (2, .int (Int32.ofNat k))], [], w) (104, [(0, .ref 171), (2, .int (Int32.ofNat k))], [.int (Int32.ofNat 4294967295)], w) := by
  obtain ⟨N, M, r, hn, hc, ht⟩ := hQ
  have T9 := zt_47 (l := l) (D := D) (cy := cy) (z0 := z0) (sp := sp) (G := G) (d := (d + 5)) zz_k0_KS hG hP
  have TK := fun (K : zz_K) (h : zz_KS l D zcl zFK cy z0 sp (zTys cy) G zYN (fun y => Cond.code (zYN y) (zCN y) (zMQ y) (zRT y) :: zTs) (d + 5) K) => zt_47 h hG hP
  have b := zz_B_rf (l := l) (Ts := zTs) (D := D) (cl := zcl) (fk := zFK) (cy := cy) (z0 := z0) (sp := sp) (tys := zTys cy) (G := G) (own := "ToolMillModel") (mn := "listing") (nL := 4) (cc := prog_14_method_235_code) (d := (d + 5)) ((86, [(0, .ref 171), (2, .int (Int32.ofNat k))], [], w) : zz_F)
  replace b := zz_fw b T9 (rfl : zz_ent zP_47 86 = (0, za_iload 2 87)) (ze_iload rfl)
  replace b := zz_fw b T9 (rfl : zz_ent zP_47 87 = (0, za_aload 0 88)) (ze_aload rfl)
  replace b := zz_fw b T9 (rfl : zz_ent zP_47 88 = (0, za_getI 0 222 91)) (ze_getI (zQr_m r) (by decide) (congrArg Int32.ofNat hn))
  replace b := zz_fw b T9 (rfl : zz_ent zP_47 91 = (0, za_icmp_ge 103 94)) (ze_icmp_ge_t ((Int32.ofNat_le_iff_le (by omega) h2).mpr hk))
  replace b := zz_fw b T9 (rfl : zz_ent zP_47 103 = (0, za_const (.int (Int32.ofNat 4294967295)) 104)) (ze_const)
  exact b
theorem zlr_e {l : Launch} {D : va_G} {cy : Nat → ClassId} {z0 : Nat} {sp : Nat → Nat} {G : State → Prop} {d : Nat} (hG : zz_GF z0 G) (hP : ∀ U, G U → zz_GD zS zS2 zLg z0 sp U) {T : List Nat} {w w1 : zz_W} (hQ : zQ T w w1) {p0 : Int32} {k : Nat} (h2 : k < 2 ^ 31) (b : zz_B l zTs D zcl zFK cy z0 sp (zTys cy) G "ToolMillModel" "listing" 4 prog_14_method_235_code (d + 5) (0, [(0, .ref 171), (1, .int p0), (2, .int (Int32.ofNat k))], [], w) (86, [(0, .ref 171), (2, .int (Int32.ofNat k))], [], w1)) : zz_M l zTs D zcl zFK cy z0 sp (zTys cy) G zYN zCN zMQ zRT (d + 6) 47 [.ref 171, .int p0, .int (Int32.ofNat k)] w [.int (zPk T k)] w1 := by
  unfold zPk
  split
  · rename_i hk
    exact zz_M_B (yn := zYN) (cn := zCN) (ml := zMQ) (rt := zRT) (y := 47) (as := [.ref 171, .int p0, .int (Int32.ofNat k)]) rfl rfl rfl rfl rfl (by decide +kernel) (zz_lb rfl) (zz_lb rfl) (zz_end_i (zr_47.2.1 104 rfl).1) (zz_B_tr b (zlr_i hG hP hQ h2 hk))
  · rename_i hk
    exact zz_M_B (yn := zYN) (cn := zCN) (ml := zMQ) (rt := zRT) (y := 47) (as := [.ref 171, .int p0, .int (Int32.ofNat k)]) rfl rfl rfl rfl rfl (by decide +kernel) (zz_lb rfl) (zz_lb rfl) (zz_end_i (zr_47.2.1 104 rfl).1) (zz_B_tr b (zlr_o hG hP hQ h2 (by omega)))
theorem zMr_lst_n {l : Launch} {D : va_G} {cy : Nat → ClassId} {z0 : Nat} {sp : Nat → Nat} {G : State → Prop} {d : Nat} (hG : zz_GF z0 G) (hP : ∀ U, G U → zz_GD zS zS2 zLg z0 sp U) {w : zz_W} (hw : zR w) {p0 : Int32} {k : Nat} (h2 : k < 2 ^ 31) (hn : ∀ g, ¬ zrK p0 g) : ∃ w', zz_M l zTs D zcl zFK cy z0 sp (zTys cy) G zYN zCN zMQ zRT (d + 6) 47 [.ref 171, .int p0, .int (Int32.ofNat k)] w [.int (zPk (zNr 77 ++ [32] ++ zdc p0 ++ [10]) k)] w' ∧ zQ (zNr 77 ++ [32] ++ zdc p0 ++ [10]) w w' := by
  obtain ⟨w1, b, hQ⟩ := zlr_n (d := d) (l := l) (D := D) (cy := cy) (sp := sp) hG hP hw h2 hn
  exact ⟨w1, zlr_e hG hP hQ h2 b, hQ⟩
theorem zrK_51 {p : Int32} {g : Nat} (h : zrK p g) : g < 51 := by
  unfold zrK at h
  omega
theorem zMr_lst_y {l : Launch} {D : va_G} {cy : Nat → ClassId} {z0 : Nat} {sp : Nat → Nat} {G : State → Prop} {d : Nat} (hG : zz_GF z0 G) (hP : ∀ U, G U → zz_GD zS zS2 zLg z0 sp U) {w : zz_W} (hw : zR w) {p0 : Int32} {k : Nat} (h2 : k < 2 ^ 31) {g : Nat} (hg : zrK p0 g) : ∃ w', zz_M l zTs D zcl zFK cy z0 sp (zTys cy) G zYN zCN zMQ zRT (d + 6) 47 [.ref 171, .int p0, .int (Int32.ofNat k)] w [.int (zPk (zNr (8 + g) ++ zOp (zgF g) p0 ++ [10]) k)] w' ∧ zQ (zNr (8 + g) ++ zOp (zgF g) p0 ++ [10]) w w' := by
  by_cases h : g = 24
  · subst h
    obtain ⟨w1, b, hQ⟩ := zlr_s (d := d) (l := l) (D := D) (cy := cy) (sp := sp) hG hP hw h2 hg
    exact ⟨w1, zlr_e hG hP (show zQ (zNr (8 + 24) ++ [] ++ [10]) w w1 by rw [List.append_nil]; exact hQ) h2 b, by rw [show zOp (zgF 24) p0 = [] from rfl, List.append_nil]; exact hQ⟩
  · obtain ⟨w1, b, hQ⟩ := zlr_y (d := d) (l := l) (D := D) (cy := cy) (sp := sp) hG hP hw h2 (zrK_51 hg) h hg
    exact ⟨w1, zlr_e hG hP hQ h2 b, hQ⟩
