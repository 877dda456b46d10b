/-! listing of the reference, by program -/
theorem zv_171_4 : zz_at 64 zc_171 4 = 174 := by decide +kernel
theorem zv_171_223 : zz_at 64 zc_171 223 = 320 := by decide +kernel
noncomputable def zc_173 : Nat := (zz_g zW3 173).2.2.2
theorem zh_173 : zz_has zW3 173 (1, 3, 65536, zc_173) := ⟨by decide +kernel, by decide, rfl⟩
/-- the reference while it lists: its row N, its object M; w0 the world before -/
def zQr (N M : Nat) (w0 w : zz_W) : Prop := zz_sh w ∧ (329 ≤ w.1 ∧ w.1 = w0.1 ∧ w.2.1 = w0.2.1) ∧ zz_has w 171 (3, 0, 243, M) ∧ (∀ k, k ≠ 222 → k ≠ 0 → zz_at 64 M k = zz_at 64 zc_171 k) ∧ zz_at 64 M 0 = 0 ∧ zz_has w 319 (0, 0, 64, N) ∧ (∀ i, 171 < i → i < 328 → i ≠ 319 → zz_g w i = zz_g zW3 i) ∧ zz_g w 328 = zz_g w0 328
section ZQR
variable {N M : Nat} {w0 w : zz_W}
theorem zQr_sh (r : zQr N M w0 w) : zz_sh w := r.1
theorem zQr_m (r : zQr N M w0 w) : zz_has w 171 (3, 0, 243, M) := r.2.2.1
theorem zQr_f (r : zQr N M w0 w) {k : Nat} (h1 : k ≠ 222) (h2 : k ≠ 0) : zz_at 64 M k = zz_at 64 zc_171 k := r.2.2.2.1 k h1 h2
theorem zQr_th (r : zQr N M w0 w) : zz_at 64 M 0 = 0 := r.2.2.2.2.1
theorem zQr_l (r : zQr N M w0 w) : zz_has w 319 (0, 0, 64, N) := r.2.2.2.2.2.1
theorem zQr_o (r : zQr N M w0 w) {i : Nat} {cc : zz_C} (h : zz_has zW3 i cc) (h1 : 171 < i) (h2 : i < 328) (h3 : i ≠ 319) : zz_has w i cc := ⟨by have := r.2.1.1; omega, h.2.1, (r.2.2.2.2.2.2.1 i h1 h2 h3).trans h.2.2⟩
theorem zQr_row (r : zQr N M w0 w) {P x : Nat} (hP : P < 64) (hx : x < 2 ^ 32) : zQr (zz_to 32 N P x) M w0 (zz_up w 319 (0, 0, 64, zz_to 32 N (zz_nI (Int32.ofNat P)) (zz_nI (Int32.ofNat x)))) := by
  rw [zz_nI_ofNat (by omega), zz_nI_ofNat hx]
  obtain ⟨a1, a2, a3, a4, a5, a6, a7, a8⟩ := r
  exact ⟨zz_up_sh a1, a2, zz_has_ne a1 (by decide) a3 (by decide), a4, a5, zz_has_up a1 a6, fun i h1 h2 h3 => (zz_up_ne a1 (by decide) h3).trans (a7 i h1 h2 h3), (zz_up_ne a1 (by decide) (by decide)).trans a8⟩
theorem zQr_cnt (r : zQr N M w0 w) {m : Nat} (hm : m < 2 ^ 32) : zQr N (zz_to 64 M 222 (zz_nI (Int32.ofNat m))) w0 (zz_up w 171 (3, 0, 243, zz_to 64 M 222 (zz_nI (Int32.ofNat m)))) := by
  obtain ⟨a1, a2, a3, a4, a5, a6, a7, a8⟩ := r
  exact ⟨zz_up_sh a1, a2, zz_has_up a1 a3, fun k h1 h2 => (zz_gn h1).trans (a4 k h1 h2), (zz_gn (by decide)).trans a5, zz_has_ne a1 (by decide) a6 (by decide), fun i h1 h2 h3 => (zz_up_ne a1 (by decide) (by omega)).trans (a7 i h1 h2 h3), (zz_up_ne a1 (by decide) (by decide)).trans a8⟩
end ZQR
def zQ (T : List Nat) (w0 w : zz_W) : Prop := ∃ N M, zQr N M w0 w ∧ zz_at 64 M 222 = T.length ∧ T.length ≤ 64 ∧ zTx T N
theorem zQ_ic {T : List Nat} {w0 w : zz_W} (h : zQ T w0 w) : zz_ic w 171 0 = true := by
  obtain ⟨N, M, r, -⟩ := h
  exact zz_has_c (zQr_m r)
theorem zQ_o {T : List Nat} {w0 w : zz_W} (h : zQ T w0 w) {i : Nat} {cc : zz_C} (h0 : zz_has zW3 i cc) (h1 : 171 < i) (h2 : i < 328) (h3 : i ≠ 319) : zz_has w i cc := by
  obtain ⟨N, M, r, -⟩ := h
  exact zQr_o r h0 h1 h2 h3
theorem zM_show {l : Launch} {D : va_G} {cy : Nat → ClassId} {z0 : Nat} {sp : Nat → Nat} {G : State → Prop} {d : Nat} (hG : zz_GF z0 G) (hP : ∀ U, G U → zz_GD zS zS2 zLg z0 sp U) {T : List Nat} {w0 w : zz_W} (hQ : zQ T w0 w) {x : Nat} (hT : T.length < 64) (hx : x < 2 ^ 32) : ∃ w', zz_M l zTs D zcl zFK cy z0 sp (zTys cy) G zYN zCN zMQ zRT (d + 1) 86 [.ref 171, .int (Int32.ofNat x)] w [] w' ∧ zQ (T ++ [x]) w0 w' := by
  obtain ⟨N, M, r, hn, hc, ht⟩ := hQ
  have T9 := zt_86 (l := l) (D := D) (cy := cy) (z0 := z0) (sp := sp) (G := G) (d := d) zz_k0_KS hG hP
  have TK := fun (K : zz_K) (h : zz_KS l D zcl zFK cy z0 sp (zTys cy) G zYN (fun y => Cond.code (zYN y) (zCN y) (zMQ y) (zRT y) :: zTs) d K) => zt_86 h hG hP
  have b := zz_B_rf (l := l) (Ts := zTs) (D := D) (cl := zcl) (fk := zFK) (cy := cy) (z0 := z0) (sp := sp) (tys := zTys cy) (G := G) (own := "ToolMillModel") (mn := "show") (nL := 2) (cc := prog_14_method_230_code) (d := d) ((0, [(0, .ref 171), (1, .int (Int32.ofNat x))], [], w) : zz_F)
  replace b := zz_fw b T9 (rfl : zz_ent zP_86 0 = (0, za_aload 0 1)) (ze_aload rfl)
  replace b := zz_fw b T9 (rfl : zz_ent zP_86 1 = (0, za_getA 0 223 4)) (ze_getA (zQr_m r) (by decide) ((zQr_f r (by decide) (by decide)).trans zv_171_223))
  replace b := zz_fw b T9 (rfl : zz_ent zP_86 4 = (0, za_aload 0 5)) (ze_aload rfl)
  replace b := zz_fw b T9 (rfl : zz_ent zP_86 5 = (0, za_getI 0 222 8)) (ze_getI (zQr_m r) (by decide) (congrArg Int32.ofNat hn))
  replace b := zz_fw b T9 (rfl : zz_ent zP_86 8 = (0, za_iload 1 9)) (ze_iload rfl)
  replace b := zz_fw b T9 (rfl : zz_ent zP_86 9 = (0, za_astI 0 10)) (ze_astI (zQr_sh r) (zQr_l r) (by rw [zz_nI_ofNat (by omega)]; omega) (by decide))
  have r1 := zQr_row r (P := T.length) (x := x) (by omega) hx
  replace b := zz_fw b T9 (rfl : zz_ent zP_86 10 = (0, za_aload 0 11)) (ze_aload rfl)
  replace b := zz_fw b T9 (rfl : zz_ent zP_86 11 = (0, za_dup 12)) (ze_dup rfl)
  replace b := zz_fw b T9 (rfl : zz_ent zP_86 12 = (0, za_getI 0 222 15)) (ze_getI (zQr_m r1) (by decide) (congrArg Int32.ofNat hn))
  replace b := zz_fw b T9 (rfl : zz_ent zP_86 15 = (0, za_const (.int (Int32.ofNat 1)) 16)) (ze_const)
  replace b := zz_fw b T9 (rfl : zz_ent zP_86 16 = (0, za_iadd 17)) (ze_iadd (Int32.ofNat_add T.length 1).symm)
  replace b := zz_fw b T9 (rfl : zz_ent zP_86 17 = (0, za_putI 0 222 20)) (ze_putI (zQr_sh r1) (zQr_m r1) (by decide))
  have r2 := zQr_cnt r1 (m := (T.length + 1)) (by omega)
  have m := zz_M_B (yn := zYN) (cn := zCN) (ml := zMQ) (rt := zRT) (y := 86) (as := [.ref 171, .int (Int32.ofNat x)]) rfl rfl rfl rfl rfl (by decide +kernel) (zz_lb rfl) (zz_lb rfl) (zz_end_v (zr_86.1 20 rfl).1) b
  exact ⟨_, m, _, _, r2, by rw [zz_gs2 (by omega), List.length_append]; rfl, by rw [List.length_append]; exact hT, zTx_snoc ht hx⟩
/-- sign k of the reference's name n, and the name -/
noncomputable def zrs (n k : Nat) : Int32 := ((Int64.ofNat (zz_at 64 zc_173 (zz_nI (Int32.ofNat n))) >>> ((Int32.ofNat 8 * (Int32.ofNat k - Int32.ofNat k / Int32.ofNat 8 * Int32.ofNat 8)).toInt64 &&& 63)) &&& Int64.ofNat 127).toInt32
noncomputable def zNr (n : Nat) : List Nat := ((List.range 8).map fun k => zz_nI (zrs n k)).takeWhile fun x => !Nat.beq x 0
def zIr : List Nat := 77 :: ((List.range 51).map (8 + ·) ++ (List.range 32).map (93 + ·))
theorem zNr_all : zIr.all (fun n => Nat.blt (zNr n).length 8 && (decide (zrs n (zNr n).length = 0) && (List.range (zNr n).length).all (fun k => !decide (zrs n k = 0) && (!decide (zrs n k ≤ 0) && (decide (zrs n k = Int32.ofNat ((zNr n).getD k 0)) && Nat.blt ((zNr n).getD k 0) 128))))) = true := by decide +kernel
theorem zz_nd {p : Prop} {_ : Decidable p} (h : (!decide p) = true) : ¬ p := fun q => by
  rw [decide_eq_true q] at h
  cases h
theorem zNr_ok {n : Nat} (h : n ∈ zIr) : (zNr n).length < 8 ∧ zrs n (zNr n).length = 0 ∧ ∀ k, k < (zNr n).length → ¬ zrs n k = 0 ∧ ¬ zrs n k ≤ 0 ∧ zrs n k = Int32.ofNat ((zNr n).getD k 0) ∧ (zNr n).getD k 0 < 128 := by
  have h1 := List.all_eq_true.mp zNr_all n h
  obtain ⟨a, h1⟩ := zz_and h1
  obtain ⟨b, h1⟩ := zz_and h1
  refine ⟨zz_blt a, of_decide_eq_true b, fun k hk => ?_⟩
  have h2 := List.all_eq_true.mp h1 k (List.mem_range.mpr hk)
  obtain ⟨c, h2⟩ := zz_and h2
  obtain ⟨e, h2⟩ := zz_and h2
  obtain ⟨f, g⟩ := zz_and h2
  exact ⟨zz_nd c, zz_nd e, of_decide_eq_true f, zz_blt g⟩
theorem zIr_op {f : Nat} (h : f < 51) : 8 + f ∈ zIr := List.mem_cons_of_mem _ (List.mem_append_left _ (List.mem_map.mpr ⟨f, List.mem_range.mpr h, rfl⟩))
theorem zIr_rg {f : Nat} (h : f < 32) : 93 + f ∈ zIr := List.mem_cons_of_mem _ (List.mem_append_right _ (List.mem_map.mpr ⟨f, List.mem_range.mpr h, rfl⟩))
theorem zIr_le {f : Nat} (h : f ∈ zIr) : f < 125 := by
  have : zIr.all (fun n => Nat.blt n 125) = true := by decide
  exact zz_blt (List.all_eq_true.mp this f h)
theorem zl_125 : ∀ n, n < 125 → ¬ Int32.ofNat n < 0 := by decide +kernel
theorem zl_8a : ∀ k, k < 8 → ¬ Int32.ofNat k < Int32.ofNat 0 := by decide +kernel
theorem zl_8b : ∀ k, k < 8 → ¬ Int32.ofNat 15 < Int32.ofNat k := by decide +kernel
theorem zM_nsv {l : Launch} {D : va_G} {cy : Nat → ClassId} {z0 : Nat} {sp : Nat → Nat} {G : State → Prop} {d : Nat} (hG : zz_GF z0 G) (hP : ∀ U, G U → zz_GD zS zS2 zLg z0 sp U) {N M : Nat} {w0 w : zz_W} (r : zQr N M w0 w) {n k : Nat} (hi : n < 125) (hk : k < 8) (h : ¬ zrs n k = 0) : zz_M l zTs D zcl zFK cy z0 sp (zTys cy) G zYN zCN zMQ zRT (d + 2) 82 [.ref 171, .int (Int32.ofNat n), .int (Int32.ofNat k)] w [.int (zrs n k)] w := by
  have T := zt_82 (l := l) (D := D) (cy := cy) (z0 := z0) (sp := sp) (G := G) (d := (d + 1)) zz_k0_KS hG hP
  have TK := fun (K : zz_K) (h : zz_KS l D zcl zFK cy z0 sp (zTys cy) G zYN (fun y => Cond.code (zYN y) (zCN y) (zMQ y) (zRT y) :: zTs) (d + 1) K) => zt_82 h hG hP
  have b := zz_B_rf (l := l) (Ts := zTs) (D := D) (cl := zcl) (fk := zFK) (cy := cy) (z0 := z0) (sp := sp) (tys := zTys cy) (G := G) (own := "ToolMillModel") (mn := "nameSign") (nL := 4) (cc := prog_14_method_8_code) (d := (d + 1)) ((0, [(0, .ref 171), (1, .int (Int32.ofNat n)), (2, .int (Int32.ofNat k))], [], w) : zz_F)
  replace b := zz_fw b T (rfl : zz_ent zP_82 0 = (0, za_iload 1 1)) (ze_iload rfl)
  replace b := zz_fw b T (rfl : zz_ent zP_82 1 = (0, za_if_lt 14 4)) (ze_if_lt_f (zl_125 n hi))
  replace b := zz_fw b T (rfl : zz_ent zP_82 4 = (0, za_iload 2 5)) (ze_iload rfl)
  replace b := zz_fw b T (rfl : zz_ent zP_82 5 = (0, za_const (.int (Int32.ofNat 0)) 6)) (ze_const)
  replace b := zz_fw b T (rfl : zz_ent zP_82 6 = (0, za_const (.int (Int32.ofNat 15)) 8)) (ze_const)
  replace b := zz_fSi b TK (rfl : zz_ent zP_82 8 = (0, za_callS 80 3 11)) (zM_in_k hG hP (zl_8a k hk) (zl_8b k hk)) rfl rfl (zz_lb rfl)
  replace b := zz_fw b T (rfl : zz_ent zP_82 11 = (0, za_if_ne 16 14)) (ze_if_ne_t (by decide))
  replace b := zz_fw b T (rfl : zz_ent zP_82 16 = (0, za_iload 2 17)) (ze_iload rfl)
  replace b := zz_fw b T (rfl : zz_ent zP_82 17 = (0, za_const (.int (Int32.ofNat 8)) 19)) (ze_const)
  replace b := zz_fw b T (rfl : zz_ent zP_82 19 = (0, za_icmp_ge 31 22)) (ze_icmp_ge_f (zl_8 k hk))
  replace b := zz_fw b T (rfl : zz_ent zP_82 22 = (0, za_aload 0 23)) (ze_aload rfl)
  replace b := zz_fw b T (rfl : zz_ent zP_82 23 = (0, za_getA 0 4 26)) (ze_getA (zQr_m r) (by decide) ((zQr_f r (by decide) (by decide)).trans zv_171_4))
  replace b := zz_fw b T (rfl : zz_ent zP_82 26 = (0, za_iload 1 27)) (ze_iload rfl)
  replace b := zz_fw b T (rfl : zz_ent zP_82 27 = (0, za_aldL 3 28)) (ze_aldL (zQr_o r zh_173 (by decide) (by decide) (by decide)) (by rw [zz_nI_ofNat (by omega)]; omega) (by decide) rfl)
  replace b := zz_fw b T (rfl : zz_ent zP_82 28 = (0, za_goto 37)) (ze_goto)
  replace b := zz_fw b T (rfl : zz_ent zP_82 37 = (0, za_const (.int (Int32.ofNat 8)) 39)) (ze_const)
  replace b := zz_fw b T (rfl : zz_ent zP_82 39 = (0, za_iload 2 40)) (ze_iload rfl)
  replace b := zz_fw b T (rfl : zz_ent zP_82 40 = (0, za_const (.int (Int32.ofNat 8)) 42)) (ze_const)
  replace b := zz_fw b T (rfl : zz_ent zP_82 42 = (0, za_irem 43)) (ze_irem (by decide) rfl)
  replace b := zz_fw b T (rfl : zz_ent zP_82 43 = (0, za_imul 44)) (ze_imul rfl)
  replace b := zz_fw b T (rfl : zz_ent zP_82 44 = (0, za_lshr 45)) (ze_lshr rfl)
  replace b := zz_fw b T (rfl : zz_ent zP_82 45 = (0, za_const (.long (Int64.ofNat 127)) 48)) (ze_const)
  replace b := zz_fw b T (rfl : zz_ent zP_82 48 = (0, za_land 49)) (ze_land rfl)
  replace b := zz_fw b T (rfl : zz_ent zP_82 49 = (0, za_l2i 50)) (ze_l2i (rfl : _ = zrs n k))
  replace b := zz_fw b T (rfl : zz_ent zP_82 50 = (0, za_istore 3 51)) (ze_istore (lv' := [(0, _), (1, _), (2, _)]) rfl)
  replace b := zz_fw b T (rfl : zz_ent zP_82 51 = (0, za_iload 3 52)) (ze_iload rfl)
  replace b := zz_fw b T (rfl : zz_ent zP_82 52 = (0, za_if_ne 59 55)) (ze_if_ne_t h)
  replace b := zz_fw b T (rfl : zz_ent zP_82 59 = (0, za_iload 3 60)) (ze_iload rfl)
  have m := zz_M_B (yn := zYN) (cn := zCN) (ml := zMQ) (rt := zRT) (y := 82) (as := [.ref 171, .int (Int32.ofNat n), .int (Int32.ofNat k)]) rfl rfl rfl rfl rfl (by decide +kernel) (zz_lb rfl) (zz_lb rfl) (zz_end_i (zr_82.2.1 60 rfl).1) b
  exact m
theorem zM_nsz {l : Launch} {D : va_G} {cy : Nat → ClassId} {z0 : Nat} {sp : Nat → Nat} {G : State → Prop} {d : Nat} (hG : zz_GF z0 G) (hP : ∀ U, G U → zz_GD zS zS2 zLg z0 sp U) {N M : Nat} {w0 w : zz_W} (r : zQr N M w0 w) {n k : Nat} (hi : n < 125) (hk : k < 8) (h : zrs n k = 0) : zz_M l zTs D zcl zFK cy z0 sp (zTys cy) G zYN zCN zMQ zRT (d + 2) 82 [.ref 171, .int (Int32.ofNat n), .int (Int32.ofNat k)] w [.int (Int32.ofNat 4294967295)] w := by
  have T := zt_82 (l := l) (D := D) (cy := cy) (z0 := z0) (sp := sp) (G := G) (d := (d + 1)) zz_k0_KS hG hP
  have TK := fun (K : zz_K) (h : zz_KS l D zcl zFK cy z0 sp (zTys cy) G zYN (fun y => Cond.code (zYN y) (zCN y) (zMQ y) (zRT y) :: zTs) (d + 1) K) => zt_82 h hG hP
  have b := zz_B_rf (l := l) (Ts := zTs) (D := D) (cl := zcl) (fk := zFK) (cy := cy) (z0 := z0) (sp := sp) (tys := zTys cy) (G := G) (own := "ToolMillModel") (mn := "nameSign") (nL := 4) (cc := prog_14_method_8_code) (d := (d + 1)) ((0, [(0, .ref 171), (1, .int (Int32.ofNat n)), (2, .int (Int32.ofNat k))], [], w) : zz_F)
  replace b := zz_fw b T (rfl : zz_ent zP_82 0 = (0, za_iload 1 1)) (ze_iload rfl)
  replace b := zz_fw b T (rfl : zz_ent zP_82 1 = (0, za_if_lt 14 4)) (ze_if_lt_f (zl_125 n hi))
  replace b := zz_fw b T (rfl : zz_ent zP_82 4 = (0, za_iload 2 5)) (ze_iload rfl)
  replace b := zz_fw b T (rfl : zz_ent zP_82 5 = (0, za_const (.int (Int32.ofNat 0)) 6)) (ze_const)
  replace b := zz_fw b T (rfl : zz_ent zP_82 6 = (0, za_const (.int (Int32.ofNat 15)) 8)) (ze_const)
  replace b := zz_fSi b TK (rfl : zz_ent zP_82 8 = (0, za_callS 80 3 11)) (zM_in_k hG hP (zl_8a k hk) (zl_8b k hk)) rfl rfl (zz_lb rfl)
  replace b := zz_fw b T (rfl : zz_ent zP_82 11 = (0, za_if_ne 16 14)) (ze_if_ne_t (by decide))
  replace b := zz_fw b T (rfl : zz_ent zP_82 16 = (0, za_iload 2 17)) (ze_iload rfl)
  replace b := zz_fw b T (rfl : zz_ent zP_82 17 = (0, za_const (.int (Int32.ofNat 8)) 19)) (ze_const)
  replace b := zz_fw b T (rfl : zz_ent zP_82 19 = (0, za_icmp_ge 31 22)) (ze_icmp_ge_f (zl_8 k hk))
  replace b := zz_fw b T (rfl : zz_ent zP_82 22 = (0, za_aload 0 23)) (ze_aload rfl)
  replace b := zz_fw b T (rfl : zz_ent zP_82 23 = (0, za_getA 0 4 26)) (ze_getA (zQr_m r) (by decide) ((zQr_f r (by decide) (by decide)).trans zv_171_4))
  replace b := zz_fw b T (rfl : zz_ent zP_82 26 = (0, za_iload 1 27)) (ze_iload rfl)
  replace b := zz_fw b T (rfl : zz_ent zP_82 27 = (0, za_aldL 3 28)) (ze_aldL (zQr_o r zh_173 (by decide) (by decide) (by decide)) (by rw [zz_nI_ofNat (by omega)]; omega) (by decide) rfl)
  replace b := zz_fw b T (rfl : zz_ent zP_82 28 = (0, za_goto 37)) (ze_goto)
  replace b := zz_fw b T (rfl : zz_ent zP_82 37 = (0, za_const (.int (Int32.ofNat 8)) 39)) (ze_const)
  replace b := zz_fw b T (rfl : zz_ent zP_82 39 = (0, za_iload 2 40)) (ze_iload rfl)
  replace b := zz_fw b T (rfl : zz_ent zP_82 40 = (0, za_const (.int (Int32.ofNat 8)) 42)) (ze_const)
  replace b := zz_fw b T (rfl : zz_ent zP_82 42 = (0, za_irem 43)) (ze_irem (by decide) rfl)
  replace b := zz_fw b T (rfl : zz_ent zP_82 43 = (0, za_imul 44)) (ze_imul rfl)
  replace b := zz_fw b T (rfl : zz_ent zP_82 44 = (0, za_lshr 45)) (ze_lshr rfl)
  replace b := zz_fw b T (rfl : zz_ent zP_82 45 = (0, za_const (.long (Int64.ofNat 127)) 48)) (ze_const)
  replace b := zz_fw b T (rfl : zz_ent zP_82 48 = (0, za_land 49)) (ze_land rfl)
  replace b := zz_fw b T (rfl : zz_ent zP_82 49 = (0, za_l2i 50)) (ze_l2i (rfl : _ = zrs n k))
  replace b := zz_fw b T (rfl : zz_ent zP_82 50 = (0, za_istore 3 51)) (ze_istore (lv' := [(0, _), (1, _), (2, _)]) rfl)
  replace b := zz_fw b T (rfl : zz_ent zP_82 51 = (0, za_iload 3 52)) (ze_iload rfl)
  replace b := zz_fw b T (rfl : zz_ent zP_82 52 = (0, za_if_ne 59 55)) (ze_if_ne_f (not_not_intro h))
  replace b := zz_fw b T (rfl : zz_ent zP_82 55 = (0, za_const (.int (Int32.ofNat 4294967295)) 56)) (ze_const)
  replace b := zz_fw b T (rfl : zz_ent zP_82 56 = (0, za_goto 60)) (ze_goto)
  have m := zz_M_B (yn := zYN) (cn := zCN) (ml := zMQ) (rt := zRT) (y := 82) (as := [.ref 171, .int (Int32.ofNat n), .int (Int32.ofNat k)]) rfl rfl rfl rfl rfl (by decide +kernel) (zz_lb rfl) (zz_lb rfl) (zz_end_i (zr_82.2.1 60 rfl).1) b
  exact m
theorem znr_s {l : Launch} {D : va_G} {cy : Nat → ClassId} {z0 : Nat} {sp : Nat → Nat} {G : State → Prop} {d : Nat} (hG : zz_GF z0 G) (hP : ∀ U, G U → zz_GD zS zS2 zLg z0 sp U) {T : List Nat} {w0 w : zz_W} (hQ : zQ T w0 w) {n k : Nat} (hi : n < 125) (hk : k < 8) {x : Nat} (hT : T.length < 64) (h0 : ¬ zrs n k = 0) (h1 : ¬ zrs n k ≤ 0) (hx : zrs n k = Int32.ofNat x) (hx7 : x < 128) : ∃ w', zz_B l zTs D zcl zFK cy z0 sp (zTys cy) G "ToolMillModel" "showName" 3 prog_14_method_231_code (d + 2) (2, [(0, .ref 171), (1, .int (Int32.ofNat n)), (2, .int (Int32.ofNat k))], [], w) (2, [(0, .ref 171), (1, .int (Int32.ofNat n)), (2, .int (Int32.ofNat (k + 1)))], [], w') ∧ zQ (T ++ [x]) w0 w' := by
  obtain ⟨N, M, r, -⟩ := id hQ
  have T9 := zt_85 (l := l) (D := D) (cy := cy) (z0 := z0) (sp := sp) (G := G) (d := (d + 2)) zz_k0_KS hG hP
  have TK := fun (K : zz_K) (h : zz_KS l D zcl zFK cy z0 sp (zTys cy) G zYN (fun y => Cond.code (zYN y) (zCN y) (zMQ y) (zRT y) :: zTs) (d + 2) K) => zt_85 h hG hP
  have b := zz_B_rf (l := l) (Ts := zTs) (D := D) (cl := zcl) (fk := zFK) (cy := cy) (z0 := z0) (sp := sp) (tys := zTys cy) (G := G) (own := "ToolMillModel") (mn := "showName") (nL := 3) (cc := prog_14_method_231_code) (d := (d + 2)) ((2, [(0, .ref 171), (1, .int (Int32.ofNat n)), (2, .int (Int32.ofNat k))], [], w) : zz_F)
  replace b := zz_fw b T9 (rfl : zz_ent zP_85 2 = (0, za_aload 0 3)) (ze_aload rfl)
  replace b := zz_fw b T9 (rfl : zz_ent zP_85 3 = (0, za_iload 1 4)) (ze_iload rfl)
  replace b := zz_fw b T9 (rfl : zz_ent zP_85 4 = (0, za_iload 2 5)) (ze_iload rfl)
  replace b := zz_fVi b TK (rfl : zz_ent zP_85 5 = (0, za_callV 0 82 2 8)) (zM_nsv hG hP r hi hk h0) rfl rfl (zz_has_c (zQr_m r)) (zz_lb rfl)
  replace b := zz_fw b T9 (rfl : zz_ent zP_85 8 = (0, za_if_le 27 11)) (ze_if_le_f h1)
  replace b := zz_fw b T9 (rfl : zz_ent zP_85 11 = (0, za_aload 0 12)) (ze_aload rfl)
  replace b := zz_fw b T9 (rfl : zz_ent zP_85 12 = (0, za_aload 0 13)) (ze_aload rfl)
  replace b := zz_fw b T9 (rfl : zz_ent zP_85 13 = (0, za_iload 1 14)) (ze_iload rfl)
  replace b := zz_fw b T9 (rfl : zz_ent zP_85 14 = (0, za_iload 2 15)) (ze_iload rfl)
  replace b := zz_fVi b TK (rfl : zz_ent zP_85 15 = (0, za_callV 0 82 2 18)) (hx ▸ zM_nsv hG hP r hi hk h0) rfl rfl (zz_has_c (zQr_m r)) (zz_lb rfl)
  obtain ⟨w1, hM1, hQ1⟩ := zM_show (d := d + 1) (l := l) (D := D) (cy := cy) (sp := sp) hG hP hQ (x := x) hT (by omega)
  replace b := zz_fVv b TK (rfl : zz_ent zP_85 18 = (0, za_callV 0 86 1 21)) hM1 rfl rfl (zQ_ic hQ) (zz_lb rfl)
  replace b := zz_fw b T9 (rfl : zz_ent zP_85 21 = (0, za_iinc 2 (Int32.ofNat 1) 24)) (ze_iinc (lv' := [(0, _), (1, _)]) rfl (Int32.ofNat_add k 1).symm rfl)
  replace b := zz_fw b T9 (rfl : zz_ent zP_85 24 = (0, za_goto 2)) (ze_goto)
  replace b := zz_fl (lv' := [(0, .ref 171), (1, .int (Int32.ofNat n)), (2, .int (Int32.ofNat (k + 1)))]) b (zz_mc (List.mem_cons_of_mem _ List.mem_cons_self) (zz_mc (List.mem_cons_of_mem _ (List.mem_cons_of_mem _ List.mem_cons_self)) (zz_mc List.mem_cons_self zz_mn)))
  exact ⟨_, b, hQ1⟩
theorem znr_e {l : Launch} {D : va_G} {cy : Nat → ClassId} {z0 : Nat} {sp : Nat → Nat} {G : State → Prop} {d : Nat} (hG : zz_GF z0 G) (hP : ∀ U, G U → zz_GD zS zS2 zLg z0 sp U) {T : List Nat} {w0 w : zz_W} (hQ : zQ T w0 w) {n k : Nat} (hi : n < 125) (hk : k < 8) (h0 : zrs n k = 0) : zz_B l zTs D zcl zFK cy z0 sp (zTys cy) G "ToolMillModel" "showName" 3 prog_14_method_231_code (d + 2) (2, [(0, .ref 171), (1, .int (Int32.ofNat n)), (2, .int (Int32.ofNat k))], [], w) (27, [(0, .ref 171), (1, .int (Int32.ofNat n)), (2, .int (Int32.ofNat k))], [], w) := by
  obtain ⟨N, M, r, -⟩ := id hQ
  have T9 := zt_85 (l := l) (D := D) (cy := cy) (z0 := z0) (sp := sp) (G := G) (d := (d + 2)) zz_k0_KS hG hP
  have TK := fun (K : zz_K) (h : zz_KS l D zcl zFK cy z0 sp (zTys cy) G zYN (fun y => Cond.code (zYN y) (zCN y) (zMQ y) (zRT y) :: zTs) (d + 2) K) => zt_85 h hG hP
  have b := zz_B_rf (l := l) (Ts := zTs) (D := D) (cl := zcl) (fk := zFK) (cy := cy) (z0 := z0) (sp := sp) (tys := zTys cy) (G := G) (own := "ToolMillModel") (mn := "showName") (nL := 3) (cc := prog_14_method_231_code) (d := (d + 2)) ((2, [(0, .ref 171), (1, .int (Int32.ofNat n)), (2, .int (Int32.ofNat k))], [], w) : zz_F)
  replace b := zz_fw b T9 (rfl : zz_ent zP_85 2 = (0, za_aload 0 3)) (ze_aload rfl)
  replace b := zz_fw b T9 (rfl : zz_ent zP_85 3 = (0, za_iload 1 4)) (ze_iload rfl)
  replace b := zz_fw b T9 (rfl : zz_ent zP_85 4 = (0, za_iload 2 5)) (ze_iload rfl)
  replace b := zz_fVi b TK (rfl : zz_ent zP_85 5 = (0, za_callV 0 82 2 8)) (zM_nsz hG hP r hi hk h0) rfl rfl (zz_has_c (zQr_m r)) (zz_lb rfl)
  replace b := zz_fw b T9 (rfl : zz_ent zP_85 8 = (0, za_if_le 27 11)) (ze_if_le_t (by decide))
  replace b := zz_fl (lv' := [(0, .ref 171), (1, .int (Int32.ofNat n)), (2, .int (Int32.ofNat k))]) b (zz_mc List.mem_cons_self (zz_mc (List.mem_cons_of_mem _ List.mem_cons_self) (zz_mc (List.mem_cons_of_mem _ (List.mem_cons_of_mem _ List.mem_cons_self)) zz_mn)))
  exact b
theorem znr_0 {l : Launch} {D : va_G} {cy : Nat → ClassId} {z0 : Nat} {sp : Nat → Nat} {G : State → Prop} {d : Nat} (hG : zz_GF z0 G) (hP : ∀ U, G U → zz_GD zS zS2 zLg z0 sp U) {w : zz_W} {n : Nat} : zz_B l zTs D zcl zFK cy z0 sp (zTys cy) G "ToolMillModel" "showName" 3 prog_14_method_231_code (d + 2) (0, [(0, .ref 171), (1, .int (Int32.ofNat n))], [], w) (2, [(0, .ref 171), (1, .int (Int32.ofNat n)), (2, .int (Int32.ofNat 0))], [], w) := by
  have T9 := zt_85 (l := l) (D := D) (cy := cy) (z0 := z0) (sp := sp) (G := G) (d := (d + 2)) zz_k0_KS hG hP
  have TK := fun (K : zz_K) (h : zz_KS l D zcl zFK cy z0 sp (zTys cy) G zYN (fun y => Cond.code (zYN y) (zCN y) (zMQ y) (zRT y) :: zTs) (d + 2) K) => zt_85 h hG hP
  have b := zz_B_rf (l := l) (Ts := zTs) (D := D) (cl := zcl) (fk := zFK) (cy := cy) (z0 := z0) (sp := sp) (tys := zTys cy) (G := G) (own := "ToolMillModel") (mn := "showName") (nL := 3) (cc := prog_14_method_231_code) (d := (d + 2)) ((0, [(0, .ref 171), (1, .int (Int32.ofNat n))], [], w) : zz_F)
  replace b := zz_fw b T9 (rfl : zz_ent zP_85 0 = (0, za_const (.int (Int32.ofNat 0)) 1)) (ze_const)
  replace b := zz_fw b T9 (rfl : zz_ent zP_85 1 = (0, za_istore 2 2)) (ze_istore (lv' := [(0, _), (1, _)]) rfl)
  replace b := zz_fl (lv' := [(0, .ref 171), (1, .int (Int32.ofNat n)), (2, .int (Int32.ofNat 0))]) b (zz_mc (List.mem_cons_of_mem _ List.mem_cons_self) (zz_mc (List.mem_cons_of_mem _ (List.mem_cons_of_mem _ List.mem_cons_self)) (zz_mc List.mem_cons_self zz_mn)))
  exact b
theorem znr_l {l : Launch} {D : va_G} {cy : Nat → ClassId} {z0 : Nat} {sp : Nat → Nat} {G : State → Prop} {d : Nat} (hG : zz_GF z0 G) (hP : ∀ U, G U → zz_GD zS zS2 zLg z0 sp U) {T : List Nat} {w0 w : zz_W} (hQ : zQ T w0 w) {n : Nat} (hi : n ∈ zIr) (hT : T.length + (zNr n).length ≤ 64) : ∀ k, k ≤ (zNr n).length → ∃ w', zz_B l zTs D zcl zFK cy z0 sp (zTys cy) G "ToolMillModel" "showName" 3 prog_14_method_231_code (d + 2) (2, [(0, .ref 171), (1, .int (Int32.ofNat n)), (2, .int (Int32.ofNat 0))], [], w) (2, [(0, .ref 171), (1, .int (Int32.ofNat n)), (2, .int (Int32.ofNat k))], [], w') ∧ zQ (T ++ (zNr n).take k) w0 w' := by
  obtain ⟨n8, he, hk⟩ := zNr_ok hi
  intro k
  induction k with
  | zero => exact fun _ => ⟨w, zz_B_rf _, by rw [List.take_zero, List.append_nil]; exact hQ⟩
  | succ k ih =>
    intro h
    obtain ⟨w1, b1, hQ1⟩ := ih (by omega)
    obtain ⟨q1, q2, q3, q4⟩ := hk k (by omega)
    obtain ⟨w2, b2, hQ2⟩ := znr_s (d := d) (l := l) (D := D) (cy := cy) (sp := sp) hG hP hQ1 (zIr_le hi) (k := k) (by omega) (by rw [List.length_append, List.length_take]; omega) q1 q2 q3 q4
    refine ⟨w2, zz_B_tr b1 b2, ?_⟩
    rw [List.append_assoc, show (zNr n).take k ++ [(zNr n).getD k 0] = (zNr n).take (k + 1) from ?_] at hQ2
    · exact hQ2
    · rw [List.take_succ, List.getD_eq_getElem?_getD, List.getElem?_eq_getElem (by omega)]
      rfl
theorem zM_sn {l : Launch} {D : va_G} {cy : Nat → ClassId} {z0 : Nat} {sp : Nat → Nat} {G : State → Prop} {d : Nat} (hG : zz_GF z0 G) (hP : ∀ U, G U → zz_GD zS zS2 zLg z0 sp U) {T : List Nat} {w0 w : zz_W} (hQ : zQ T w0 w) {n : Nat} (hi : n ∈ zIr) (hT : T.length + (zNr n).length ≤ 64) : ∃ w', zz_M l zTs D zcl zFK cy z0 sp (zTys cy) G zYN zCN zMQ zRT (d + 3) 85 [.ref 171, .int (Int32.ofNat n)] w [] w' ∧ zQ (T ++ zNr n) w0 w' := by
  obtain ⟨n8, he, hk⟩ := zNr_ok hi
  obtain ⟨w1, b1, hQ1⟩ := znr_l (d := d) (l := l) (D := D) (cy := cy) (sp := sp) hG hP hQ hi hT (zNr n).length (Nat.le_refl _)
  rw [List.take_length] at hQ1
  have b0 := znr_0 (w := w) (n := n) (d := d) (l := l) (D := D) (cy := cy) (z0 := z0) (sp := sp) (G := G) hG hP
  have b2 := znr_e (d := d) (l := l) (D := D) (cy := cy) (sp := sp) hG hP hQ1 (zIr_le hi) n8 he
  exact ⟨w1, zz_M_B (yn := zYN) (cn := zCN) (ml := zMQ) (rt := zRT) (y := 85) (as := [.ref 171, .int (Int32.ofNat n)]) rfl rfl rfl rfl rfl (by decide +kernel) (zz_lb rfl) (zz_lb rfl) (zz_end_v (zr_85.1 27 rfl).1) (zz_B_tr (zz_B_tr b0 b1) b2), hQ1⟩
theorem zNr_4 : (List.range 32).all (fun r => Nat.ble (zNr (93 + r)).length 4) = true := by decide +kernel
theorem zNr_r {r : Nat} (h : r < 32) : (zNr (93 + r)).length ≤ 4 := zz_ble (List.all_eq_true.mp zNr_4 r (List.mem_range.mpr h))
theorem zM_sr1 {l : Launch} {D : va_G} {cy : Nat → ClassId} {z0 : Nat} {sp : Nat → Nat} {G : State → Prop} {d : Nat} (hG : zz_GF z0 G) (hP : ∀ U, G U → zz_GD zS zS2 zLg z0 sp U) {T : List Nat} {w0 w : zz_W} (hQ : zQ T w0 w) {r : Nat} (hr : r < 32) (hT : T.length ≤ 56) : ∃ w', zz_M l zTs D zcl zFK cy z0 sp (zTys cy) G zYN zCN zMQ zRT (d + 4) 131 [.ref 171, .int (Int32.ofNat r), .int (Int32.ofNat 1)] w [] w' ∧ zQ (T ++ [36] ++ zNr (93 + r) ++ [44]) w0 w' := by
  have T9 := zt_131 (l := l) (D := D) (cy := cy) (z0 := z0) (sp := sp) (G := G) (d := (d + 3)) zz_k0_KS hG hP
  have TK := fun (K : zz_K) (h : zz_KS l D zcl zFK cy z0 sp (zTys cy) G zYN (fun y => Cond.code (zYN y) (zCN y) (zMQ y) (zRT y) :: zTs) (d + 3) K) => zt_131 h hG hP
  have b := zz_B_rf (l := l) (Ts := zTs) (D := D) (cl := zcl) (fk := zFK) (cy := cy) (z0 := z0) (sp := sp) (tys := zTys cy) (G := G) (own := "ToolMillModel") (mn := "showRegister") (nL := 3) (cc := prog_14_method_233_code) (d := (d + 3)) ((0, [(0, .ref 171), (1, .int (Int32.ofNat r)), (2, .int (Int32.ofNat 1))], [], w) : zz_F)
  replace b := zz_fw b T9 (rfl : zz_ent zP_131 0 = (0, za_aload 0 1)) (ze_aload rfl)
  replace b := zz_fw b T9 (rfl : zz_ent zP_131 1 = (0, za_const (.int (Int32.ofNat 36)) 3)) (ze_const)
  obtain ⟨w1, hM1, hQ1⟩ := zM_show (d := d + 2) (l := l) (D := D) (cy := cy) (sp := sp) hG hP hQ (x := 36) (by omega) (by decide)
  replace b := zz_fVv b TK (rfl : zz_ent zP_131 3 = (0, za_callV 0 86 1 6)) hM1 rfl rfl (zQ_ic hQ) (zz_lb rfl)
  replace b := zz_fw b T9 (rfl : zz_ent zP_131 6 = (0, za_aload 0 7)) (ze_aload rfl)
  replace b := zz_fw b T9 (rfl : zz_ent zP_131 7 = (0, za_const (.int (Int32.ofNat 93)) 9)) (ze_const)
  replace b := zz_fw b T9 (rfl : zz_ent zP_131 9 = (0, za_iload 1 10)) (ze_iload rfl)
  replace b := zz_fw b T9 (rfl : zz_ent zP_131 10 = (0, za_iadd 11)) (ze_iadd (Int32.ofNat_add 93 _).symm)
  obtain ⟨w2, hM2, hQ2⟩ := zM_sn (d := d) (l := l) (D := D) (cy := cy) (sp := sp) hG hP hQ1 (n := 93 + r) (zIr_rg hr) (by have g := zNr_r hr; rw [List.length_append, List.length_singleton]; omega)
  replace b := zz_fVv b TK (rfl : zz_ent zP_131 11 = (0, za_callV 0 85 1 14)) hM2 rfl rfl (zQ_ic hQ1) (zz_lb rfl)
  replace b := zz_fw b T9 (rfl : zz_ent zP_131 14 = (0, za_iload 2 15)) (ze_iload rfl)
  replace b := zz_fw b T9 (rfl : zz_ent zP_131 15 = (0, za_if_eq 24 18)) (ze_if_eq_f (by decide))
  replace b := zz_fw b T9 (rfl : zz_ent zP_131 18 = (0, za_aload 0 19)) (ze_aload rfl)
  replace b := zz_fw b T9 (rfl : zz_ent zP_131 19 = (0, za_const (.int (Int32.ofNat 44)) 21)) (ze_const)
  obtain ⟨w3, hM3, hQ3⟩ := zM_show (d := d + 2) (l := l) (D := D) (cy := cy) (sp := sp) hG hP hQ2 (x := 44) (by have g := zNr_r hr; simp only [List.length_append, List.length_singleton]; omega) (by decide)
  replace b := zz_fVv b TK (rfl : zz_ent zP_131 21 = (0, za_callV 0 86 1 24)) hM3 rfl rfl (zQ_ic hQ2) (zz_lb rfl)
  have m := zz_M_B (yn := zYN) (cn := zCN) (ml := zMQ) (rt := zRT) (y := 131) (as := [.ref 171, .int (Int32.ofNat r), .int (Int32.ofNat 1)]) rfl rfl rfl rfl rfl (by decide +kernel) (zz_lb rfl) (zz_lb rfl) (zz_end_v (zr_131.1 24 rfl).1) b
  exact ⟨_, m, hQ3⟩
theorem zM_sr0 {l : Launch} {D : va_G} {cy : Nat → ClassId} {z0 : Nat} {sp : Nat → Nat} {G : State → Prop} {d : Nat} (hG : zz_GF z0 G) (hP : ∀ U, G U → zz_GD zS zS2 zLg z0 sp U) {T : List Nat} {w0 w : zz_W} (hQ : zQ T w0 w) {r : Nat} (hr : r < 32) (hT : T.length ≤ 56) : ∃ w', zz_M l zTs D zcl zFK cy z0 sp (zTys cy) G zYN zCN zMQ zRT (d + 4) 131 [.ref 171, .int (Int32.ofNat r), .int (Int32.ofNat 0)] w [] w' ∧ zQ (T ++ [36] ++ zNr (93 + r)) w0 w' := by
  have T9 := zt_131 (l := l) (D := D) (cy := cy) (z0 := z0) (sp := sp) (G := G) (d := (d + 3)) zz_k0_KS hG hP
  have TK := fun (K : zz_K) (h : zz_KS l D zcl zFK cy z0 sp (zTys cy) G zYN (fun y => Cond.code (zYN y) (zCN y) (zMQ y) (zRT y) :: zTs) (d + 3) K) => zt_131 h hG hP
  have b := zz_B_rf (l := l) (Ts := zTs) (D := D) (cl := zcl) (fk := zFK) (cy := cy) (z0 := z0) (sp := sp) (tys := zTys cy) (G := G) (own := "ToolMillModel") (mn := "showRegister") (nL := 3) (cc := prog_14_method_233_code) (d := (d + 3)) ((0, [(0, .ref 171), (1, .int (Int32.ofNat r)), (2, .int (Int32.ofNat 0))], [], w) : zz_F)
  replace b := zz_fw b T9 (rfl : zz_ent zP_131 0 = (0, za_aload 0 1)) (ze_aload rfl)
  replace b := zz_fw b T9 (rfl : zz_ent zP_131 1 = (0, za_const (.int (Int32.ofNat 36)) 3)) (ze_const)
  obtain ⟨w1, hM1, hQ1⟩ := zM_show (d := d + 2) (l := l) (D := D) (cy := cy) (sp := sp) hG hP hQ (x := 36) (by omega) (by decide)
  replace b := zz_fVv b TK (rfl : zz_ent zP_131 3 = (0, za_callV 0 86 1 6)) hM1 rfl rfl (zQ_ic hQ) (zz_lb rfl)
  replace b := zz_fw b T9 (rfl : zz_ent zP_131 6 = (0, za_aload 0 7)) (ze_aload rfl)
  replace b := zz_fw b T9 (rfl : zz_ent zP_131 7 = (0, za_const (.int (Int32.ofNat 93)) 9)) (ze_const)
  replace b := zz_fw b T9 (rfl : zz_ent zP_131 9 = (0, za_iload 1 10)) (ze_iload rfl)
  replace b := zz_fw b T9 (rfl : zz_ent zP_131 10 = (0, za_iadd 11)) (ze_iadd (Int32.ofNat_add 93 _).symm)
  obtain ⟨w2, hM2, hQ2⟩ := zM_sn (d := d) (l := l) (D := D) (cy := cy) (sp := sp) hG hP hQ1 (n := 93 + r) (zIr_rg hr) (by have g := zNr_r hr; rw [List.length_append, List.length_singleton]; omega)
  replace b := zz_fVv b TK (rfl : zz_ent zP_131 11 = (0, za_callV 0 85 1 14)) hM2 rfl rfl (zQ_ic hQ1) (zz_lb rfl)
  replace b := zz_fw b T9 (rfl : zz_ent zP_131 14 = (0, za_iload 2 15)) (ze_iload rfl)
  replace b := zz_fw b T9 (rfl : zz_ent zP_131 15 = (0, za_if_eq 24 18)) (ze_if_eq_t (by decide))
  have m := zz_M_B (yn := zYN) (cn := zCN) (ml := zMQ) (rt := zRT) (y := 131) (as := [.ref 171, .int (Int32.ofNat r), .int (Int32.ofNat 0)]) rfl rfl rfl rfl rfl (by decide +kernel) (zz_lb rfl) (zz_lb rfl) (zz_end_v (zr_131.1 24 rfl).1) b
  exact ⟨_, m, hQ2⟩
theorem zlc_gt {a b : Nat} (ha : a < 2 ^ 63) (hb : b < 2 ^ 63) : lg_cmp (Int64.ofNat a) (Int64.ofNat b) ≤ 0 ↔ a ≤ b := by
  unfold lg_cmp
  by_cases h : b < a
  · have h1 : Int64.ofNat a > Int64.ofNat b := (Int64.ofNat_lt_iff_lt hb ha).mpr h
    rw [if_pos h1]
    exact ⟨fun q => absurd q (by decide), fun q => absurd h (by omega)⟩
  · have h1 : ¬ Int64.ofNat a > Int64.ofNat b := fun q => h ((Int64.ofNat_lt_iff_lt hb ha).mp q)
    rw [if_neg h1]
    refine ⟨fun _ => by omega, fun _ => ?_⟩
    split <;> decide
theorem zlc_ge {p : Int32} : 0 ≤ lg_cmp p.toInt64 (Int64.ofNat 0) ↔ ¬ p < 0 := by
  have e : (Int64.ofNat 0).toInt = 0 := by decide
  have e2 : (0 : Int32).toInt = 0 := by decide
  unfold lg_cmp
  rw [Int32.lt_iff_toInt_lt, e2]
  by_cases h : p.toInt64 > Int64.ofNat 0
  · rw [if_pos h]
    have h : Int64.ofNat 0 < p.toInt64 := h
    rw [Int64.lt_iff_toInt_lt, e, Int32.toInt_toInt64] at h
    exact ⟨fun _ => by omega, fun _ => by decide⟩
  · rw [if_neg h]
    have h : ¬ Int64.ofNat 0 < p.toInt64 := h
    rw [Int64.lt_iff_toInt_lt, e, Int32.toInt_toInt64] at h
    by_cases h2 : p.toInt64 = Int64.ofNat 0
    · rw [if_pos h2]
      have h3 := congrArg Int64.toInt h2
      rw [e, Int32.toInt_toInt64] at h3
      exact ⟨fun _ => by omega, fun _ => by decide⟩
    · rw [if_neg h2]
      refine ⟨fun q => absurd q (by decide), fun q => ?_⟩
      exact absurd (Int64.toInt_inj.mp (by rw [e, Int32.toInt_toInt64]; omega)) h2
theorem zlc_n0 {n : Nat} (h : n < 2 ^ 63) : 0 ≤ lg_cmp (Int64.ofNat n) (Int64.ofNat 0) := by
  unfold lg_cmp
  by_cases e : n = 0
  · subst e
    decide
  · have h1 : Int64.ofNat n > Int64.ofNat 0 := (Int64.ofNat_lt_iff_lt (by decide) h).mpr (by omega)
    rw [if_pos h1]
    decide
theorem zl_lp {p : Int32} (h : ¬ p < 0) : p.toInt64 = Int64.ofNat p.toInt.natAbs := by
  have e2 : (0 : Int32).toInt = 0 := by decide
  rw [Int32.lt_iff_toInt_lt, e2] at h
  have h1 := zabs p
  have h2 := Int32.toInt_lt p
  apply Int64.toInt_inj.mp
  rw [Int32.toInt_toInt64, Int64.toInt_ofNat_of_lt (by omega)]
  omega
theorem zl_ln {p : Int32} (h : p < 0) : -p.toInt64 = Int64.ofNat p.toInt.natAbs := by
  have e2 : (0 : Int32).toInt = 0 := by decide
  rw [Int32.lt_iff_toInt_lt, e2] at h
  have h1 := zabs p
  have e : p.toInt64 = Int64.ofInt (-(p.toInt.natAbs : Int)) := by
    apply Int64.toInt_inj.mp
    rw [Int32.toInt_toInt64, Int64.toInt_ofInt_of_le (by omega) (by omega)]
    omega
  rw [e, Int64.ofInt_neg, Int64.neg_neg, Int64.ofInt_eq_ofNat]
theorem zl_lr {q : Nat} (h : q < 2 ^ 63) : Int64.ofNat q - Int64.ofNat q / Int64.ofNat 10 * Int64.ofNat 10 = Int64.ofNat (q % 10) := by
  rw [← Int64.ofNat_div h (by decide), ← Int64.ofNat_mul, ← Int64.ofNat_sub _ _ (by omega)]
  congr 1
  omega
theorem zp10 : ∀ k, k < 11 → 10 ^ k < 2 ^ 40 := by decide
theorem zp10n : ∀ k, k < 11 → ¬ Int64.ofNat (10 ^ k) = 0 := by decide +kernel
theorem zsn_a {l : Launch} {D : va_G} {cy : Nat → ClassId} {z0 : Nat} {sp : Nat → Nat} {G : State → Prop} {d : Nat} (hG : zz_GF z0 G) (hP : ∀ U, G U → zz_GD zS zS2 zLg z0 sp U) {w : zz_W} {p0 : Int32} {n k : Nat} (hn : n ≤ 2147483648) (hk : k < 10) (h : 9 < n / 10 ^ k) : zz_B l zTs D zcl zFK cy z0 sp (zTys cy) G "ToolMillModel" "showNumber" 6 prog_14_method_232_code (d + 1) (21, [(0, .ref 171), (1, .int p0), (2, .long (Int64.ofNat n)), (4, .long (Int64.ofNat (10 ^ k)))], [], w) (21, [(0, .ref 171), (1, .int p0), (2, .long (Int64.ofNat n)), (4, .long (Int64.ofNat (10 ^ (k + 1))))], [], w) := by
  have T9 := zt_88 (l := l) (D := D) (cy := cy) (z0 := z0) (sp := sp) (G := G) (d := (d + 1)) zz_k0_KS hG hP
  have TK := fun (K : zz_K) (h : zz_KS l D zcl zFK cy z0 sp (zTys cy) G zYN (fun y => Cond.code (zYN y) (zCN y) (zMQ y) (zRT y) :: zTs) (d + 1) K) => zt_88 h hG hP
  have b := zz_B_rf (l := l) (Ts := zTs) (D := D) (cl := zcl) (fk := zFK) (cy := cy) (z0 := z0) (sp := sp) (tys := zTys cy) (G := G) (own := "ToolMillModel") (mn := "showNumber") (nL := 6) (cc := prog_14_method_232_code) (d := (d + 1)) ((21, [(0, .ref 171), (1, .int p0), (2, .long (Int64.ofNat n)), (4, .long (Int64.ofNat (10 ^ k)))], [], w) : zz_F)
  replace b := zz_fw b T9 (rfl : zz_ent zP_88 21 = (0, za_lload 2 22)) (ze_lload rfl)
  replace b := zz_fw b T9 (rfl : zz_ent zP_88 22 = (0, za_lload 4 24)) (ze_lload rfl)
  replace b := zz_fw b T9 (rfl : zz_ent zP_88 24 = (0, za_ldiv 25)) (ze_ldiv (zp10n k (by omega)) (Int64.ofNat_div (by omega) (by have := zp10 k (by omega); omega)).symm)
  replace b := zz_fw b T9 (rfl : zz_ent zP_88 25 = (0, za_const (.long (Int64.ofNat 9)) 28)) (ze_const)
  replace b := zz_fw b T9 (rfl : zz_ent zP_88 28 = (0, za_lcmp 29)) (ze_lcmp rfl)
  replace b := zz_fw b T9 (rfl : zz_ent zP_88 29 = (0, za_if_le 43 32)) (ze_if_le_f (fun q => absurd ((zlc_gt (by have : n / 10 ^ k ≤ n := Nat.div_le_self _ _; omega) (by decide)).mp q) (by omega)))
  replace b := zz_fw b T9 (rfl : zz_ent zP_88 32 = (0, za_lload 4 34)) (ze_lload rfl)
  replace b := zz_fw b T9 (rfl : zz_ent zP_88 34 = (0, za_const (.long (Int64.ofNat 10)) 37)) (ze_const)
  replace b := zz_fw b T9 (rfl : zz_ent zP_88 37 = (0, za_lmul 38)) (ze_lmul ((Int64.ofNat_mul (10 ^ k) 10).symm : _ = Int64.ofNat (10 ^ (k + 1))))
  replace b := zz_fw b T9 (rfl : zz_ent zP_88 38 = (0, za_lstore 4 40)) (ze_lstore (lv' := [(0, _), (1, _), (2, _)]) rfl)
  replace b := zz_fw b T9 (rfl : zz_ent zP_88 40 = (0, za_goto 21)) (ze_goto)
  replace b := zz_fl (lv' := [(0, .ref 171), (1, .int p0), (2, .long (Int64.ofNat n)), (4, .long (Int64.ofNat (10 ^ (k + 1))))]) b (zz_mc (List.mem_cons_of_mem _ List.mem_cons_self) (zz_mc (List.mem_cons_of_mem _ (List.mem_cons_of_mem _ List.mem_cons_self)) (zz_mc (List.mem_cons_of_mem _ (List.mem_cons_of_mem _ (List.mem_cons_of_mem _ List.mem_cons_self))) (zz_mc List.mem_cons_self zz_mn))))
  exact b
theorem zsn_b {l : Launch} {D : va_G} {cy : Nat → ClassId} {z0 : Nat} {sp : Nat → Nat} {G : State → Prop} {d : Nat} (hG : zz_GF z0 G) (hP : ∀ U, G U → zz_GD zS zS2 zLg z0 sp U) {w : zz_W} {p0 : Int32} {n k : Nat} (hn : n ≤ 2147483648) (hk : k < 10) (h : n / 10 ^ k ≤ 9) : zz_B l zTs D zcl zFK cy z0 sp (zTys cy) G "ToolMillModel" "showNumber" 6 prog_14_method_232_code (d + 1) (21, [(0, .ref 171), (1, .int p0), (2, .long (Int64.ofNat n)), (4, .long (Int64.ofNat (10 ^ k)))], [], w) (43, [(0, .ref 171), (1, .int p0), (2, .long (Int64.ofNat n)), (4, .long (Int64.ofNat (10 ^ k)))], [], w) := by
  have T9 := zt_88 (l := l) (D := D) (cy := cy) (z0 := z0) (sp := sp) (G := G) (d := (d + 1)) zz_k0_KS hG hP
  have TK := fun (K : zz_K) (h : zz_KS l D zcl zFK cy z0 sp (zTys cy) G zYN (fun y => Cond.code (zYN y) (zCN y) (zMQ y) (zRT y) :: zTs) (d + 1) K) => zt_88 h hG hP
  have b := zz_B_rf (l := l) (Ts := zTs) (D := D) (cl := zcl) (fk := zFK) (cy := cy) (z0 := z0) (sp := sp) (tys := zTys cy) (G := G) (own := "ToolMillModel") (mn := "showNumber") (nL := 6) (cc := prog_14_method_232_code) (d := (d + 1)) ((21, [(0, .ref 171), (1, .int p0), (2, .long (Int64.ofNat n)), (4, .long (Int64.ofNat (10 ^ k)))], [], w) : zz_F)
  replace b := zz_fw b T9 (rfl : zz_ent zP_88 21 = (0, za_lload 2 22)) (ze_lload rfl)
  replace b := zz_fw b T9 (rfl : zz_ent zP_88 22 = (0, za_lload 4 24)) (ze_lload rfl)
  replace b := zz_fw b T9 (rfl : zz_ent zP_88 24 = (0, za_ldiv 25)) (ze_ldiv (zp10n k (by omega)) (Int64.ofNat_div (by omega) (by have := zp10 k (by omega); omega)).symm)
  replace b := zz_fw b T9 (rfl : zz_ent zP_88 25 = (0, za_const (.long (Int64.ofNat 9)) 28)) (ze_const)
  replace b := zz_fw b T9 (rfl : zz_ent zP_88 28 = (0, za_lcmp 29)) (ze_lcmp rfl)
  replace b := zz_fw b T9 (rfl : zz_ent zP_88 29 = (0, za_if_le 43 32)) (ze_if_le_t ((zlc_gt (by have : n / 10 ^ k ≤ n := Nat.div_le_self _ _; omega) (by decide)).mpr h))
  replace b := zz_fl (lv' := [(0, .ref 171), (1, .int p0), (2, .long (Int64.ofNat n)), (4, .long (Int64.ofNat (10 ^ k)))]) b (zz_mc List.mem_cons_self (zz_mc (List.mem_cons_of_mem _ List.mem_cons_self) (zz_mc (List.mem_cons_of_mem _ (List.mem_cons_of_mem _ List.mem_cons_self)) (zz_mc (List.mem_cons_of_mem _ (List.mem_cons_of_mem _ (List.mem_cons_of_mem _ List.mem_cons_self))) zz_mn))))
  exact b
theorem zsn_d {l : Launch} {D : va_G} {cy : Nat → ClassId} {z0 : Nat} {sp : Nat → Nat} {G : State → Prop} {d : Nat} (hG : zz_GF z0 G) (hP : ∀ U, G U → zz_GD zS zS2 zLg z0 sp U) {T : List Nat} {w0 w : zz_W} (hQ : zQ T w0 w) {p0 : Int32} {n k : Nat} (hn : n ≤ 2147483648) (hk : k < 10) (hT : T.length < 64) {u : Nat} (hu : Int64.ofNat (10 ^ k) / Int64.ofNat 10 = Int64.ofNat u) : ∃ w', zz_B l zTs D zcl zFK cy z0 sp (zTys cy) G "ToolMillModel" "showNumber" 6 prog_14_method_232_code (d + 1) (43, [(0, .ref 171), (1, .int p0), (2, .long (Int64.ofNat n)), (4, .long (Int64.ofNat (10 ^ k)))], [], w) (43, [(0, .ref 171), (1, .int p0), (2, .long (Int64.ofNat n)), (4, .long (Int64.ofNat u))], [], w') ∧ zQ (T ++ [48 + n / 10 ^ k % 10]) w0 w' := by
  have T9 := zt_88 (l := l) (D := D) (cy := cy) (z0 := z0) (sp := sp) (G := G) (d := (d + 1)) zz_k0_KS hG hP
  have TK := fun (K : zz_K) (h : zz_KS l D zcl zFK cy z0 sp (zTys cy) G zYN (fun y => Cond.code (zYN y) (zCN y) (zMQ y) (zRT y) :: zTs) (d + 1) K) => zt_88 h hG hP
  have b := zz_B_rf (l := l) (Ts := zTs) (D := D) (cl := zcl) (fk := zFK) (cy := cy) (z0 := z0) (sp := sp) (tys := zTys cy) (G := G) (own := "ToolMillModel") (mn := "showNumber") (nL := 6) (cc := prog_14_method_232_code) (d := (d + 1)) ((43, [(0, .ref 171), (1, .int p0), (2, .long (Int64.ofNat n)), (4, .long (Int64.ofNat (10 ^ k)))], [], w) : zz_F)
  replace b := zz_fw b T9 (rfl : zz_ent zP_88 43 = (0, za_lload 4 45)) (ze_lload rfl)
  replace b := zz_fw b T9 (rfl : zz_ent zP_88 45 = (0, za_const (.long (Int64.ofNat 0)) 46)) (ze_const)
  replace b := zz_fw b T9 (rfl : zz_ent zP_88 46 = (0, za_lcmp 47)) (ze_lcmp rfl)
  replace b := zz_fw b T9 (rfl : zz_ent zP_88 47 = (0, za_if_le 77 50)) (ze_if_le_f (fun q => absurd ((zlc_gt (by have := zp10 k (by omega); omega) (by decide)).mp q) (by have := Nat.pow_pos (n := k) (show 0 < 10 by decide); omega)))
  replace b := zz_fw b T9 (rfl : zz_ent zP_88 50 = (0, za_aload 0 51)) (ze_aload rfl)
  replace b := zz_fw b T9 (rfl : zz_ent zP_88 51 = (0, za_const (.int (Int32.ofNat 48)) 53)) (ze_const)
  replace b := zz_fw b T9 (rfl : zz_ent zP_88 53 = (0, za_lload 2 54)) (ze_lload rfl)
  replace b := zz_fw b T9 (rfl : zz_ent zP_88 54 = (0, za_lload 4 56)) (ze_lload rfl)
  replace b := zz_fw b T9 (rfl : zz_ent zP_88 56 = (0, za_ldiv 57)) (ze_ldiv (zp10n k (by omega)) (Int64.ofNat_div (by omega) (by have := zp10 k (by omega); omega)).symm)
  replace b := zz_fw b T9 (rfl : zz_ent zP_88 57 = (0, za_const (.long (Int64.ofNat 10)) 60)) (ze_const)
  replace b := zz_fw b T9 (rfl : zz_ent zP_88 60 = (0, za_lrem 61)) (ze_lrem (by decide) (zl_lr (by have : n / 10 ^ k ≤ n := Nat.div_le_self _ _; omega)))
  replace b := zz_fw b T9 (rfl : zz_ent zP_88 61 = (0, za_l2i 62)) (ze_l2i Int64.toInt32_ofNat')
  replace b := zz_fw b T9 (rfl : zz_ent zP_88 62 = (0, za_iadd 63)) (ze_iadd (Int32.ofNat_add 48 _).symm)
  obtain ⟨w1, hM1, hQ1⟩ := zM_show (d := d) (l := l) (D := D) (cy := cy) (sp := sp) hG hP hQ (x := 48 + n / 10 ^ k % 10) hT (by omega)
  replace b := zz_fVv b TK (rfl : zz_ent zP_88 63 = (0, za_callV 0 86 1 66)) hM1 rfl rfl (zQ_ic hQ) (zz_lb rfl)
  replace b := zz_fw b T9 (rfl : zz_ent zP_88 66 = (0, za_lload 4 68)) (ze_lload rfl)
  replace b := zz_fw b T9 (rfl : zz_ent zP_88 68 = (0, za_const (.long (Int64.ofNat 10)) 71)) (ze_const)
  replace b := zz_fw b T9 (rfl : zz_ent zP_88 71 = (0, za_ldiv 72)) (ze_ldiv (by decide) hu)
  replace b := zz_fw b T9 (rfl : zz_ent zP_88 72 = (0, za_lstore 4 74)) (ze_lstore (lv' := [(0, _), (1, _), (2, _)]) rfl)
  replace b := zz_fw b T9 (rfl : zz_ent zP_88 74 = (0, za_goto 43)) (ze_goto)
  replace b := zz_fl (lv' := [(0, .ref 171), (1, .int p0), (2, .long (Int64.ofNat n)), (4, .long (Int64.ofNat u))]) b (zz_mc (List.mem_cons_of_mem _ List.mem_cons_self) (zz_mc (List.mem_cons_of_mem _ (List.mem_cons_of_mem _ List.mem_cons_self)) (zz_mc (List.mem_cons_of_mem _ (List.mem_cons_of_mem _ (List.mem_cons_of_mem _ List.mem_cons_self))) (zz_mc List.mem_cons_self zz_mn))))
  exact ⟨_, b, hQ1⟩
theorem zsn_e {l : Launch} {D : va_G} {cy : Nat → ClassId} {z0 : Nat} {sp : Nat → Nat} {G : State → Prop} {d : Nat} (hG : zz_GF z0 G) (hP : ∀ U, G U → zz_GD zS zS2 zLg z0 sp U) {w : zz_W} {p0 : Int32} {n : Nat} : zz_B l zTs D zcl zFK cy z0 sp (zTys cy) G "ToolMillModel" "showNumber" 6 prog_14_method_232_code (d + 1) (43, [(0, .ref 171), (1, .int p0), (2, .long (Int64.ofNat n)), (4, .long (Int64.ofNat 0))], [], w) (77, [(0, .ref 171), (1, .int p0), (2, .long (Int64.ofNat n))], [], w) := by
  have T9 := zt_88 (l := l) (D := D) (cy := cy) (z0 := z0) (sp := sp) (G := G) (d := (d + 1)) zz_k0_KS hG hP
  have TK := fun (K : zz_K) (h : zz_KS l D zcl zFK cy z0 sp (zTys cy) G zYN (fun y => Cond.code (zYN y) (zCN y) (zMQ y) (zRT y) :: zTs) (d + 1) K) => zt_88 h hG hP
  have b := zz_B_rf (l := l) (Ts := zTs) (D := D) (cl := zcl) (fk := zFK) (cy := cy) (z0 := z0) (sp := sp) (tys := zTys cy) (G := G) (own := "ToolMillModel") (mn := "showNumber") (nL := 6) (cc := prog_14_method_232_code) (d := (d + 1)) ((43, [(0, .ref 171), (1, .int p0), (2, .long (Int64.ofNat n)), (4, .long (Int64.ofNat 0))], [], w) : zz_F)
  replace b := zz_fw b T9 (rfl : zz_ent zP_88 43 = (0, za_lload 4 45)) (ze_lload rfl)
  replace b := zz_fw b T9 (rfl : zz_ent zP_88 45 = (0, za_const (.long (Int64.ofNat 0)) 46)) (ze_const)
  replace b := zz_fw b T9 (rfl : zz_ent zP_88 46 = (0, za_lcmp 47)) (ze_lcmp rfl)
  replace b := zz_fw b T9 (rfl : zz_ent zP_88 47 = (0, za_if_le 77 50)) (ze_if_le_t (by decide))
  replace b := zz_fl (lv' := [(0, .ref 171), (1, .int p0), (2, .long (Int64.ofNat n))]) b (zz_mc List.mem_cons_self (zz_mc (List.mem_cons_of_mem _ List.mem_cons_self) (zz_mc (List.mem_cons_of_mem _ (List.mem_cons_of_mem _ List.mem_cons_self)) zz_mn)))
  exact b
theorem zsn_p {l : Launch} {D : va_G} {cy : Nat → ClassId} {z0 : Nat} {sp : Nat → Nat} {G : State → Prop} {d : Nat} (hG : zz_GF z0 G) (hP : ∀ U, G U → zz_GD zS zS2 zLg z0 sp U) {w : zz_W} {p0 : Int32} (h : ¬ p0 < 0) : zz_B l zTs D zcl zFK cy z0 sp (zTys cy) G "ToolMillModel" "showNumber" 6 prog_14_method_232_code (d + 1) (0, [(0, .ref 171), (1, .int p0)], [], w) (21, [(0, .ref 171), (1, .int p0), (2, .long (Int64.ofNat p0.toInt.natAbs)), (4, .long (Int64.ofNat 1))], [], w) := by
  have T9 := zt_88 (l := l) (D := D) (cy := cy) (z0 := z0) (sp := sp) (G := G) (d := (d + 1)) zz_k0_KS hG hP
  have TK := fun (K : zz_K) (h : zz_KS l D zcl zFK cy z0 sp (zTys cy) G zYN (fun y => Cond.code (zYN y) (zCN y) (zMQ y) (zRT y) :: zTs) (d + 1) K) => zt_88 h hG hP
  have b := zz_B_rf (l := l) (Ts := zTs) (D := D) (cl := zcl) (fk := zFK) (cy := cy) (z0 := z0) (sp := sp) (tys := zTys cy) (G := G) (own := "ToolMillModel") (mn := "showNumber") (nL := 6) (cc := prog_14_method_232_code) (d := (d + 1)) ((0, [(0, .ref 171), (1, .int p0)], [], w) : zz_F)
  replace b := zz_fw b T9 (rfl : zz_ent zP_88 0 = (0, za_iload 1 1)) (ze_iload rfl)
  replace b := zz_fw b T9 (rfl : zz_ent zP_88 1 = (0, za_i2l 2)) (ze_i2l (zl_lp h))
  replace b := zz_fw b T9 (rfl : zz_ent zP_88 2 = (0, za_lstore 2 3)) (ze_lstore (lv' := [(0, _), (1, _)]) rfl)
  replace b := zz_fw b T9 (rfl : zz_ent zP_88 3 = (0, za_lload 2 4)) (ze_lload rfl)
  replace b := zz_fw b T9 (rfl : zz_ent zP_88 4 = (0, za_const (.long (Int64.ofNat 0)) 5)) (ze_const)
  replace b := zz_fw b T9 (rfl : zz_ent zP_88 5 = (0, za_lcmp 6)) (ze_lcmp rfl)
  replace b := zz_fw b T9 (rfl : zz_ent zP_88 6 = (0, za_if_ge 18 9)) (ze_if_ge_t (zlc_n0 (by have := zabs p0; omega)))
  replace b := zz_fw b T9 (rfl : zz_ent zP_88 18 = (0, za_const (.long (Int64.ofNat 1)) 19)) (ze_const)
  replace b := zz_fw b T9 (rfl : zz_ent zP_88 19 = (0, za_lstore 4 21)) (ze_lstore (lv' := [(2, _), (0, _), (1, _)]) rfl)
  replace b := zz_fl (lv' := [(0, .ref 171), (1, .int p0), (2, .long (Int64.ofNat p0.toInt.natAbs)), (4, .long (Int64.ofNat 1))]) b (zz_mc (List.mem_cons_of_mem _ (List.mem_cons_of_mem _ List.mem_cons_self)) (zz_mc (List.mem_cons_of_mem _ (List.mem_cons_of_mem _ (List.mem_cons_of_mem _ List.mem_cons_self))) (zz_mc (List.mem_cons_of_mem _ List.mem_cons_self) (zz_mc List.mem_cons_self zz_mn))))
  exact b
theorem zsn_n {l : Launch} {D : va_G} {cy : Nat → ClassId} {z0 : Nat} {sp : Nat → Nat} {G : State → Prop} {d : Nat} (hG : zz_GF z0 G) (hP : ∀ U, G U → zz_GD zS zS2 zLg z0 sp U) {T : List Nat} {w0 w : zz_W} (hQ : zQ T w0 w) {p0 : Int32} (h : p0 < 0) (hT : T.length < 64) : ∃ w', zz_B l zTs D zcl zFK cy z0 sp (zTys cy) G "ToolMillModel" "showNumber" 6 prog_14_method_232_code (d + 1) (0, [(0, .ref 171), (1, .int p0)], [], w) (21, [(0, .ref 171), (1, .int p0), (2, .long (Int64.ofNat p0.toInt.natAbs)), (4, .long (Int64.ofNat 1))], [], w') ∧ zQ (T ++ [45]) w0 w' := by
  have T9 := zt_88 (l := l) (D := D) (cy := cy) (z0 := z0) (sp := sp) (G := G) (d := (d + 1)) zz_k0_KS hG hP
  have TK := fun (K : zz_K) (h : zz_KS l D zcl zFK cy z0 sp (zTys cy) G zYN (fun y => Cond.code (zYN y) (zCN y) (zMQ y) (zRT y) :: zTs) (d + 1) K) => zt_88 h hG hP
  have b := zz_B_rf (l := l) (Ts := zTs) (D := D) (cl := zcl) (fk := zFK) (cy := cy) (z0 := z0) (sp := sp) (tys := zTys cy) (G := G) (own := "ToolMillModel") (mn := "showNumber") (nL := 6) (cc := prog_14_method_232_code) (d := (d + 1)) ((0, [(0, .ref 171), (1, .int p0)], [], w) : zz_F)
  replace b := zz_fw b T9 (rfl : zz_ent zP_88 0 = (0, za_iload 1 1)) (ze_iload rfl)
  replace b := zz_fw b T9 (rfl : zz_ent zP_88 1 = (0, za_i2l 2)) (ze_i2l rfl)
  replace b := zz_fw b T9 (rfl : zz_ent zP_88 2 = (0, za_lstore 2 3)) (ze_lstore (lv' := [(0, _), (1, _)]) rfl)
  replace b := zz_fw b T9 (rfl : zz_ent zP_88 3 = (0, za_lload 2 4)) (ze_lload rfl)
  replace b := zz_fw b T9 (rfl : zz_ent zP_88 4 = (0, za_const (.long (Int64.ofNat 0)) 5)) (ze_const)
  replace b := zz_fw b T9 (rfl : zz_ent zP_88 5 = (0, za_lcmp 6)) (ze_lcmp rfl)
  replace b := zz_fw b T9 (rfl : zz_ent zP_88 6 = (0, za_if_ge 18 9)) (ze_if_ge_f (fun q => absurd (zlc_ge.mp q) (not_not_intro h)))
  replace b := zz_fw b T9 (rfl : zz_ent zP_88 9 = (0, za_aload 0 10)) (ze_aload rfl)
  replace b := zz_fw b T9 (rfl : zz_ent zP_88 10 = (0, za_const (.int (Int32.ofNat 45)) 12)) (ze_const)
  obtain ⟨w1, hM1, hQ1⟩ := zM_show (d := d) (l := l) (D := D) (cy := cy) (sp := sp) hG hP hQ (x := 45) hT (by decide)
  replace b := zz_fVv b TK (rfl : zz_ent zP_88 12 = (0, za_callV 0 86 1 15)) hM1 rfl rfl (zQ_ic hQ) (zz_lb rfl)
  replace b := zz_fw b T9 (rfl : zz_ent zP_88 15 = (0, za_lload 2 16)) (ze_lload rfl)
  replace b := zz_fw b T9 (rfl : zz_ent zP_88 16 = (0, za_lneg 17)) (ze_lneg (zl_ln h))
  replace b := zz_fw b T9 (rfl : zz_ent zP_88 17 = (0, za_lstore 2 18)) (ze_lstore (lv' := [(0, _), (1, _)]) rfl)
  replace b := zz_fw b T9 (rfl : zz_ent zP_88 18 = (0, za_const (.long (Int64.ofNat 1)) 19)) (ze_const)
  replace b := zz_fw b T9 (rfl : zz_ent zP_88 19 = (0, za_lstore 4 21)) (ze_lstore (lv' := [(2, _), (0, _), (1, _)]) rfl)
  replace b := zz_fl (lv' := [(0, .ref 171), (1, .int p0), (2, .long (Int64.ofNat p0.toInt.natAbs)), (4, .long (Int64.ofNat 1))]) b (zz_mc (List.mem_cons_of_mem _ (List.mem_cons_of_mem _ List.mem_cons_self)) (zz_mc (List.mem_cons_of_mem _ (List.mem_cons_of_mem _ (List.mem_cons_of_mem _ List.mem_cons_self))) (zz_mc (List.mem_cons_of_mem _ List.mem_cons_self) (zz_mc List.mem_cons_self zz_mn))))
  exact ⟨_, b, hQ1⟩
theorem zln_hi {n : Nat} (h : n ≤ 2147483648) : n / 10 ^ (zln n - 1) ≤ 9 := by unfold zln; (repeat' split) <;> (simp only [Nat.reduceSub, Nat.reducePow]; omega)
theorem zln_lo {n k : Nat} (h : n ≤ 2147483648) (hk : k < zln n - 1) : 9 < n / 10 ^ k := by
  have h10 := zln_le n
  have e : 10 ^ (k + 1) ≤ n := by
    have h1 : 10 ^ (k + 1) ≤ 10 ^ (zln n - 1) := Nat.pow_le_pow_right (by decide) (by omega)
    have h2 : 10 ^ (zln n - 1) ≤ n := by
      have hz : 2 ≤ zln n := by omega
      unfold zln at hz ⊢
      (repeat' split at hz) <;> (try omega) <;> (simp only [*, if_true, if_false, Nat.reduceSub, Nat.reducePow]; omega)
    omega
  have h3 : 0 < 10 ^ k := Nat.pow_pos (by decide)
  rw [Nat.pow_succ] at e
  have := (Nat.le_div_iff_mul_le h3).mpr (by rw [Nat.mul_comm]; exact e)
  omega
theorem zsn_u {l : Launch} {D : va_G} {cy : Nat → ClassId} {z0 : Nat} {sp : Nat → Nat} {G : State → Prop} {d : Nat} (hG : zz_GF z0 G) (hP : ∀ U, G U → zz_GD zS zS2 zLg z0 sp U) {w : zz_W} {p0 : Int32} {n : Nat} (hn : n ≤ 2147483648) : ∀ k, k ≤ zln n - 1 → zz_B l zTs D zcl zFK cy z0 sp (zTys cy) G "ToolMillModel" "showNumber" 6 prog_14_method_232_code (d + 1) (21, [(0, .ref 171), (1, .int p0), (2, .long (Int64.ofNat n)), (4, .long (Int64.ofNat (10 ^ 0)))], [], w) (21, [(0, .ref 171), (1, .int p0), (2, .long (Int64.ofNat n)), (4, .long (Int64.ofNat (10 ^ k)))], [], w) := by
  intro k
  induction k with
  | zero => exact fun _ => zz_B_rf _
  | succ k ih =>
    intro h
    have h10 := zln_le n
    exact zz_B_tr (ih (by omega)) (zsn_a hG hP hn (by omega) (zln_lo hn (by omega)))
theorem zsn_g {l : Launch} {D : va_G} {cy : Nat → ClassId} {z0 : Nat} {sp : Nat → Nat} {G : State → Prop} {d : Nat} (hG : zz_GF z0 G) (hP : ∀ U, G U → zz_GD zS zS2 zLg z0 sp U) {T : List Nat} {w0 w : zz_W} (hQ : zQ T w0 w) {p0 : Int32} {n : Nat} (hn : n ≤ 2147483648) (hT : T.length + zln n ≤ 64) : ∀ j, j < zln n → ∃ w', zz_B l zTs D zcl zFK cy z0 sp (zTys cy) G "ToolMillModel" "showNumber" 6 prog_14_method_232_code (d + 1) (43, [(0, .ref 171), (1, .int p0), (2, .long (Int64.ofNat n)), (4, .long (Int64.ofNat (10 ^ (zln n - 1))))], [], w) (43, [(0, .ref 171), (1, .int p0), (2, .long (Int64.ofNat n)), (4, .long (Int64.ofNat (10 ^ (zln n - 1 - j))))], [], w') ∧ zQ (T ++ (zdg n).take j) w0 w' := by
  intro j
  induction j with
  | zero => exact fun _ => ⟨w, zz_B_rf _, by rw [List.take_zero, List.append_nil]; exact hQ⟩
  | succ j ih =>
    intro h
    have h10 := zln_le n
    obtain ⟨w1, b1, hQ1⟩ := ih (by omega)
    obtain ⟨w2, b2, hQ2⟩ := zsn_d (d := d) (l := l) (D := D) (cy := cy) (sp := sp) hG hP hQ1 (p0 := p0) hn (k := zln n - 1 - j) (by omega) (by rw [List.length_append, List.length_take]; omega) (u := 10 ^ (zln n - 1 - (j + 1))) (by
      rw [← Int64.ofNat_div (by have := zp10 (zln n - 1 - j) (by omega); omega) (by decide), show zln n - 1 - j = (zln n - 1 - (j + 1)) + 1 by omega, Nat.pow_succ, Nat.mul_div_cancel _ (by decide)])
    refine ⟨w2, zz_B_tr b1 b2, ?_⟩
    rw [List.append_assoc, ← zdg_at (by omega : j < zln n), show (zdg n).take j ++ [(zdg n).getD j 0] = (zdg n).take (j + 1) from ?_] at hQ2
    · exact hQ2
    · rw [List.take_succ, List.getD_eq_getElem?_getD, List.getElem?_eq_getElem (by rw [zdg_len]; omega)]
      rfl
theorem zsn_t {l : Launch} {D : va_G} {cy : Nat → ClassId} {z0 : Nat} {sp : Nat → Nat} {G : State → Prop} {d : Nat} (hG : zz_GF z0 G) (hP : ∀ U, G U → zz_GD zS zS2 zLg z0 sp U) {T : List Nat} {w0 w : zz_W} (hQ : zQ T w0 w) {p0 : Int32} {n : Nat} (hn : n ≤ 2147483648) (hT : T.length + zln n ≤ 64) : ∃ w', zz_B l zTs D zcl zFK cy z0 sp (zTys cy) G "ToolMillModel" "showNumber" 6 prog_14_method_232_code (d + 1) (21, [(0, .ref 171), (1, .int p0), (2, .long (Int64.ofNat n)), (4, .long (Int64.ofNat (10 ^ 0)))], [], w) (77, [(0, .ref 171), (1, .int p0), (2, .long (Int64.ofNat n))], [], w') ∧ zQ (T ++ zdg n) w0 w' := by
  have h10 := zln_le n
  have h1 := zln_pos n
  have b1 := zsn_u (d := d) (l := l) (D := D) (cy := cy) (sp := sp) (w := w) (p0 := p0) hG hP hn (zln n - 1) (Nat.le_refl _)
  have b2 := zsn_b (d := d) (l := l) (D := D) (cy := cy) (sp := sp) (w := w) (p0 := p0) hG hP hn (k := zln n - 1) (by omega) (zln_hi hn)
  obtain ⟨w3, b3, hQ3⟩ := zsn_g (d := d) (l := l) (D := D) (cy := cy) (sp := sp) hG hP hQ (p0 := p0) hn hT (zln n - 1) (by omega)
  rw [show zln n - 1 - (zln n - 1) = 0 by omega] at b3
  obtain ⟨w4, b4, hQ4⟩ := zsn_d (d := d) (l := l) (D := D) (cy := cy) (sp := sp) hG hP hQ3 (p0 := p0) hn (k := 0) (by omega) (by rw [List.length_append, List.length_take]; omega) (u := 0) (by decide)
  have b5 := zsn_e (d := d) (l := l) (D := D) (cy := cy) (sp := sp) (w := w4) (p0 := p0) (n := n) hG hP
  refine ⟨w4, zz_B_tr (zz_B_tr (zz_B_tr (zz_B_tr b1 b2) b3) b4) b5, ?_⟩
  have e : (zdg n).take (zln n - 1) ++ [48 + n / 10 ^ 0 % 10] = zdg n := by
    have h2 : 48 + n / 10 ^ 0 % 10 = (zdg n).getD (zln n - 1) 0 := by rw [zdg_at (by omega), show zln n - 1 - (zln n - 1) = 0 by omega]
    rw [h2, show (zdg n).take (zln n - 1) ++ [(zdg n).getD (zln n - 1) 0] = (zdg n).take (zln n - 1 + 1) from ?_, show zln n - 1 + 1 = (zdg n).length by rw [zdg_len]; omega, List.take_length]
    rw [List.take_succ, List.getD_eq_getElem?_getD, List.getElem?_eq_getElem (by rw [zdg_len]; omega)]
    rfl
  rw [List.append_assoc, e] at hQ4
  exact hQ4
theorem zM_num {l : Launch} {D : va_G} {cy : Nat → ClassId} {z0 : Nat} {sp : Nat → Nat} {G : State → Prop} {d : Nat} (hG : zz_GF z0 G) (hP : ∀ U, G U → zz_GD zS zS2 zLg z0 sp U) {T : List Nat} {w0 w : zz_W} (hQ : zQ T w0 w) {p0 : Int32} (hT : T.length + (zdc p0).length ≤ 64) : ∃ w', zz_M l zTs D zcl zFK cy z0 sp (zTys cy) G zYN zCN zMQ zRT (d + 2) 88 [.ref 171, .int p0] w [] w' ∧ zQ (T ++ zdc p0) w0 w' := by
  have hn := zabs p0
  by_cases h : p0 < 0
  · rw [zdc_n h] at hT ⊢
    rw [List.length_cons, zdg_len] at hT
    obtain ⟨w1, b1, hQ1⟩ := zsn_n (d := d) (l := l) (D := D) (cy := cy) (sp := sp) hG hP hQ h (by omega)
    obtain ⟨w2, b2, hQ2⟩ := zsn_t (d := d) (l := l) (D := D) (cy := cy) (sp := sp) hG hP hQ1 (p0 := p0) hn (by rw [List.length_append, List.length_singleton]; omega)
    refine ⟨w2, zz_M_B (yn := zYN) (cn := zCN) (ml := zMQ) (rt := zRT) (y := 88) (as := [.ref 171, .int p0]) rfl rfl rfl rfl rfl (by decide +kernel) (zz_lb rfl) (zz_lb rfl) (zz_end_v (zr_88.1 77 rfl).1) (zz_B_tr b1 b2), ?_⟩
    rw [List.append_assoc] at hQ2
    exact hQ2
  · rw [zdc_p h] at hT ⊢
    rw [zdg_len] at hT
    have b1 := zsn_p (d := d) (l := l) (D := D) (cy := cy) (sp := sp) (w := w) hG hP h
    obtain ⟨w2, b2, hQ2⟩ := zsn_t (d := d) (l := l) (D := D) (cy := cy) (sp := sp) hG hP hQ (p0 := p0) hn hT
    exact ⟨w2, zz_M_B (yn := zYN) (cn := zCN) (ml := zMQ) (rt := zRT) (y := 88) (as := [.ref 171, .int p0]) rfl rfl rfl rfl rfl (by decide +kernel) (zz_lb rfl) (zz_lb rfl) (zz_end_v (zr_88.1 77 rfl).1) (zz_B_tr b1 b2), hQ2⟩
