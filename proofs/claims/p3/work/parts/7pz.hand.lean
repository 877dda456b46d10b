/-! contracts by hand: an index is looked at -/
theorem zL_chkP {l : Launch} {D : va_G} {cy : Nat → ClassId} {z0 : Nat} {sp : Nat → Nat} {G : State → Prop} {d : Nat} (hG : zz_GF z0 G) (hP : ∀ U, G U → zz_GD zS zS2 zLg z0 sp U) {w : zz_W} {p0 p1 : Int32} (h1 : ¬ p0 < 0) (h2 : p0 < p1) : zz_M l zTs D zcl zFK cy z0 sp (zTys cy) G zYN zCN zMQ zRT (d + 1) 355 [.int p0, .int p1, .retAddr 0] w [.int p0] w := by
  have T : zz_TO l zTs D zcl zFK cy z0 sp (zTys cy) G (zYN 355).cls (zYN 355).name (zMQ 355) (zCN 355) d zz_k0 (zP 355) := zP_s (l := l) (D := D) (cy := cy) (z0 := z0) (sp := sp) (G := G) (d := d) zz_k0_KS hG hP 355 (by decide) (Or.inl (by decide))
  have b := zz_B_rf (l := l) (Ts := zTs) (D := D) (cl := zcl) (fk := zFK) (cy := cy) (z0 := z0) (sp := sp) (tys := zTys cy) (G := G) (own := (zYN 355).cls) (mn := (zYN 355).name) (nL := zMQ 355) (cc := zCN 355) (d := d) ((0, [(0, .int p0), (1, .int p1), (2, .retAddr 0)], [], w) : zz_F)
  replace b := zz_fw b T (rfl : zz_ent (zP 355) 0 = (0, za_iload 0 1)) (ze_iload rfl)
  replace b := zz_fw b T (rfl : zz_ent (zP 355) 1 = (0, za_if_lt 9 4)) (ze_if_lt_f h1)
  replace b := zz_fw b T (rfl : zz_ent (zP 355) 4 = (0, za_iload 0 5)) (ze_iload rfl)
  replace b := zz_fw b T (rfl : zz_ent (zP 355) 5 = (0, za_iload 1 6)) (ze_iload rfl)
  replace b := zz_fw b T (rfl : zz_ent (zP 355) 6 = (0, za_icmp_lt 16 9)) (ze_icmp_lt_t h2)
  replace b := zz_fw b T (rfl : zz_ent (zP 355) 16 = (0, za_iload 0 17)) (ze_iload rfl)
  exact zz_M_B (yn := zYN) (cn := zCN) (ml := zMQ) (rt := zRT) (y := 355) (as := [.int p0, .int p1, .retAddr 0]) rfl rfl rfl rfl rfl (zYN_pl 355) (Nat.le_of_ble_eq_true rfl) (Nat.le_of_ble_eq_true rfl) (by rw [((zP_r 355 (by decide)).2.1 17 rfl).2]; exact zz_end_i ((zP_r 355 (by decide)).2.1 17 rfl).1) b
theorem zL_chk {l : Launch} {D : va_G} {cy : Nat → ClassId} {z0 : Nat} {sp : Nat → Nat} {G : State → Prop} {d : Nat} (hG : zz_GF z0 G) (hP : ∀ U, G U → zz_GD zS zS2 zLg z0 sp U) {w : zz_W} {p0 p1 : Int32} (h1 : ¬ p0 < 0) (h2 : p0 < p1) : zz_M l zTs D zcl zFK cy z0 sp (zTys cy) G zYN zCN zMQ zRT (d + 2) 225 [.int p0, .int p1] w [] w := by
  have T : zz_TO l zTs D zcl zFK cy z0 sp (zTys cy) G (zYN 225).cls (zYN 225).name (zMQ 225) (zCN 225) (d + 1) zz_k0 (zP 225) := zP_s (l := l) (D := D) (cy := cy) (z0 := z0) (sp := sp) (G := G) (d := (d + 1)) zz_k0_KS hG hP 225 (by decide) (Or.inl (by decide))
  have TK := fun (K : zz_K) (h : zz_KS l D zcl zFK cy z0 sp (zTys cy) G zYN (fun y => Cond.code (zYN y) (zCN y) (zMQ y) (zRT y) :: zTs) (d + 1) K) => (zP_s h hG hP 225 (by decide) (Or.inl (by decide)) : zz_TO l zTs D zcl zFK cy z0 sp (zTys cy) G (zYN 225).cls (zYN 225).name (zMQ 225) (zCN 225) (d + 1) K (zP 225))
  have b := zz_B_rf (l := l) (Ts := zTs) (D := D) (cl := zcl) (fk := zFK) (cy := cy) (z0 := z0) (sp := sp) (tys := zTys cy) (G := G) (own := (zYN 225).cls) (mn := (zYN 225).name) (nL := zMQ 225) (cc := zCN 225) (d := (d + 1)) ((0, [(0, .int p0), (1, .int p1)], [], w) : zz_F)
  replace b := zz_fw b T (rfl : zz_ent (zP 225) 0 = (0, za_iload 0 1)) (ze_iload rfl)
  replace b := zz_fw b T (rfl : zz_ent (zP 225) 1 = (0, za_iload 1 2)) (ze_iload rfl)
  replace b := zz_fw b T (rfl : zz_ent (zP 225) 2 = (0, za_const (.retAddr 0) 5)) (ze_const)
  replace b := zz_fSi b TK (rfl : zz_ent (zP 225) 5 = (0, za_callS 355 3 8)) (zL_chkP hG hP h1 h2) rfl rfl (Nat.le_of_ble_eq_true rfl)
  replace b := zz_fw b T (rfl : zz_ent (zP 225) 8 = (0, za_pop 9)) (ze_pop rfl)
  exact zz_M_B (yn := zYN) (cn := zCN) (ml := zMQ) (rt := zRT) (y := 225) (as := [.int p0, .int p1]) rfl rfl rfl rfl rfl (zYN_pl 225) (Nat.le_of_ble_eq_true rfl) (Nat.le_of_ble_eq_true rfl) (by rw [((zP_r 225 (by decide)).1 9 rfl).2]; exact zz_end_v ((zP_r 225 (by decide)).1 9 rfl).1) b
noncomputable def zQ_225 : zk_Ct := ((([], [(0, 0, zl_sym 0), (0, 0, zl_sym 1)], [], [((-2147483648), 2147483647), ((-2147483648), 2147483647)], [((0, 0), [(0, 1, 0)]), ((0, 1), [(0, 0, 1), (1, 1, 0)])]), [], []), [(([], [], [], [((-2147483648), 2147483647), ((-2147483648), 2147483647)], []), [], [])], ([], []), 2)
theorem zCon_225 {l : Launch} {D : va_G} {cy : Nat → ClassId} {z0 : Nat} {sp : Nat → Nat} {G : State → Prop} (hG : zz_GF z0 G) (hP : ∀ U, G U → zz_GD zS zS2 zLg z0 sp U) (hW : zW l D cy z0 sp G) : zk_Con l zTs D zcl zFK cy z0 sp (zTys cy) G zYN zCN zMQ zRT 64 zHT zPT 225 zQ_225 := by
  intro d as w s hd hG0
  obtain ⟨⟨g1, g2, g3, g4, g5, g6⟩, k1, k2⟩ := hG0
  have g2 : zk_st s [(0, 0, zl_sym 0), (0, 0, zl_sym 1)] as := g2
  obtain ⟨p0, r0, e0, q0, t0⟩ := zk_st_int g2 rfl
  obtain ⟨p1, r1, e1, q1, t1⟩ := zk_st_int t0 rfl
  cases r1 with
  | cons _ _ => exact t1.elim
  | nil =>
    subst e1
    subst e0
    have c0 : 0 ≤ zl_ev s ((0, 0), [(0, 1, 0)]) := g5 _ List.mem_cons_self
    have c1 : 0 ≤ zl_ev s ((0, 1), [(0, 0, 1), (1, 1, 0)]) := g5 _ (List.mem_cons_of_mem _ List.mem_cons_self)
    have q0 : p0.toInt = zl_ev s (zl_sym 0) := q0
    have q1 : p1.toInt = zl_ev s (zl_sym 1) := q1
    rw [zl_sym_ev] at q0 q1
    have c0 : 0 ≤ ((0 : Nat) : Int) - ((0 : Nat) : Int) + ((((1 : Nat) : Int) - ((0 : Nat) : Int)) * s 0 + 0) := c0
    have c1 : 0 ≤ ((0 : Nat) : Int) - ((1 : Nat) : Int) + ((((0 : Nat) : Int) - ((1 : Nat) : Int)) * s 0 + ((((1 : Nat) : Int) - ((0 : Nat) : Int)) * s 1 + 0)) := c1
    have h1 : ¬ p0 < 0 := by
      rw [Int32.lt_iff_toInt_lt]
      show ¬ p0.toInt < 0
      omega
    have h2 : p0 < p1 := by
      rw [Int32.lt_iff_toInt_lt]
      omega
    obtain ⟨d', rfl⟩ : ∃ d', d = d' + 2 := ⟨d - 2, by have hd : zl_ev s (zl_con 2) ≤ (d : Int) := hd; rw [zl_con_ev] at hd; omega⟩
    refine ⟨[], w, s, _, List.mem_cons_self, zL_chk hG hP h1 h2, ⟨⟨fun q hq => absurd hq List.not_mem_nil, trivial, fun q hq => absurd hq List.not_mem_nil, g4, fun q hq => absurd hq List.not_mem_nil, zk_J_rf g6⟩, fun q hq => absurd hq List.not_mem_nil, fun q hq => absurd hq List.not_mem_nil⟩, fun _ _ => rfl⟩
