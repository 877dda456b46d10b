section
/-! BETWEEN CALLS, on: arguments, what a run of a method may be, contracts of the class and of the reference as one -/
noncomputable section
theorem zl_dep_ok {s : Nat → Int} {n : Nat} (h : Nat.blt n 1000000 = true) : zl_ev s (zk_dep n) = (n : Int) := by
  unfold zk_dep
  rw [h]
  show zl_ev s (zl_con (n : Int)) = (n : Int)
  exact zl_con_ev s _
theorem zG2_arg {I : zz_W → Prop} {Q : zk_St} {s : Nat → Int} {st : List Value} {w : zz_W} (hw : zk_wq Q.1 = true) (hE : zk_eW zHX Q.1.2.2.2.1.length Q.2.1 = true) (h : zk_G2 zPT I s Q (0, [], st, w)) (x : Int32) :
    ∃ t : Nat → Int, (∀ j, j < Q.1.2.2.2.1.length → t j = s j) ∧ zk_G2 zPT I t ((Q.1.1, Q.1.2.1 ++ [(0, 0, zl_sym Q.1.2.2.2.1.length)], Q.1.2.2.1, Q.1.2.2.2.1 ++ [(-2147483648, 2147483647)], Q.1.2.2.2.2), Q.2.1, Q.2.2) (0, [], st ++ [.int x], w) ∧ t Q.1.2.2.2.1.length = x.toInt := by
  obtain ⟨t, h1, h2⟩ : ∃ t : Nat → Int, (∀ j, j < Q.1.2.2.2.1.length → t j = s j) ∧ t Q.1.2.2.2.1.length = x.toInt := ⟨fun j => if j < Q.1.2.2.2.1.length then s j else x.toInt, fun j hj => if_pos hj, if_neg (Nat.lt_irrefl _)⟩
  refine ⟨t, h1, ?_, h2⟩
  obtain ⟨⟨g1, g2, g3, g4, g5, g6⟩, k1, k2⟩ := h
  obtain ⟨a1, a2, a3, a4⟩ := zk_wf_ok hw h1 g1 g2 g3 g5
  refine ⟨⟨a1, zk_st_app a2 ⟨⟨fun _ => ⟨x, rfl, ?_⟩, fun e => (by cases e), fun e => (by cases e), fun e => (by cases e)⟩, trivial⟩, a3, zl_in_snoc (fun k q hk => ?_) ?_ ?_, a4, g6⟩, zk_eW_eq hE h1 k1, k2⟩
  · show x.toInt = zl_ev t (zl_sym _)
    rw [zl_sym_ev, h2]
  · rw [h1 k (List.getElem?_eq_some_iff.mp hk).1]
    exact g4 k q hk
  · rw [h2]
    exact Int32.le_toInt x
  · rw [h2]
    have := Int32.toInt_lt x
    omega
theorem zG2_ref {I : zz_W → Prop} {Q : zk_St} {s : Nat → Int} {st : List Value} {w : zz_W} (b : Nat) (h : zk_G2 zPT I s Q (0, [], st, w)) : zk_G2 zPT I s ((Q.1.1, Q.1.2.1 ++ [(2, b, ((0, 0), []))], Q.1.2.2.1, Q.1.2.2.2.1, Q.1.2.2.2.2), Q.2.1, Q.2.2) (0, [], st ++ [.ref b], w) := by
  obtain ⟨⟨g1, g2, g3, g4, g5, g6⟩, k1, k2⟩ := h
  exact ⟨⟨g1, zk_st_app g2 ⟨⟨fun e => (by cases e), fun e => (by cases e), fun _ => rfl, fun e => (by cases e)⟩, trivial⟩, g3, g4, g5, g6⟩, k1, k2⟩
/-- other bounds -/
theorem zG2_b {I : zz_W → Prop} {Q : zk_St} {B : List (Int × Int)} {s : Nat → Int} {st : List Value} {w : zz_W} (h : zk_G2 zPT I s Q (0, [], st, w)) (hB : zl_in s B) : zk_G2 zPT I s ((Q.1.1, Q.1.2.1, Q.1.2.2.1, B, Q.1.2.2.2.2), Q.2.1, Q.2.2) (0, [], st, w) := by
  obtain ⟨⟨g1, g2, g3, g4, g5, g6⟩, k1, k2⟩ := h
  exact ⟨⟨g1, g2, g3, hB, g5, g6⟩, k1, k2⟩
/-- without what lies on the stack -/
theorem zG2_drop {I : zz_W → Prop} {L : List (Nat × zk_V)} {T : List zk_V} {F : List ((Nat × Nat) × zk_V)} {B X : List (Int × Int)} {C : List zl_E} {E : List zk_E1} {K : List Nat} {s : Nat → Int} {st : List Value} {w : zz_W} (h : zk_G2 zPT I s ((L, T, F, B ++ X, C), E, K) (0, [], st, w)) : zk_G2 zPT I s ((L, [], F, B, C), E, K) (0, [], [], w) := by
  obtain ⟨⟨g1, g2, g3, g4, g5, g6⟩, k1, k2⟩ := h
  exact ⟨⟨g1, trivial, g3, fun k q hk => g4 k q (by
    show (B ++ X)[k]? = some q
    rw [List.getElem?_append_left (List.getElem?_eq_some_iff.mp hk).1]
    exact hk), g5, g6⟩, k1, k2⟩
theorem zl_in_hd {s : Nat → Int} {q q' : Int × Int} {B : List (Int × Int)} (h : zl_in s (q :: B)) (h1 : q'.1 ≤ s 0) (h2 : s 0 ≤ q'.2) : zl_in s (q' :: B) := by
  intro k r hk
  cases k with
  | zero => cases hk; exact ⟨h1, h2⟩
  | succ k => exact h (k + 1) r hk
/-- a run of the class's method y: it returns an int, or throws one of XS -/
def zRl (l : Launch) (D : va_G) (cy : Nat → ClassId) (z0 : Nat) (sp : Nat → Nat) (G : State → Prop) (d y : Nat) (XS : List (String × Nat)) (as : List Value) (w : zz_W) (rv : List Value) (w' : zz_W) : Prop :=
  (∃ a : Int32, rv = [.int a] ∧ zz_M l zTs D zcl zFK cy z0 sp (zTys cy) G zYN zCN zMQ zRT d y as w rv w') ∨ (rv = [] ∧ ∃ x ∈ XS, zz_MX l zTs D zcl zFK cy z0 sp (zTys cy) G zYN zCN zMQ zRT d y as w x.1 (zz_pu w' (3, x.2, 0, 0) 6))
/-- what a contract q gives of such a run -/
def zPP (Rl : List Value → zz_W → Prop) (as : List Value) (w : zz_W) (q : zk_Ct) : Prop := ∀ s : Nat → Int, zk_G2 zPT (zk_I 64 zHX) s q.1 (0, [], as.take q.1.1.2.1.length, w) → ∃ (rv : List Value) (w' : zz_W) (s' : Nat → Int) (Q : zk_St), Q ∈ q.2.1 ∧ Rl rv w' ∧ zk_G2 zPT (zk_J 64 zHX q.2.2.1 (w, q.2.2.1.2.map (fun p => (p.1, zl_ev s p.2)))) s' Q (0, [], rv, w') ∧ ∀ j, j < q.1.1.2.2.2.1.length → s' j = s j
section ZAR
variable {l : Launch} {D : va_G} {cy : Nat → ClassId} {z0 : Nat} {sp : Nat → Nat} {G : State → Prop}
theorem zPP_px {d y : Nat} {q : zk_Ct} {nx : Bool} {L : List Nat} {XS : List (String × Nat)} {as : List Value} {w : zz_W} (h : zk_PX l zTs D zcl zFK cy z0 sp (zTys cy) G zYN zCN zMQ zRT 64 zHX zPT y q nx L (zXE y)) (hd : (Nat.blt q.2.2.2 1000000 && Nat.ble q.2.2.2 (d + 1)) = true) (h5 : 5 ≤ d) (hL : L.all (fun pc => XS.any (fun x => decide (x = zXE y pc))) = true) (hr : zRT y = some .int) (ha : as.take q.1.1.2.1.length = as) (hw : w.1 < 16 * 64) : zPP (zRl l D cy z0 sp G (d + 1) y XS as w) as w q := by
  intro s hG
  obtain ⟨b1, b2⟩ := zz_and hd
  rw [ha] at hG
  obtain ⟨w', s', Q, m1, m2, m3, m4, m5⟩ := h d as w s (by rw [zl_dep_ok b1]; have := zz_ble b2; omega) h5 hw hG
  rcases m4 with ⟨-, rv, m6, m7, m8⟩ | ⟨pc, p1, p2, p3⟩
  · obtain ⟨a, ha⟩ := m8 hr
    exact ⟨rv, w', s', Q, m1, Or.inl ⟨a, ha, m6⟩, m7, m5⟩
  · obtain ⟨x, x1, x2⟩ := List.any_eq_true.mp (List.all_eq_true.mp hL pc p1)
    have x2 := of_decide_eq_true x2
    exact ⟨[], w', s', Q, m1, Or.inr ⟨rfl, x, x1, by rw [x2]; exact p2⟩, p3, m5⟩
/-- what a method that it calls throws, it throws -/
theorem zPP_th {d y yt : Nat} {q : zk_Ct} {L : List Nat} {XS : List (String × Nat)} {as : List Value} {w : zz_W} (h : zk_PX l zTs D zcl zFK cy z0 sp (zTys cy) G zYN zCN zMQ zRT 64 zHX zPT yt q true L (zXE yt)) (hd : (Nat.blt q.2.2.2 1000000 && Nat.ble q.2.2.2 (d + 1)) = true) (h5 : 5 ≤ d) (hL : L.all (fun pc => XS.any (fun x => decide (x = zXE yt pc))) = true) (hw : w.1 < 16 * 64)
    (hM : ∀ (E : String) (w' : zz_W), zz_MX l zTs D zcl zFK cy z0 sp (zTys cy) G zYN zCN zMQ zRT (d + 1) yt (as.take q.1.1.2.1.length) w E w' → zz_MX l zTs D zcl zFK cy z0 sp (zTys cy) G zYN zCN zMQ zRT (d + 2) y as w E w') : zPP (zRl l D cy z0 sp G (d + 2) y XS as w) as w q := by
  intro s hG
  obtain ⟨b1, b2⟩ := zz_and hd
  obtain ⟨w', s', Q, m1, m2, m3, m4, m5⟩ := h d _ w s (by rw [zl_dep_ok b1]; have := zz_ble b2; omega) h5 hw hG
  rcases m4 with ⟨e, -⟩ | ⟨pc, p1, p2, p3⟩
  · cases e
  · obtain ⟨x, x1, x2⟩ := List.any_eq_true.mp (List.all_eq_true.mp hL pc p1)
    have x2 := of_decide_eq_true x2
    exact ⟨[], w', s', Q, m1, Or.inr ⟨rfl, x, x1, by rw [x2]; exact hM _ _ p2⟩, p3, m5⟩
/-- a method that always returns -/
theorem zPP_co {d y : Nat} {q : zk_Ct} {XS : List (String × Nat)} {as : List Value} {w : zz_W} (h : zk_Con l zTs D zcl zFK cy z0 sp (zTys cy) G zYN zCN zMQ zRT 64 zHX zPT y q) (hd : (Nat.blt q.2.2.2 1000000 && Nat.ble q.2.2.2 d) = true) (hr : q.2.1.all (fun Q => match Q.1.2.1 with
    | [(0, _, _)] => true
    | _ => false) = true) (ha : as.take q.1.1.2.1.length = as) : zPP (zRl l D cy z0 sp G d y XS as w) as w q := by
  intro s hG
  obtain ⟨b1, b2⟩ := zz_and hd
  rw [ha] at hG
  obtain ⟨rv, w', s', Q, m1, m2, m3, m4⟩ := h d as w s (by rw [zl_dep_ok b1]; have := zz_ble b2; omega) hG
  have h1 := List.all_eq_true.mp hr Q m1
  have h2 : zk_st s' Q.1.2.1 rv := m3.1.2.1
  split at h1
  · rename_i a b hT
    rw [hT] at h2
    obtain ⟨x, r, e1, -, e2⟩ := zk_st_int h2 rfl
    have e3 := zk_st_len e2
    cases r with
    | nil => exact ⟨rv, w', s', Q, m1, Or.inl ⟨x, e1, m2⟩, m3, m4⟩
    | cons _ _ => cases e3
  · cases h1
/-- the same of a method's run alone -/
theorem zPP_cm {d y : Nat} {q : zk_Ct} {as : List Value} {w : zz_W} (h : zk_Con l zTs D zcl zFK cy z0 sp (zTys cy) G zYN zCN zMQ zRT 64 zHX zPT y q) (hd : (Nat.blt q.2.2.2 1000000 && Nat.ble q.2.2.2 d) = true) (ha : as.take q.1.1.2.1.length = as) : zPP (fun rv w' => zz_M l zTs D zcl zFK cy z0 sp (zTys cy) G zYN zCN zMQ zRT d y as w rv w') as w q := by
  intro s hG
  obtain ⟨b1, b2⟩ := zz_and hd
  rw [ha] at hG
  obtain ⟨rv, w', s', Q, m1, m2, m3, m4⟩ := h d as w s (by rw [zl_dep_ok b1]; have := zz_ble b2; omega) hG
  exact ⟨rv, w', s', Q, m1, m2, m3, m4⟩
/-- the same, of a method without a value -/
theorem zPP_all {Rl : List Value → zz_W → Prop} {as : List Value} {w : zz_W} {L : List (Nat × zk_Ct)} (h : ∀ p ∈ L, zPP Rl as w p.2) : ∀ y q, zk_ctl L y = some q → zPP Rl as w q := fun y q hq => h (y, q) (zk_ctl_mem hq)
end ZAR
theorem zAr_any {I : zz_W → Prop} {Q0 : zk_St} (hw : ((zk_wq (zAr Q0 0).1 && zk_eW zHX (zAr Q0 0).1.2.2.2.1.length (zAr Q0 0).2.1) && ((zk_wq (zAr Q0 1).1 && zk_eW zHX (zAr Q0 1).1.2.2.2.1.length (zAr Q0 1).2.1) && (zk_wq (zAr Q0 2).1 && zk_eW zHX (zAr Q0 2).1.2.2.2.1.length (zAr Q0 2).2.1))) = true) {s : Nat → Int} {st : List Value} {w : zz_W} (h : zk_G2 zPT I s Q0 (0, [], st, w)) :
    ∀ (ps : List Int32), ps.length ≤ 3 → ∃ t : Nat → Int, (∀ j, j < Q0.1.2.2.2.1.length → t j = s j) ∧ zk_G2 zPT I t (zAr Q0 ps.length) (0, [], st ++ ps.map Value.int, w) := by
  obtain ⟨a0, hw⟩ := zz_and hw
  obtain ⟨a1, a2⟩ := zz_and hw
  obtain ⟨a0, b0⟩ := zz_and a0
  obtain ⟨a1, b1⟩ := zz_and a1
  obtain ⟨a2, b2⟩ := zz_and a2
  have l1 : (zAr Q0 1).1.2.2.2.1.length = Q0.1.2.2.2.1.length + 1 := List.length_append
  have l2 : (zAr Q0 2).1.2.2.2.1.length = Q0.1.2.2.2.1.length + 1 + 1 := by rw [← l1]; exact List.length_append
  intro ps h3
  match ps, h3 with
  | [], _ => exact ⟨s, fun _ _ => rfl, by rw [List.map_nil, List.append_nil]; exact h⟩
  | [x], _ =>
    obtain ⟨t, e, g, -⟩ := zG2_arg (Q := zAr Q0 0) a0 b0 h x
    exact ⟨t, e, g⟩
  | [x, y], _ =>
    obtain ⟨t, e, g, -⟩ := zG2_arg (Q := zAr Q0 0) a0 b0 h x
    obtain ⟨t2, e2, g2, -⟩ := zG2_arg (Q := zAr Q0 1) a1 b1 g y
    refine ⟨t2, fun j hj => (e2 j (by rw [l1]; omega)).trans (e j hj), ?_⟩
    rw [List.append_assoc] at g2
    exact g2
  | [x, y, z], _ =>
    obtain ⟨t, e, g, -⟩ := zG2_arg (Q := zAr Q0 0) a0 b0 h x
    obtain ⟨t2, e2, g2, -⟩ := zG2_arg (Q := zAr Q0 1) a1 b1 g y
    obtain ⟨t3, e3, g3, -⟩ := zG2_arg (Q := zAr Q0 2) a2 b2 g2 z
    refine ⟨t3, fun j hj => (e3 j (by rw [l2]; omega)).trans ((e2 j (by rw [l1]; omega)).trans (e j hj)), ?_⟩
    rw [List.append_assoc, List.append_assoc] at g3
    exact g3
  | _ :: _ :: _ :: _ :: _, h3 => exact absurd h3 (by simp)
theorem zQM_1 {s : Nat → Int} {st : List Value} {w : zz_W} (h : zk_G2 zPT (zk_I 64 zHX) s (zA1 zQM) (0, [], st, w)) : zk_G2 zPT (zk_I 64 zHX) s zQM (0, [], [], w) := zG2_drop (L := zQM.1.1) (T := zQM.1.2.1 ++ [(0, 0, zl_sym zQM.1.2.2.2.1.length)]) (F := zQM.1.2.2.1) (B := zQM.1.2.2.2.1) (X := [(-2147483648, 2147483647)]) (C := zQM.1.2.2.2.2) (E := zQM.2.1) (K := zQM.2.2) h
theorem zQM_0 {s : Nat → Int} {st : List Value} {w : zz_W} (h : zk_G2 zPT (zk_I 64 zHX) s zQM (0, [], st, w)) : zk_G2 zPT (zk_I 64 zHX) s zQM (0, [], [], w) := by
  obtain ⟨⟨g1, g2, g3, g4, g5, g6⟩, k1, k2⟩ := h
  exact ⟨⟨g1, trivial, g3, g4, g5, g6⟩, k1, k2⟩
theorem zQB_1 {s : Nat → Int} {st : List Value} {w : zz_W} (h : zk_G2 zPT (zk_I 64 zHX) s (zA1 zQB) (0, [], st, w)) : zk_G2 zPT (zk_I 64 zHX) s zQB (0, [], [], w) := zG2_drop (L := zQB.1.1) (T := zQB.1.2.1 ++ [(0, 0, zl_sym zQB.1.2.2.2.1.length)]) (F := zQB.1.2.2.1) (B := zQB.1.2.2.2.1) (X := [(-2147483648, 2147483647)]) (C := zQB.1.2.2.2.2) (E := zQB.2.1) (K := zQB.2.2) h
theorem zQB_I {s : Nat → Int} {w : zz_W} (h : zk_G2 zPT (zk_I 64 zHX) s zQB (0, [], [], w)) : zk_G2 zPT (zk_I 64 zHX) s zQI (0, [], [], w) := by
  have h0 := h.1.2.2.2.1 0 (1, 512) rfl
  exact zG2_b (B := (0, 512) :: zQBt) h (zl_in_hd (q := (1, 512)) (B := zQBt) h.1.2.2.2.1 (by have := h0.1; show (0 : Int) ≤ s 0; omega) h0.2)
theorem zQI_A {s : Nat → Int} {n : Nat} {w : zz_W} (h : zk_G2 zPT (zk_I 64 zHX) s zQI (0, [], [], w)) (hs : s 0 = (n : Int)) (hn : n ≤ 511) : zk_G2 zPT (zk_I 64 zHX) s zQA (0, [], [], w) :=
  zG2_b (B := (0, 511) :: zQBt) h (zl_in_hd (q := (0, 512)) (B := zQBt) h.1.2.2.2.1 (by rw [hs]; show (0 : Int) ≤ n; omega) (by rw [hs]; show (n : Int) ≤ 511; omega))
/-- a call of the class: from what holds to what holds -/
theorem zCl_gen {n : Nat} (hn : n ≤ 511) {w : zz_W} (h : zIv zQI n 0 w) (ps : List Int32) (h3 : ps.length ≤ 3) {L : List (Nat × zk_Ct)} {k : Nat} {hs : List zk_Hn} (hk : zl_ex zHX (zk_sux zTL zTM zXS) (zk_tsl zTL zTM, zWL, zLL, zVL) (zk_ctl L) [zl_sym 0] [zA1 zQM, zQM] k [(false, zAr (zRe zQA 0) ps.length)] hs = true) (hm : L.all (fun p => p.2.2.2.1.1.all zl_mk) = true) (hB : Nat.ble 1 (zAr (zRe zQA 0) ps.length).1.2.2.2.1.length = true) (hL : (zAr (zRe zQA 0) ps.length).1.1 = [])
    {Rl : List Value → zz_W → Prop} (hO : ∀ p ∈ L, zPP Rl (.ref 0 :: ps.map Value.int) w p.2) : ∃ (rv : List Value) (w' : zz_W), Rl rv w' ∧ zIv zQM n 0 w' := by
  obtain ⟨⟨s, s0, h2⟩, hb, c1, c2⟩ := h
  have hI : zk_I 64 zHX w := h2.1.2.2.2.2.2
  have g : zk_G2 zPT (zk_I 64 zHX) s (zRe zQA 0) (0, [], [.ref 0], w) := zG2_ref 0 (zQI_A h2 s0 hn)
  obtain ⟨t, e1, g⟩ := zAr_any (Q0 := zRe zQA 0) (by decide +kernel) g ps h3
  have t0 : t 0 = (n : Int) := (e1 0 (by decide +kernel)).trans s0
  obtain ⟨rv, w', r1, r2, s', Q, q1, q2, q3⟩ := zl_px zTTx (n0 := 1) (by decide +kernel) hk hB hL (fun y q hq => List.all_eq_true.mp hm (y, q) (zk_ctl_mem hq)) (zPP_all hO) g
  have s1 : s' 0 = (n : Int) := by rw [q3 0 (zl_sym 0) rfl, zl_sym_ev, t0]
  have q2' : zk_G2 zPT (zk_I 64 zHX) s' zQM (0, [], [], w') := by
    rcases List.mem_cons.mp q1 with e | q1
    · subst e
      exact zQM_1 q2
    · have e := List.mem_singleton.mp q1
      subst e
      exact zQM_0 q2
  exact ⟨rv, w', r1, ⟨s', s1, q2'⟩, zBi_K hb hI r2 q2'.1.2.2.2.2.2 (by omega), by rw [r2.1]; exact c1, by rw [r2.2.1]; exact c2⟩
/-- a call of the reference that gives a number -/
theorem zRf_gen {n : Nat} (hn : n ≤ 511) {w : zz_W} (h : zIv zQM n 1 w) (ps : List Int32) (h3 : ps.length ≤ 3) {L : List (Nat × zk_Ct)} {k : Nat} {hs : List zk_Hn} (hk : zl_ex zHX (zk_sux zTL zTM zXS) (zk_tsl zTL zTM, zWL, zLL, zVL) (zk_ctl L) [zl_add (zl_sym 0) (zl_con 1)] [zA1 zQB] k [(false, zAr (zRe zQM 171) ps.length)] hs = true) (hm : L.all (fun p => p.2.2.2.1.1.all zl_mk) = true) (hB : Nat.ble 1 (zAr (zRe zQM 171) ps.length).1.2.2.2.1.length = true) (hL : (zAr (zRe zQM 171) ps.length).1.1 = [])
    {Rl : List Value → zz_W → Prop} (hO : ∀ p ∈ L, zPP Rl (.ref 171 :: ps.map Value.int) w p.2) : ∃ (a : Int32) (w' : zz_W), Rl [.int a] w' ∧ zIv zQI (n + 1) 0 w' := by
  obtain ⟨⟨s, s0, h2⟩, hb, c1, c2⟩ := h
  have hI : zk_I 64 zHX w := h2.1.2.2.2.2.2
  have g : zk_G2 zPT (zk_I 64 zHX) s (zRe zQM 171) (0, [], [.ref 171], w) := zG2_ref 171 h2
  obtain ⟨t, e1, g⟩ := zAr_any (Q0 := zRe zQM 171) (by decide +kernel) g ps h3
  have t0 : t 0 = (n : Int) := (e1 0 (by decide +kernel)).trans s0
  obtain ⟨rv, w', r1, r2, s', Q, q1, q2, q3⟩ := zl_px zTTx (n0 := 1) (by decide +kernel) hk hB hL (fun y q hq => List.all_eq_true.mp hm (y, q) (zk_ctl_mem hq)) (zPP_all hO) g
  have s1 : s' 0 = ((n + 1 : Nat) : Int) := by rw [q3 0 (zl_add (zl_sym 0) (zl_con 1)) rfl, zl_add_ev, zl_sym_ev, zl_con_ev, t0]; omega
  have e := List.mem_singleton.mp q1
  subst e
  have q2' := zQB_I (zQB_1 q2)
  obtain ⟨a, r, e2, -, e3⟩ := zk_st_int (show zk_st s' [(0, 0, zl_sym zQB.1.2.2.2.1.length)] rv from q2.1.2.1) rfl
  have e4 := zk_st_len e3
  cases r with
  | cons _ _ => cases e4
  | nil =>
    subst e2
    exact ⟨a, w', r1, ⟨s', s1, q2'⟩, zBi_K hb hI r2 q2'.1.2.2.2.2.2 (by omega), by rw [r2.1]; omega, by rw [r2.2.1]; omega⟩
end
end
section
/-! BETWEEN CALLS, on: put and end, which leave something over between class and reference -/
noncomputable section
/-- as zIv, and symbol 1 is the number p -/
def zJv (X : zk_St) (n e : Nat) (p : Int32) (w : zz_W) : Prop := (∃ s : Nat → Int, (s 0 = (n : Int) ∧ s 1 = p.toInt) ∧ zk_G2 zPT (zk_I 64 zHX) s X (0, [], [], w)) ∧ zBi w ∧ w.1 ≤ 329 + n + e ∧ w.2.1 ≤ 2300586 + 40 * (n + e)
theorem zJv_I {X : zk_St} {n e : Nat} {p : Int32} {w : zz_W} (h : zJv X n e p w) : zk_I 64 zHX w := h.1.choose_spec.2.1.2.2.2.2.2
theorem zJv_up {X : zk_St} {n e N : Nat} {p : Int32} {w : zz_W} (hX : zl_w9 X = true) (h : zJv X n e p w) (hn : 329 + n + e ≤ 1000) : zJv X n e p (zz_up w 328 (1, 3, 1, N)) := by
  obtain ⟨⟨s, h1, h2⟩, h3, h4, h5⟩ := h
  have hI : zk_I 64 zHX w := h2.1.2.2.2.2.2
  exact ⟨⟨s, h1, zG2_up hX (zI_up hI) h2⟩, zBi_up h3 (zI_up hI) (by omega), h4, h5⟩
theorem zJv_pu {X : zk_St} {n ci : Nat} {p : Int32} {w : zz_W} (hX : zkt_ok zHX (zk_sux zTL zTM zXS) X = true) (h : zJv X n 0 p w) (hn : n ≤ 512) : zJv X n 1 p (zz_pu w (3, ci, 0, 0) 6) := by
  obtain ⟨⟨s, h1, h2⟩, h3, h4, h5⟩ := h
  have hI : zk_I 64 zHX w := h2.1.2.2.2.2.2
  have hw : w.1 < 16 * 64 := by omega
  refine ⟨⟨s, h1, zkt_G2 zTTx hX hw (by decide) h2⟩, zBi_pu h3 (zkt_I hI hw (by decide)) (by omega), ?_, ?_⟩
  · show w.1 + 1 ≤ _
    omega
  · show w.2.1 + 6 ≤ _
    omega
theorem zJv_1 {X : zk_St} {n : Nat} {p : Int32} {w : zz_W} (h : zJv X n 0 p w) : zJv X n 1 p w := ⟨h.1, h.2.1, by have := h.2.2.1; omega, by have := h.2.2.2; omega⟩
/-- nothing on the stack -/
theorem zG2_no {I : zz_W → Prop} {L : List (Nat × zk_V)} {T : List zk_V} {F : List ((Nat × Nat) × zk_V)} {B : List (Int × Int)} {C : List zl_E} {E : List zk_E1} {K : List Nat} {s : Nat → Int} {st : List Value} {w : zz_W} (h : zk_G2 zPT I s ((L, T, F, B, C), E, K) (0, [], st, w)) : zk_G2 zPT I s ((L, [], F, B, C), E, K) (0, [], [], w) := by
  obtain ⟨⟨g1, g2, g3, g4, g5, g6⟩, k1, k2⟩ := h
  exact ⟨⟨g1, trivial, g3, g4, g5, g6⟩, k1, k2⟩
theorem zG2_C {I : zz_W → Prop} {Q : zk_St} {C : List zl_E} {s : Nat → Int} {st : List Value} {w : zz_W} (h : zk_G2 zPT I s Q (0, [], st, w)) (hC : ∀ e ∈ C, 0 ≤ zl_ev s e) : zk_G2 zPT I s (zAC Q C) (0, [], st, w) := by
  obtain ⟨⟨g1, g2, g3, g4, g5, g6⟩, k1, k2⟩ := h
  refine ⟨⟨g1, g2, g3, g4, fun e he => ?_, g6⟩, k1, k2⟩
  rcases List.mem_append.mp he with he | he
  · exact g5 e he
  · exact hC e he
theorem zG2_s {I : zz_W → Prop} {Q : zk_St} {s : Nat → Int} {st : List Value} {w : zz_W} {x : Int32} (h : zk_G2 zPT I s Q (0, [], st, w)) (h1 : s 1 = x.toInt) : zk_G2 zPT I s (zAs Q) (0, [], st ++ [.int x], w) := by
  obtain ⟨⟨g1, g2, g3, g4, g5, g6⟩, k1, k2⟩ := h
  refine ⟨⟨g1, zk_st_app g2 ⟨⟨fun _ => ⟨x, rfl, ?_⟩, fun e => (by cases e), fun e => (by cases e), fun e => (by cases e)⟩, trivial⟩, g3, g4, g5, g6⟩, k1, k2⟩
  show x.toInt = zl_ev s (zl_sym 1)
  rw [zl_sym_ev, h1]
/-- what the stack holds -/
theorem zG2_t1 {I : zz_W → Prop} {Q : zk_St} {e : zl_E} {s : Nat → Int} {rv : List Value} {w : zz_W} (h : zk_G2 zPT I s Q (0, [], rv, w)) (hT : Q.1.2.1 = [(0, 0, e)]) : ∃ a : Int32, rv = [.int a] ∧ a.toInt = zl_ev s e := by
  have h2 : zk_st s Q.1.2.1 rv := h.1.2.1
  rw [hT] at h2
  obtain ⟨x, r, e1, e0, e2⟩ := zk_st_int h2 rfl
  have e3 := zk_st_len e2
  cases r with
  | nil => exact ⟨x, e1, e0⟩
  | cons _ _ => cases e3
theorem zG2_t0 {I : zz_W → Prop} {Q : zk_St} {s : Nat → Int} {rv : List Value} {w : zz_W} (h : zk_G2 zPT I s Q (0, [], rv, w)) (hT : Q.1.2.1 = []) : rv = [] := by
  have h2 : zk_st s Q.1.2.1 rv := h.1.2.1
  rw [hT] at h2
  have e3 := zk_st_len h2
  cases rv with
  | nil => rfl
  | cons _ _ => cases e3
/-- a call from one state to one of a few -/
theorem zG_call {n e : Nat} {w : zz_W} {X : zk_St} {t : Nat → Int} {as : List Value} (g : zk_G2 zPT (zk_I 64 zHX) t X (0, [], as, w)) (hb : zBi w) (c1 : w.1 ≤ 329 + n + e) (c2 : w.2.1 ≤ 2300586 + 40 * (n + e)) (h1 : n + e ≤ 600)
    {L : List (Nat × zk_Ct)} {k : Nat} {hs : List zk_Hn} {pre : List zl_E} {qs : List zk_St} (hp : pre.all (fun p => Nat.ble (zl_mx p.2) X.1.2.2.2.1.length) = true) (hk : zl_ex zHX (zk_sux zTL zTM zXS) (zk_tsl zTL zTM, zWL, zLL, zVL) (zk_ctl L) pre qs k [(false, X)] hs = true) (hm : L.all (fun p => p.2.2.2.1.1.all zl_mk) = true) (hL : X.1.1 = [])
    {Rl : List Value → zz_W → Prop} (hO : ∀ p ∈ L, zPP Rl as w p.2) : ∃ (rv : List Value) (w' : zz_W), Rl rv w' ∧ (∃ (s' : Nat → Int) (Q : zk_St), Q ∈ qs ∧ zk_G2 zPT (zk_I 64 zHX) s' Q (0, [], rv, w') ∧ ∀ j x, pre[j]? = some x → s' j = zl_ev t x) ∧ zBi w' ∧ w'.1 = w.1 ∧ w'.2.1 = w.2.1 := by
  have hI : zk_I 64 zHX w := g.1.2.2.2.2.2
  obtain ⟨rv, w', r1, r2, s', Q, q1, q2, q3⟩ := zl_px zTTx (n0 := X.1.2.2.2.1.length) hp hk (by rw [Nat.ble_eq]; exact Nat.le_refl _) hL (fun y q hq => List.all_eq_true.mp hm (y, q) (zk_ctl_mem hq)) (zPP_all hO) g
  exact ⟨rv, w', r1, ⟨s', Q, q1, q2, q3⟩, zBi_K hb hI r2 q2.1.2.2.2.2.2 (by omega), r2.1, r2.2.1⟩
/-- the class's argument p -/
theorem zG_arg1 {n : Nat} (hn : n ≤ 511) {w : zz_W} (h : zIv zQI n 0 w) (p : Int32) : ∃ t : Nat → Int, t 0 = (n : Int) ∧ t zNQ = p.toInt ∧ zk_G2 zPT (zk_I 64 zHX) t (zAr (zRe zQA 0) 1) (0, [], [.ref 0, .int p], w) := by
  obtain ⟨⟨s, s0, h2⟩, -⟩ := h
  have g : zk_G2 zPT (zk_I 64 zHX) s (zRe zQA 0) (0, [], [.ref 0], w) := zG2_ref 0 (zQI_A h2 s0 hn)
  obtain ⟨t, e1, g, e2⟩ := zG2_arg (Q := zAr (zRe zQA 0) 0) (by decide +kernel) (by decide +kernel) g p
  have e3 : (zAr (zRe zQA 0) 0).1.2.2.2.1.length = zNQ := by decide +kernel
  exact ⟨t, (e1 0 (by decide +kernel)).trans s0, by rw [e3] at e2; exact e2, g⟩
/-- behind the reference's call -/
theorem zG_end1 {n : Nat} (hn : n ≤ 511) {w' : zz_W} {rv : List Value} {s' : Nat → Int} (q2 : zk_G2 zPT (zk_I 64 zHX) s' (zA1 zQB) (0, [], rv, w')) (s1 : s' 0 = ((n + 1 : Nat) : Int)) (hb : zBi w') (c1 : w'.1 ≤ 329 + n + 1) (c2 : w'.2.1 ≤ 2300586 + 40 * (n + 1)) : ∃ a : Int32, rv = [.int a] ∧ zIv zQI (n + 1) 0 w' := by
  obtain ⟨a, e, -⟩ := zG2_t1 q2 (e := zl_sym zQB.1.2.2.2.1.length) rfl
  exact ⟨a, e, ⟨s', s1, zQB_I (zQB_1 q2)⟩, hb, by omega, by omega⟩
theorem zl_n1_ev {s : Nat → Int} {n : Nat} (h : s 0 = (n : Int)) : zl_ev s (zl_add (zl_sym 0) (zl_con 1)) = ((n + 1 : Nat) : Int) := by
  rw [zl_add_ev, zl_sym_ev, zl_con_ev, h]
  omega
/-- put, the reference's half -/
theorem zRf_put {X : zk_St} {n : Nat} (hn : n ≤ 511) {p : Int32} {w : zz_W} (h : zJv X n 1 p w) (hX : (zAs (zRe X 171)).1.1 = []) (hN : Nat.ble 1 (zAs (zRe X 171)).1.2.2.2.1.length = true) {L : List (Nat × zk_Ct)} {k : Nat} {hs : List zk_Hn} (hk : zl_ex zHX (zk_sux zTL zTM zXS) (zk_tsl zTL zTM, zWL, zLL, zVL) (zk_ctl L) [zl_add (zl_sym 0) (zl_con 1)] [zA1 zQB] k [(false, zAs (zRe X 171))] hs = true) (hm : L.all (fun p => p.2.2.2.1.1.all zl_mk) = true)
    {Rl : List Value → zz_W → Prop} (hO : ∀ q ∈ L, zPP Rl [.ref 171, .int p] w q.2) : ∃ (a : Int32) (w' : zz_W), Rl [.int a] w' ∧ zIv zQI (n + 1) 0 w' := by
  obtain ⟨⟨s, ⟨s0, s1⟩, h2⟩, hb, c1, c2⟩ := h
  have g : zk_G2 zPT (zk_I 64 zHX) s (zAs (zRe X 171)) (0, [], [.ref 171, .int p], w) := zG2_s (zG2_ref 171 h2) s1
  obtain ⟨rv, w', r1, ⟨s', Q, q1, q2, q3⟩, hb', d1, d2⟩ := zG_call (n := n) (e := 1) g hb c1 c2 (by omega) (pre := [zl_add (zl_sym 0) (zl_con 1)]) (by
    show (Nat.ble 1 _ && true) = true
    rw [hN]
    rfl) hk hm hX hO
  have e := List.mem_singleton.mp q1
  subst e
  obtain ⟨a, e2, hI⟩ := zG_end1 hn q2 ((q3 0 _ rfl).trans (zl_n1_ev s0)) hb' (by omega) (by omega)
  subst e2
  exact ⟨a, w', r1, hI⟩
/-- end, the reference's half, and what it noted -/
theorem zRf_end {X : zk_St} {n : Nat} (hn : n ≤ 511) {p : Int32} {w : zz_W} (h : zJv X n 1 p w) (hX : (zAs (zRe X 171)).1.1 = []) (hN : Nat.ble 1 (zAs (zRe X 171)).1.2.2.2.1.length = true) {v : Nat} {L L2 : List (Nat × zk_Ct)} {k k2 : Nat} {hs hs2 : List zk_Hn} (hk : zl_ex zHX (zk_sux zTL zTM zXS) (zk_tsl zTL zTM, zWL, zLL, zVL) (zk_ctl L) [zl_add (zl_sym 0) (zl_con 1)] [zAF zQB (v : Int)] k [(false, zAs (zRe X 171))] hs = true) (hm : L.all (fun p => p.2.2.2.1.1.all zl_mk) = true)
    (hk2 : zl_ex zHX (zk_sux zTL zTM zXS) (zk_tsl zTL zTM, zWL, zLL, zVL) (zk_ctl L2) [zl_sym 0] [zAk zQB (v : Int)] k2 [(false, zRe (zAF zQB (v : Int)) 171)] hs2 = true) (hm2 : L2.all (fun p => p.2.2.2.1.1.all zl_mk) = true)
    {Rl : List Value → zz_W → Prop} (hO : ∀ q ∈ L, zPP Rl [.ref 171, .int p] w q.2) {Rl2 : zz_W → List Value → zz_W → Prop} (hO2 : ∀ w1, ∀ q ∈ L2, zPP (Rl2 w1) [.ref 171] w1 q.2) : ∃ (w1 w2 : zz_W) (a : Int32), Rl [] w1 ∧ zz_ic w1 171 0 = true ∧ Rl2 w1 [.int a] w2 ∧ a.toInt = (v : Int) ∧ zIv zQI (n + 1) 0 w2 := by
  obtain ⟨⟨s, ⟨s0, s1⟩, h2⟩, hb, c1, c2⟩ := h
  have g : zk_G2 zPT (zk_I 64 zHX) s (zAs (zRe X 171)) (0, [], [.ref 171, .int p], w) := zG2_s (zG2_ref 171 h2) s1
  obtain ⟨rv, w1, r1, ⟨s', Q, q1, q2, q3⟩, hb', d1, d2⟩ := zG_call (n := n) (e := 1) g hb c1 c2 (by omega) (pre := [zl_add (zl_sym 0) (zl_con 1)]) (by
    show (Nat.ble 1 _ && true) = true
    rw [hN]
    rfl) hk hm hX hO
  have e := List.mem_singleton.mp q1
  subst e
  have e2 := zG2_t0 q2 rfl
  subst e2
  have g2 : zk_G2 zPT (zk_I 64 zHX) s' (zRe (zAF zQB (v : Int)) 171) (0, [], [.ref 171], w1) := zG2_ref 171 q2
  have t0 : s' 0 = ((n + 1 : Nat) : Int) := (q3 0 _ rfl).trans (zl_n1_ev s0)
  obtain ⟨rv2, w2, r2, ⟨s2, Q2, q4, q5, q6⟩, hb2, d3, d4⟩ := zG_call (n := n) (e := 1) g2 hb' (by omega) (by omega) (by omega) (pre := [zl_sym 0]) (show ([zl_sym 0].all (fun p => Nat.ble (zl_mx p.2) zQB.1.2.2.2.1.length)) = true from by decide +kernel) hk2 hm2 rfl (hO2 w1)
  have e := List.mem_singleton.mp q4
  subst e
  obtain ⟨a, e3, e4⟩ := zG2_t1 q5 (e := zl_con (v : Int)) rfl
  subst e3
  rw [zl_con_ev] at e4
  have t2 : s2 0 = ((n + 1 : Nat) : Int) := by rw [q6 0 _ rfl, zl_sym_ev, t0]
  have q7 : zk_G2 zPT (zk_I 64 zHX) s2 zQB (0, [], [], w2) := zG2_no (T := [(0, 0, zl_con (v : Int))]) q5
  exact ⟨w1, w2, a, r1, zI_ic171 q2.1.2.2.2.2.2, r2, e4, ⟨s2, t2, zQB_I q7⟩, hb2, by omega, by omega⟩
/-- forget: no value -/
theorem zCl_v {n : Nat} (hn : n ≤ 511) {w : zz_W} (h : zIv zQI n 0 w) {L : List (Nat × zk_Ct)} {k : Nat} {hs : List zk_Hn} (hk : zl_ex zHX (zk_sux zTL zTM zXS) (zk_tsl zTL zTM, zWL, zLL, zVL) (zk_ctl L) [zl_sym 0] [zQM] k [(false, zAr (zRe zQA 0) 0)] hs = true) (hm : L.all (fun p => p.2.2.2.1.1.all zl_mk) = true)
    {Rl : List Value → zz_W → Prop} (hO : ∀ p ∈ L, zPP Rl [.ref 0] w p.2) : ∃ w' : zz_W, Rl [] w' ∧ zIv zQM n 0 w' := by
  obtain ⟨⟨s, s0, h2⟩, hb, c1, c2⟩ := h
  have g : zk_G2 zPT (zk_I 64 zHX) s (zAr (zRe zQA 0) 0) (0, [], [.ref 0], w) := zG2_ref 0 (zQI_A h2 s0 hn)
  obtain ⟨rv, w1, r1, ⟨s', Q, q1, q2, q3⟩, hb', d1, d2⟩ := zG_call (n := n) (e := 0) g hb c1 c2 (by omega) (pre := [zl_sym 0]) (by decide +kernel) hk hm rfl hO
  have e := List.mem_singleton.mp q1
  subst e
  have e2 := zG2_t0 q2 rfl
  subst e2
  exact ⟨w1, r1, ⟨s', by rw [q3 0 _ rfl, zl_sym_ev, s0], q2⟩, hb', by omega, by omega⟩
theorem zRf_v {n : Nat} (hn : n ≤ 511) {w : zz_W} (h : zIv zQM n 1 w) {L : List (Nat × zk_Ct)} {k : Nat} {hs : List zk_Hn} (hk : zl_ex zHX (zk_sux zTL zTM zXS) (zk_tsl zTL zTM, zWL, zLL, zVL) (zk_ctl L) [zl_add (zl_sym 0) (zl_con 1)] [zQB] k [(false, zAr (zRe zQM 171) 0)] hs = true) (hm : L.all (fun p => p.2.2.2.1.1.all zl_mk) = true)
    {Rl : List Value → zz_W → Prop} (hO : ∀ p ∈ L, zPP Rl [.ref 171] w p.2) : ∃ w' : zz_W, Rl [] w' ∧ zIv zQI (n + 1) 0 w' := by
  obtain ⟨⟨s, s0, h2⟩, hb, c1, c2⟩ := h
  have g : zk_G2 zPT (zk_I 64 zHX) s (zAr (zRe zQM 171) 0) (0, [], [.ref 171], w) := zG2_ref 171 h2
  obtain ⟨rv, w1, r1, ⟨s', Q, q1, q2, q3⟩, hb', d1, d2⟩ := zG_call (n := n) (e := 1) g hb c1 c2 (by omega) (pre := [zl_add (zl_sym 0) (zl_con 1)]) (by decide +kernel) hk hm rfl hO
  have e := List.mem_singleton.mp q1
  subst e
  have e2 := zG2_t0 q2 rfl
  subst e2
  exact ⟨w1, r1, ⟨s', (q3 0 _ rfl).trans (zl_n1_ev s0), zQB_I q2⟩, hb', by omega, by omega⟩
end
/-! the listing, the class's half: the builder and its rows -/
noncomputable section
theorem zBi_B {w w' : zz_W} {T : List Nat} (hB : zB w T w') (h : w.1 ≤ 999) : zBi w' ∧ w'.1 ≤ w.1 + 1 ∧ w'.2.1 ≤ w.2.1 + 34 ∧ w.1 ≤ w'.1 := by
  obtain ⟨v, N, M, c, ⟨a1, ⟨⟨a2, a3⟩, a4⟩, a5, a6, a7, a8, a9, a10, a11⟩, b1, b2, b3⟩ := hB
  have hc : c ≤ 34 := by rcases a4 with ⟨e, -⟩ | ⟨e, -⟩ <;> omega
  have h1 : w'.1 ≤ w.1 + 1 ∧ w'.2.1 ≤ w.2.1 + 34 ∧ w.1 ≤ w'.1 := by rcases a4 with ⟨-, -, e1, e2⟩ | ⟨-, -, -, e1, e2, e3⟩ <;> omega
  refine ⟨⟨v, N, M, c, ⟨a1, ⟨⟨by omega, by omega⟩, ?_⟩, a5, a6, a7, a8, a9, a10, fun _ _ _ _ => rfl⟩, by omega⟩, h1.1, h1.2.1, h1.2.2⟩
  rcases a4 with ⟨e1, e2, -, -⟩ | ⟨e1, e2, e3, -, -, -⟩
  · exact Or.inl ⟨e1, e2, rfl, rfl⟩
  · exact Or.inr ⟨e1, e2, e3, Nat.le_refl _, Nat.le_succ _, Nat.le_add_right _ _⟩
theorem zHX_hi (i : Nat) (h : 329 ≤ i) : (zk_h zHX i).1 = 9 := by
  by_cases h2 : i < 336
  · have h3 : ∀ j, j < 7 → (zk_h zHX (329 + j)).1 = 9 := by decide +kernel
    have h4 := h3 (i - 329) (by omega)
    rw [show 329 + (i - 329) = i by omega] at h4
    exact h4
  · unfold zk_h
    have h5 : zHX[i / 16]? = none := List.getElem?_eq_none (by show (21 : Nat) ≤ i / 16; omega)
    show ((zHX[i / 16]?.getD []).getD (i % 16) zk_h0).1 = 9
    rw [h5]
    rfl
/-- not the builder's rows, and there from the start -/
def zl_rB (i : Nat) : Bool := Nat.blt i 329 && (!(Nat.beq i 16) && !(Nat.beq i 17))
theorem zHok_16 {M : Nat} (h2 : zz_at 64 M 2 ≤ 1) : zk_Hok (zk_h zHX 16) (3, 13, 4, M) := by
  rw [show zk_h zHX 16 = (3, 13, 4, 0, 0, [(3, 0, 0, 0), (0, 0, -2147483648, 2147483647), (0, 0, 0, 1), (0, 0, -2147483648, 2147483647)]) from rfl]
  have hb : ∀ x : Int32, (-2147483648 : Int) ≤ x.toInt ∧ x.toInt ≤ 2147483647 := fun x => ⟨Int32.le_toInt x, by have := Int32.toInt_lt x; omega⟩
  refine ⟨rfl, rfl, rfl, fun e => (by cases e), fun e => (by cases e), fun _ k q hq => ?_, fun e => (by cases e)⟩
  match k, hq with
  | 0, hq => cases hq; exact ⟨fun e => (by cases e), fun e => (by cases e)⟩
  | 1, hq => cases hq; exact ⟨fun _ => hb _, fun e => (by cases e)⟩
  | 2, hq =>
    cases hq
    refine ⟨fun _ => ?_, fun e => (by cases e)⟩
    show (0 : Int) ≤ (Int32.ofNat (zz_at 64 M 2)).toInt ∧ (Int32.ofNat (zz_at 64 M 2)).toInt ≤ 1
    rcases (by omega : zz_at 64 M 2 = 0 ∨ zz_at 64 M 2 = 1) with e | e <;> rw [e] <;> decide
  | 3, hq => cases hq; exact ⟨fun _ => hb _, fun e => (by cases e)⟩
  | _ + 4, hq => cases hq
theorem zI_B {w w' : zz_W} {M : Nat} (hs : zz_sh w') (h16 : zz_has w' 16 (3, 13, 4, M)) (hM : zz_at 64 M 2 ≤ 1) (h1 : w.1 ≤ w'.1) (h2 : w'.1 ≤ 1001) (hg : ∀ i, i ≠ 16 → i ≠ 17 → i < 329 → zz_g w' i = zz_g w i) (hI : zk_I 64 zHX w) : zk_I 64 zHX w' := by
  refine ⟨hs, by omega, by omega, fun i h9 => ?_⟩
  by_cases e16 : i = 16
  · subst e16
    rw [h16.2.2]
    exact ⟨h16.1, zHok_16 hM⟩
  have e17 : i ≠ 17 := fun e => h9 (by subst e; decide +kernel)
  have e3 : i < 329 := Nat.lt_of_not_le (fun e => h9 (zHX_hi i e))
  obtain ⟨k1, k2⟩ := hI.2.2.2 i h9
  rw [hg i e16 e17 e3]
  exact ⟨by omega, k2⟩
def zl_wB (X : zk_St) : Bool := (X.1.2.2.1.all (fun q => zl_rB q.1.1)) && (X.2.1.all (fun x => (zk_rws x.1).all zl_rB) && X.2.2.all (fun t => (zk_sux zTL zTM zXS t).all (fun p => zl_rB p.1)))
theorem zG2_B {X : zk_St} {s : Nat → Int} {st : List Value} {w w' : zz_W} (hX : zl_wB X = true) (hI' : zk_I 64 zHX w') (hg : ∀ i, i ≠ 16 → i ≠ 17 → i < 329 → zz_g w' i = zz_g w i) (h : zk_G2 zPT (zk_I 64 zHX) s X (0, [], st, w)) : zk_G2 zPT (zk_I 64 zHX) s X (0, [], st, w') := by
  obtain ⟨o1, o2⟩ := zz_and hX
  obtain ⟨o2, o3⟩ := zz_and o2
  obtain ⟨⟨g1, g2, g3, g4, g5, g6⟩, k1, k2⟩ := h
  have hb : ∀ i, zl_rB i = true → zz_g w' i = zz_g w i := fun i hi => by
    obtain ⟨b1, b2⟩ := zz_and hi
    obtain ⟨b2, b3⟩ := zz_and b2
    exact hg i (zk_nbq b2) (zk_nbq b3) (zz_blt b1)
  have hfd : ∀ q : Nat × Nat, zl_rB q.1 = true → zk_fd w' q = zk_fd w q := fun q hq => by
    unfold zk_fd
    rw [hb _ hq]
  refine ⟨⟨g1, g2, fun q hq => ?_, g4, g5, hI'⟩, fun y hy => ?_, fun t ht => ?_⟩
  · show zk_n s q.2 (zk_fd w' q.1)
    rw [hfd q.1 (List.all_eq_true.mp o1 q hq)]
    exact g3 q hq
  · have h1 := List.all_eq_true.mp o2 y hy
    show 0 ≤ zl_ev s y.2.1 ∧ zk_xe w' y.1 (zl_ev s y.2.1) = zl_ev s y.2.2
    rw [zk_xe_g (fun r hr => hb r (List.all_eq_true.mp h1 r hr))]
    exact k1 y hy
  · have h1 := List.all_eq_true.mp (List.all_eq_true.mp o3 t ht)
    exact zTTx.1 t w w' g6 hI' (fun q hq _ => hfd q (h1 q hq)) (fun q hq _ => hb q.1 (h1 q hq)) (k2 t ht)
theorem zQA_M {s : Nat → Int} {w : zz_W} (h : zk_G2 zPT (zk_I 64 zHX) s zQA (0, [], [], w)) : zk_G2 zPT (zk_I 64 zHX) s zQM (0, [], [], w) := by
  obtain ⟨⟨g1, g2, g3, g4, g5, g6⟩, k1, k2⟩ := h
  refine ⟨⟨g1, g2, g3, g4, fun e he => ?_, g6⟩, k1, k2⟩
  obtain ⟨c, hc, h1⟩ := List.any_eq_true.mp (List.all_eq_true.mp (by decide +kernel : zQCm.all (fun e => zQC.any (fun c => zl_pos zQA.1.2.2.2.1 (zl_sub e c))) = true) e he)
  have h2 := zl_pos_ok g4 h1
  rw [zl_sub_ev] at h2
  have h3 := g5 c hc
  omega
theorem zIv_M {n : Nat} (hn : n ≤ 511) {w : zz_W} (h : zIv zQI n 0 w) : zIv zQM n 0 w := by
  obtain ⟨⟨s, s0, h2⟩, hb⟩ := h
  exact ⟨⟨s, s0, zQA_M (zQI_A h2 s0 hn)⟩, hb⟩
theorem zIv_B {X : zk_St} {n : Nat} {w w' : zz_W} {T : List Nat} (hX : zl_wB X = true) (hn : n ≤ 511) (h : zIv X n 0 w) (hB : zB w T w') : zIv X n 1 w' := by
  obtain ⟨⟨s, s0, h2⟩, hb, c1, c2⟩ := h
  obtain ⟨b1, b2, b3, b4⟩ := zBi_B hB (by omega)
  have hg : ∀ i, i ≠ 16 → i ≠ 17 → i < 329 → zz_g w' i = zz_g w i := by
    obtain ⟨v, N, M, c, ⟨-, -, -, -, -, -, -, -, a⟩, -⟩ := hB
    exact fun i h1 h2 h3 => a i h1 h2 h3
  obtain ⟨v, N, M, c, ⟨hs, -, h16, -, -, -, -, ⟨-, hM⟩, -⟩, -⟩ := hB
  have hI := zI_B hs h16 hM b4 (by omega) hg h2.1.2.2.2.2.2
  exact ⟨⟨s, s0, zG2_B hX hI hg h2⟩, b1, by omega, by omega⟩
theorem zl_i32 (x : Int32) (h : ¬ x < 0) : ∃ k : Nat, k < 2 ^ 31 ∧ x = Int32.ofNat k := by
  have h1 : 0 ≤ x.toInt := by
    have := Int32.not_lt.mp h
    exact Int32.le_iff_toInt_le.mp this
  have h2 := Int32.toInt_lt x
  refine ⟨x.toInt.toNat, by omega, ?_⟩
  rw [← Int32.ofInt_eq_ofNat, Int.toNat_of_nonneg h1, Int32.ofInt_toInt]
end
/-- a method that surely throws -/
theorem zPP_nx {l : Launch} {D : va_G} {cy : Nat → ClassId} {z0 : Nat} {sp : Nat → Nat} {G : State → Prop} {d y : Nat} {q : zk_Ct} {L : List Nat} {XS : List (String × Nat)} {as : List Value} {w : zz_W} (h : zk_PX l zTs D zcl zFK cy z0 sp (zTys cy) G zYN zCN zMQ zRT 64 zHX zPT y q true L (zXE y)) (hd : (Nat.blt q.2.2.2 1000000 && Nat.ble q.2.2.2 (d + 1)) = true) (h5 : 5 ≤ d) (hL : L.all (fun pc => XS.any (fun x => decide (x = zXE y pc))) = true) (ha : as.take q.1.1.2.1.length = as) (hw : w.1 < 16 * 64) : zPP (fun rv w' => rv = [] ∧ ∃ x ∈ XS, zz_MX l zTs D zcl zFK cy z0 sp (zTys cy) G zYN zCN zMQ zRT (d + 1) y as w x.1 (zz_pu w' (3, x.2, 0, 0) 6)) as w q := by
  intro s hG
  obtain ⟨b1, b2⟩ := zz_and hd
  rw [ha] at hG
  obtain ⟨w', s', Q, m1, m2, m3, m4, m5⟩ := h d as w s (by rw [zl_dep_ok b1]; have := zz_ble b2; omega) h5 hw hG
  rcases m4 with ⟨e, -⟩ | ⟨pc, p1, p2, p3⟩
  · cases e
  · obtain ⟨x, x1, x2⟩ := List.any_eq_true.mp (List.all_eq_true.mp hL pc p1)
    have x2 := of_decide_eq_true x2
    exact ⟨[], w', s', Q, m1, ⟨rfl, x, x1, by rw [x2]; exact p2⟩, p3, m5⟩
end
section
/-! helpers and methods between calls, by program -/
/-- what the law's start gives -/
def zHy (l : Launch) (D : va_G) (cy : Nat → ClassId) (z0 : Nat) (sp : Nat → Nat) (G : State → Prop) : Prop := zz_GF z0 G ∧ (∀ U, G U → zz_GD zS zS2 zLg z0 sp U) ∧ zW l D cy z0 sp G ∧ sp 18446744073709551616 = 0 ∧ (∀ k, zW l D cy z0 (zz_spk k sp) G) ∧ zTXp l D cy z0 sp G ∧ l.stackTraces = false ∧ ∀ U, G U → zGX z0 U
/-- the world behind out[0] = a -/
def zWo (w : zz_W) (N : Nat) (a : Int32) : zz_W := zz_up w 328 (1, 3, 1, zz_to 64 N (zz_nI (Int32.ofNat 0)) (zz_nL a.toInt64))
theorem zQM_w9 : zl_w9 zQM = true := by decide +kernel
theorem zQM_ok : zkt_ok zHX (zk_sux zTL zTM zXS) zQM = true := by decide +kernel
theorem zIv_I {X : zk_St} {n e : Nat} {w : zz_W} (h : zIv X n e w) : zk_I 64 zHX w := h.1.choose_spec.2.1.2.2.2.2.2
theorem zTXp_ok {l : Launch} {D : va_G} {cy : Nat → ClassId} {z0 : Nat} {sp : Nat → Nat} {G : State → Prop} (hl : l.stackTraces = false) (hP : ∀ U, G U → zz_GD zS zS2 zLg z0 sp U) (hE : ∀ U, G U → zGX z0 U) (hsp0 : sp 18446744073709551616 = 0) : zTXp l D cy z0 sp G := by
  intro y pc h d lv w hd hs hi
  obtain ⟨p, hp, hb⟩ := List.any_eq_true.mp h
  obtain ⟨b1, b2⟩ := zz_and hb
  have e1 := zz_beq b1
  have e2 := zz_beq b2
  subst e1
  subst e2
  exact (List.forall_mem_cons.mpr ⟨zth_6_43 hl hP hE hd (zz_lb rfl) hsp0 hs hi, List.forall_mem_cons.mpr ⟨zth_17_14 hl hP hE hd (zz_lb rfl) hsp0 hs hi, List.forall_mem_cons.mpr ⟨zth_18_21 hl hP hE hd (zz_lb rfl) hsp0 hs hi, List.forall_mem_cons.mpr ⟨zth_19_26 hl hP hE hd (zz_lb rfl) hsp0 hs hi, List.forall_mem_cons.mpr ⟨zth_16_157 hl hP hE hd (zz_lb rfl) hsp0 hs hi, List.forall_mem_cons.mpr ⟨zth_22_92 hl hP hE hd (zz_lb rfl) hsp0 hs hi, List.forall_mem_cons.mpr ⟨zth_23_26 hl hP hE hd (zz_lb rfl) hsp0 hs hi, List.forall_mem_cons.mpr ⟨zth_69_7 hl hP hE hd (zz_lb rfl) hsp0 hs hi, List.forall_mem_cons.mpr ⟨zth_75_7 hl hP hE hd (zz_lb rfl) hsp0 hs hi, List.forall_mem_cons.mpr ⟨zth_61_9 hl hP hE hd (zz_lb rfl) hsp0 hs hi, List.forall_mem_cons.mpr ⟨zth_65_18 hl hP hE hd (zz_lb rfl) hsp0 hs hi, List.forall_mem_cons.mpr ⟨zth_7_24 hl hP hE hd (zz_lb rfl) hsp0 hs hi, List.forall_mem_cons.mpr ⟨zth_8_73 hl hP hE hd (zz_lb rfl) hsp0 hs hi, List.forall_mem_cons.mpr ⟨zth_9_20 hl hP hE hd (zz_lb rfl) hsp0 hs hi, List.forall_mem_cons.mpr ⟨zth_9_123 hl hP hE hd (zz_lb rfl) hsp0 hs hi, List.forall_mem_cons.mpr ⟨zth_11_20 hl hP hE hd (zz_lb rfl) hsp0 hs hi, List.forall_mem_cons.mpr ⟨zth_11_118 hl hP hE hd (zz_lb rfl) hsp0 hs hi, List.forall_mem_cons.mpr ⟨zth_12_20 hl hP hE hd (zz_lb rfl) hsp0 hs hi, List.forall_mem_cons.mpr ⟨zth_12_148 hl hP hE hd (zz_lb rfl) hsp0 hs hi, List.forall_mem_cons.mpr ⟨zth_13_9 hl hP hE hd (zz_lb rfl) hsp0 hs hi, List.forall_mem_cons.mpr ⟨zth_2_12 hl hP hE hd (zz_lb rfl) hsp0 hs hi, List.forall_mem_cons.mpr ⟨zth_10_20 hl hP hE hd (zz_lb rfl) hsp0 hs hi, List.forall_mem_cons.mpr ⟨zth_10_50 hl hP hE hd (zz_lb rfl) hsp0 hs hi, List.forall_mem_cons.mpr ⟨zth_10_107 hl hP hE hd (zz_lb rfl) hsp0 hs hi, List.forall_mem_cons.mpr ⟨zth_15_17 hl hP hE hd (zz_lb rfl) hsp0 hs hi, List.forall_mem_cons.mpr ⟨zth_15_39 hl hP hE hd (zz_lb rfl) hsp0 hs hi, List.forall_mem_cons.mpr ⟨zth_1_47 hl hP hE hd (zz_lb rfl) hsp0 hs hi, List.forall_mem_cons.mpr ⟨zth_1_88 hl hP hE hd (zz_lb rfl) hsp0 hs hi, List.forall_mem_cons.mpr ⟨zth_14_7 hl hP hE hd (zz_lb rfl) hsp0 hs hi, List.forall_mem_cons.mpr ⟨zth_14_33 hl hP hE hd (zz_lb rfl) hsp0 hs hi, List.forall_mem_cons.mpr ⟨zth_14_62 hl hP hE hd (zz_lb rfl) hsp0 hs hi, List.forall_mem_cons.mpr ⟨zth_21_25 hl hP hE hd (zz_lb rfl) hsp0 hs hi, List.forall_mem_cons.mpr ⟨zth_21_47 hl hP hE hd (zz_lb rfl) hsp0 hs hi, (fun _ h => absurd h List.not_mem_nil)⟩⟩⟩⟩⟩⟩⟩⟩⟩⟩⟩⟩⟩⟩⟩⟩⟩⟩⟩⟩⟩⟩⟩⟩⟩⟩⟩⟩⟩⟩⟩⟩⟩ : ∀ p ∈ zXL, zz_TX l zTs D zcl zFK cy z0 sp (zTys cy) G (zYN p.1.1).cls (zYN p.1.1).name (zMQ p.1.1) (zCN p.1.1) d (p.1.2, lv, [], w) (zXE p.1.1 p.1.2).1 (zz_pu w (3, (zXE p.1.1 p.1.2).2, 0, 0) 6)) p hp
theorem zHc_800 {l : Launch} {D : va_G} {cy : Nat → ClassId} {z0 : Nat} {sp : Nat → Nat} {G : State → Prop} {d : Nat} (hG : zz_GF z0 G) (hP : ∀ U, G U → zz_GD zS zS2 zLg z0 sp U) {w : zz_W} {p0 : Int32} : zz_B l zTs D zcl zFK cy z0 sp (zTys cy) G "ToolMillLaw" "put" 4 method_3_code d (0, [(0, .ref 0), (1, .int p0), (2, .ref 328)], [], w) (4, [(0, .ref 0), (1, .int p0), (2, .ref 328)], [.int p0, .ref 0, .int (Int32.ofNat 0), .ref 328], w) := by
  have T := zt_800 (l := l) (D := D) (cy := cy) (z0 := z0) (sp := sp) (G := G) (d := d) zz_k0_KS hG hP
  have b := zz_B_rf (l := l) (Ts := zTs) (D := D) (cl := zcl) (fk := zFK) (cy := cy) (z0 := z0) (sp := sp) (tys := zTys cy) (G := G) (own := "ToolMillLaw") (mn := "put") (nL := 4) (cc := method_3_code) (d := d) ((0, [(0, .ref 0), (1, .int p0), (2, .ref 328)], [], w) : zz_F)
  replace b := zz_fw b T (rfl : zz_ent zP_800 0 = (0, za_aload 2 1)) (ze_aload rfl)
  replace b := zz_fw b T (rfl : zz_ent zP_800 1 = (0, za_const (.int (Int32.ofNat 0)) 2)) (ze_const)
  replace b := zz_fw b T (rfl : zz_ent zP_800 2 = (0, za_aload 0 3)) (ze_aload rfl)
  replace b := zz_fw b T (rfl : zz_ent zP_800 3 = (0, za_iload 1 4)) (ze_iload rfl)
  exact b
theorem zHr_800 {l : Launch} {D : va_G} {cy : Nat → ClassId} {z0 : Nat} {sp : Nat → Nat} {G : State → Prop} {d : Nat} (hG : zz_GF z0 G) (hP : ∀ U, G U → zz_GD zS zS2 zLg z0 sp U) {p0 : Int32} {w w' : zz_W} {a : Int32} {N : Nat} (hs : zz_sh w') (hN : zz_has w' 328 (1, 3, 1, N)) (h0 : zz_ic w 0 1 = true) (hM : zz_M l zTs D zcl zFK cy z0 sp (zTys cy) G zYN zCN zMQ zRT d 1 [.ref 0, .int p0] w [.int a] w') : zz_MH l zTs D zcl zFK cy z0 sp (zTys cy) G zy_800 method_3_code 4 (some .int) [(0, 9, 12, 13), (0, 9, 15, 15)] (d + 1) [.ref 0, .int p0, .ref 328] w [.int (Int32.ofNat 0)] (zWo w' N a) := by
  have T := zt_800 (l := l) (D := D) (cy := cy) (z0 := z0) (sp := sp) (G := G) (d := d) zz_k0_KS hG hP
  have TK := fun (K : zz_K) (h : zz_KS l D zcl zFK cy z0 sp (zTys cy) G zYN (fun y => Cond.code (zYN y) (zCN y) (zMQ y) (zRT y) :: zTs) d K) => zt_800 h hG hP
  have b := zHc_800 (d := d) (l := l) (D := D) (cy := cy) (sp := sp) (w := w) (p0 := p0) hG hP
  replace b := zz_fVi b TK (rfl : zz_ent zP_800 4 = (0, za_callV 1 1 1 7)) hM rfl rfl h0 (zz_lb rfl)
  replace b := zz_fw b T (rfl : zz_ent zP_800 7 = (0, za_i2l 8)) (ze_i2l rfl)
  replace b := zz_fw b T (rfl : zz_ent zP_800 8 = (0, za_astL 3 9)) (ze_astL hs hN (by decide) (by decide))
  replace b := zz_fw b T (rfl : zz_ent zP_800 9 = (0, za_goto 18)) (ze_goto)
  replace b := zz_fw b T (rfl : zz_ent zP_800 18 = (0, za_const (.int (Int32.ofNat 0)) 19)) (ze_const)
  exact zz_MH_B rfl rfl (by decide +kernel) (zz_lb rfl) (zz_lb rfl) (zz_end_i zd_800_19) b
theorem zHx_800_0 {l : Launch} {D : va_G} {cy : Nat → ClassId} {z0 : Nat} {sp : Nat → Nat} {G : State → Prop} {d : Nat} (hG : zz_GF z0 G) (hP : ∀ U, G U → zz_GD zS zS2 zLg z0 sp U) (hE : ∀ U, G U → zGX z0 U) {p0 : Int32} {w w' : zz_W} (h0 : zz_ic w 0 1 = true) (hM : zz_MX l zTs D zcl zFK cy z0 sp (zTys cy) G zYN zCN zMQ zRT d 1 [.ref 0, .int p0] w "java/lang/IllegalArgumentException" w') : zz_MH l zTs D zcl zFK cy z0 sp (zTys cy) G zy_800 method_3_code 4 (some .int) [(0, 9, 12, 13), (0, 9, 15, 15)] (d + 1) [.ref 0, .int p0, .ref 328] w [.int (Int32.ofNat 1)] w' :=
  zhx_800_0 (as := [.ref 0, .int p0, .ref 328]) (bs := [.int p0]) (r := [.int (Int32.ofNat 0), .ref 328]) hG hE (zz_lb rfl) (zHc_800 (d := d) (l := l) (D := D) (cy := cy) (sp := sp) (w := w) (p0 := p0) hG hP) hM rfl h0 (zz_lb rfl)
theorem zHx_800_1 {l : Launch} {D : va_G} {cy : Nat → ClassId} {z0 : Nat} {sp : Nat → Nat} {G : State → Prop} {d : Nat} (hG : zz_GF z0 G) (hP : ∀ U, G U → zz_GD zS zS2 zLg z0 sp U) (hE : ∀ U, G U → zGX z0 U) {p0 : Int32} {w w' : zz_W} (h0 : zz_ic w 0 1 = true) (hM : zz_MX l zTs D zcl zFK cy z0 sp (zTys cy) G zYN zCN zMQ zRT d 1 [.ref 0, .int p0] w "java/lang/UnsupportedOperationException" w') : zz_MH l zTs D zcl zFK cy z0 sp (zTys cy) G zy_800 method_3_code 4 (some .int) [(0, 9, 12, 13), (0, 9, 15, 15)] (d + 1) [.ref 0, .int p0, .ref 328] w [.int (Int32.ofNat 2)] w' :=
  zhx_800_1 (as := [.ref 0, .int p0, .ref 328]) (bs := [.int p0]) (r := [.int (Int32.ofNat 0), .ref 328]) hG hE (zz_lb rfl) (zHc_800 (d := d) (l := l) (D := D) (cy := cy) (sp := sp) (w := w) (p0 := p0) hG hP) hM rfl h0 (zz_lb rfl)
theorem zHc_801 {l : Launch} {D : va_G} {cy : Nat → ClassId} {z0 : Nat} {sp : Nat → Nat} {G : State → Prop} {d : Nat} (hG : zz_GF z0 G) (hP : ∀ U, G U → zz_GD zS zS2 zLg z0 sp U) {w : zz_W} {p0 : Int32} : zz_B l zTs D zcl zFK cy z0 sp (zTys cy) G "ToolMillLaw" "end" 3 method_4_code d (0, [(0, .ref 0), (1, .int p0)], [], w) (2, [(0, .ref 0), (1, .int p0)], [.int p0, .ref 0], w) := by
  have T := zt_801 (l := l) (D := D) (cy := cy) (z0 := z0) (sp := sp) (G := G) (d := d) zz_k0_KS hG hP
  have b := zz_B_rf (l := l) (Ts := zTs) (D := D) (cl := zcl) (fk := zFK) (cy := cy) (z0 := z0) (sp := sp) (tys := zTys cy) (G := G) (own := "ToolMillLaw") (mn := "end") (nL := 3) (cc := method_4_code) (d := d) ((0, [(0, .ref 0), (1, .int p0)], [], w) : zz_F)
  replace b := zz_fw b T (rfl : zz_ent zP_801 0 = (0, za_aload 0 1)) (ze_aload rfl)
  replace b := zz_fw b T (rfl : zz_ent zP_801 1 = (0, za_iload 1 2)) (ze_iload rfl)
  exact b
theorem zHr_801 {l : Launch} {D : va_G} {cy : Nat → ClassId} {z0 : Nat} {sp : Nat → Nat} {G : State → Prop} {d : Nat} (hG : zz_GF z0 G) (hP : ∀ U, G U → zz_GD zS zS2 zLg z0 sp U) {p0 : Int32} {w w' : zz_W} (h0 : zz_ic w 0 1 = true) (hM : zz_M l zTs D zcl zFK cy z0 sp (zTys cy) G zYN zCN zMQ zRT d 2 [.ref 0, .int p0] w [] w') : zz_MH l zTs D zcl zFK cy z0 sp (zTys cy) G zy_801 method_4_code 3 (some .int) [(0, 5, 8, 13)] (d + 1) [.ref 0, .int p0] w [.int (Int32.ofNat 0)] w' := by
  have T := zt_801 (l := l) (D := D) (cy := cy) (z0 := z0) (sp := sp) (G := G) (d := d) zz_k0_KS hG hP
  have TK := fun (K : zz_K) (h : zz_KS l D zcl zFK cy z0 sp (zTys cy) G zYN (fun y => Cond.code (zYN y) (zCN y) (zMQ y) (zRT y) :: zTs) d K) => zt_801 h hG hP
  have b := zHc_801 (d := d) (l := l) (D := D) (cy := cy) (sp := sp) (w := w) (p0 := p0) hG hP
  replace b := zz_fVv b TK (rfl : zz_ent zP_801 2 = (0, za_callV 1 2 1 5)) hM rfl rfl h0 (zz_lb rfl)
  replace b := zz_fw b T (rfl : zz_ent zP_801 5 = (0, za_goto 11)) (ze_goto)
  replace b := zz_fw b T (rfl : zz_ent zP_801 11 = (0, za_const (.int (Int32.ofNat 0)) 12)) (ze_const)
  exact zz_MH_B rfl rfl (by decide +kernel) (zz_lb rfl) (zz_lb rfl) (zz_end_i zd_801_12) b
theorem zHx_801_0 {l : Launch} {D : va_G} {cy : Nat → ClassId} {z0 : Nat} {sp : Nat → Nat} {G : State → Prop} {d : Nat} (hG : zz_GF z0 G) (hP : ∀ U, G U → zz_GD zS zS2 zLg z0 sp U) (hE : ∀ U, G U → zGX z0 U) {p0 : Int32} {w w' : zz_W} (h0 : zz_ic w 0 1 = true) (hM : zz_MX l zTs D zcl zFK cy z0 sp (zTys cy) G zYN zCN zMQ zRT d 2 [.ref 0, .int p0] w "java/lang/IllegalArgumentException" w') : zz_MH l zTs D zcl zFK cy z0 sp (zTys cy) G zy_801 method_4_code 3 (some .int) [(0, 5, 8, 13)] (d + 1) [.ref 0, .int p0] w [.int (Int32.ofNat 1)] w' :=
  zhx_801_0 (as := [.ref 0, .int p0]) (bs := [.int p0]) (r := []) hG hE (zz_lb rfl) (zHc_801 (d := d) (l := l) (D := D) (cy := cy) (sp := sp) (w := w) (p0 := p0) hG hP) hM rfl h0 (zz_lb rfl)
theorem zHc_802 {l : Launch} {D : va_G} {cy : Nat → ClassId} {z0 : Nat} {sp : Nat → Nat} {G : State → Prop} {d : Nat} (hG : zz_GF z0 G) (hP : ∀ U, G U → zz_GD zS zS2 zLg z0 sp U) {w : zz_W}  : zz_B l zTs D zcl zFK cy z0 sp (zTys cy) G "ToolMillLaw" "source" 3 method_5_code d (0, [(0, .ref 0), (1, .ref 328)], [], w) (3, [(0, .ref 0), (1, .ref 328)], [.ref 0, .int (Int32.ofNat 0), .ref 328], w) := by
  have T := zt_802 (l := l) (D := D) (cy := cy) (z0 := z0) (sp := sp) (G := G) (d := d) zz_k0_KS hG hP
  have b := zz_B_rf (l := l) (Ts := zTs) (D := D) (cl := zcl) (fk := zFK) (cy := cy) (z0 := z0) (sp := sp) (tys := zTys cy) (G := G) (own := "ToolMillLaw") (mn := "source") (nL := 3) (cc := method_5_code) (d := d) ((0, [(0, .ref 0), (1, .ref 328)], [], w) : zz_F)
  replace b := zz_fw b T (rfl : zz_ent zP_802 0 = (0, za_aload 1 1)) (ze_aload rfl)
  replace b := zz_fw b T (rfl : zz_ent zP_802 1 = (0, za_const (.int (Int32.ofNat 0)) 2)) (ze_const)
  replace b := zz_fw b T (rfl : zz_ent zP_802 2 = (0, za_aload 0 3)) (ze_aload rfl)
  exact b
theorem zHr_802 {l : Launch} {D : va_G} {cy : Nat → ClassId} {z0 : Nat} {sp : Nat → Nat} {G : State → Prop} {d : Nat} (hG : zz_GF z0 G) (hP : ∀ U, G U → zz_GD zS zS2 zLg z0 sp U)  {w w' : zz_W} {a : Int32} {N : Nat} (hs : zz_sh w') (hN : zz_has w' 328 (1, 3, 1, N)) (h0 : zz_ic w 0 1 = true) (hM : zz_M l zTs D zcl zFK cy z0 sp (zTys cy) G zYN zCN zMQ zRT d 3 [.ref 0] w [.int a] w') : zz_MH l zTs D zcl zFK cy z0 sp (zTys cy) G zy_802 method_5_code 3 (some .int) [(0, 8, 11, 25)] (d + 1) [.ref 0, .ref 328] w [.int (Int32.ofNat 0)] (zWo w' N a) := by
  have T := zt_802 (l := l) (D := D) (cy := cy) (z0 := z0) (sp := sp) (G := G) (d := d) zz_k0_KS hG hP
  have TK := fun (K : zz_K) (h : zz_KS l D zcl zFK cy z0 sp (zTys cy) G zYN (fun y => Cond.code (zYN y) (zCN y) (zMQ y) (zRT y) :: zTs) d K) => zt_802 h hG hP
  have b := zHc_802 (d := d) (l := l) (D := D) (cy := cy) (sp := sp) (w := w) hG hP
  replace b := zz_fVi b TK (rfl : zz_ent zP_802 3 = (0, za_callV 1 3 0 6)) hM rfl rfl h0 (zz_lb rfl)
  replace b := zz_fw b T (rfl : zz_ent zP_802 6 = (0, za_i2l 7)) (ze_i2l rfl)
  replace b := zz_fw b T (rfl : zz_ent zP_802 7 = (0, za_astL 3 8)) (ze_astL hs hN (by decide) (by decide))
  replace b := zz_fw b T (rfl : zz_ent zP_802 8 = (0, za_goto 14)) (ze_goto)
  replace b := zz_fw b T (rfl : zz_ent zP_802 14 = (0, za_const (.int (Int32.ofNat 0)) 15)) (ze_const)
  exact zz_MH_B rfl rfl (by decide +kernel) (zz_lb rfl) (zz_lb rfl) (zz_end_i zd_802_15) b
theorem zHx_802_0 {l : Launch} {D : va_G} {cy : Nat → ClassId} {z0 : Nat} {sp : Nat → Nat} {G : State → Prop} {d : Nat} (hG : zz_GF z0 G) (hP : ∀ U, G U → zz_GD zS zS2 zLg z0 sp U) (hE : ∀ U, G U → zGX z0 U)  {w w' : zz_W} (h0 : zz_ic w 0 1 = true) (hM : zz_MX l zTs D zcl zFK cy z0 sp (zTys cy) G zYN zCN zMQ zRT d 3 [.ref 0] w "java/lang/IllegalStateException" w') : zz_MH l zTs D zcl zFK cy z0 sp (zTys cy) G zy_802 method_5_code 3 (some .int) [(0, 8, 11, 25)] (d + 1) [.ref 0, .ref 328] w [.int (Int32.ofNat 1)] w' :=
  zhx_802_0 (as := [.ref 0, .ref 328]) (bs := []) (r := [.int (Int32.ofNat 0), .ref 328]) hG hE (zz_lb rfl) (zHc_802 (d := d) (l := l) (D := D) (cy := cy) (sp := sp) (w := w) hG hP) hM rfl h0 (zz_lb rfl)
theorem zHc_803 {l : Launch} {D : va_G} {cy : Nat → ClassId} {z0 : Nat} {sp : Nat → Nat} {G : State → Prop} {d : Nat} (hG : zz_GF z0 G) (hP : ∀ U, G U → zz_GD zS zS2 zLg z0 sp U) {w : zz_W}  : zz_B l zTs D zcl zFK cy z0 sp (zTys cy) G "ToolMillLaw" "assemble" 3 method_6_code d (0, [(0, .ref 0), (1, .ref 328)], [], w) (3, [(0, .ref 0), (1, .ref 328)], [.ref 0, .int (Int32.ofNat 0), .ref 328], w) := by
  have T := zt_803 (l := l) (D := D) (cy := cy) (z0 := z0) (sp := sp) (G := G) (d := d) zz_k0_KS hG hP
  have b := zz_B_rf (l := l) (Ts := zTs) (D := D) (cl := zcl) (fk := zFK) (cy := cy) (z0 := z0) (sp := sp) (tys := zTys cy) (G := G) (own := "ToolMillLaw") (mn := "assemble") (nL := 3) (cc := method_6_code) (d := d) ((0, [(0, .ref 0), (1, .ref 328)], [], w) : zz_F)
  replace b := zz_fw b T (rfl : zz_ent zP_803 0 = (0, za_aload 1 1)) (ze_aload rfl)
  replace b := zz_fw b T (rfl : zz_ent zP_803 1 = (0, za_const (.int (Int32.ofNat 0)) 2)) (ze_const)
  replace b := zz_fw b T (rfl : zz_ent zP_803 2 = (0, za_aload 0 3)) (ze_aload rfl)
  exact b
theorem zHr_803 {l : Launch} {D : va_G} {cy : Nat → ClassId} {z0 : Nat} {sp : Nat → Nat} {G : State → Prop} {d : Nat} (hG : zz_GF z0 G) (hP : ∀ U, G U → zz_GD zS zS2 zLg z0 sp U)  {w w' : zz_W} {a : Int32} {N : Nat} (hs : zz_sh w') (hN : zz_has w' 328 (1, 3, 1, N)) (h0 : zz_ic w 0 1 = true) (hM : zz_M l zTs D zcl zFK cy z0 sp (zTys cy) G zYN zCN zMQ zRT d 4 [.ref 0] w [.int a] w') : zz_MH l zTs D zcl zFK cy z0 sp (zTys cy) G zy_803 method_6_code 3 (some .int) [(0, 8, 11, 25)] (d + 1) [.ref 0, .ref 328] w [.int (Int32.ofNat 0)] (zWo w' N a) := by
  have T := zt_803 (l := l) (D := D) (cy := cy) (z0 := z0) (sp := sp) (G := G) (d := d) zz_k0_KS hG hP
  have TK := fun (K : zz_K) (h : zz_KS l D zcl zFK cy z0 sp (zTys cy) G zYN (fun y => Cond.code (zYN y) (zCN y) (zMQ y) (zRT y) :: zTs) d K) => zt_803 h hG hP
  have b := zHc_803 (d := d) (l := l) (D := D) (cy := cy) (sp := sp) (w := w) hG hP
  replace b := zz_fVi b TK (rfl : zz_ent zP_803 3 = (0, za_callV 1 4 0 6)) hM rfl rfl h0 (zz_lb rfl)
  replace b := zz_fw b T (rfl : zz_ent zP_803 6 = (0, za_i2l 7)) (ze_i2l rfl)
  replace b := zz_fw b T (rfl : zz_ent zP_803 7 = (0, za_astL 3 8)) (ze_astL hs hN (by decide) (by decide))
  replace b := zz_fw b T (rfl : zz_ent zP_803 8 = (0, za_goto 14)) (ze_goto)
  replace b := zz_fw b T (rfl : zz_ent zP_803 14 = (0, za_const (.int (Int32.ofNat 0)) 15)) (ze_const)
  exact zz_MH_B rfl rfl (by decide +kernel) (zz_lb rfl) (zz_lb rfl) (zz_end_i zd_803_15) b
theorem zHx_803_0 {l : Launch} {D : va_G} {cy : Nat → ClassId} {z0 : Nat} {sp : Nat → Nat} {G : State → Prop} {d : Nat} (hG : zz_GF z0 G) (hP : ∀ U, G U → zz_GD zS zS2 zLg z0 sp U) (hE : ∀ U, G U → zGX z0 U)  {w w' : zz_W} (h0 : zz_ic w 0 1 = true) (hM : zz_MX l zTs D zcl zFK cy z0 sp (zTys cy) G zYN zCN zMQ zRT d 4 [.ref 0] w "java/lang/IllegalStateException" w') : zz_MH l zTs D zcl zFK cy z0 sp (zTys cy) G zy_803 method_6_code 3 (some .int) [(0, 8, 11, 25)] (d + 1) [.ref 0, .ref 328] w [.int (Int32.ofNat 1)] w' :=
  zhx_803_0 (as := [.ref 0, .ref 328]) (bs := []) (r := [.int (Int32.ofNat 0), .ref 328]) hG hE (zz_lb rfl) (zHc_803 (d := d) (l := l) (D := D) (cy := cy) (sp := sp) (w := w) hG hP) hM rfl h0 (zz_lb rfl)
theorem zHc_804 {l : Launch} {D : va_G} {cy : Nat → ClassId} {z0 : Nat} {sp : Nat → Nat} {G : State → Prop} {d : Nat} (hG : zz_GF z0 G) (hP : ∀ U, G U → zz_GD zS zS2 zLg z0 sp U) {w : zz_W} {p0 : Int32} : zz_B l zTs D zcl zFK cy z0 sp (zTys cy) G "ToolMillLaw" "fault" 4 method_7_code d (0, [(0, .ref 0), (1, .int p0), (2, .ref 328)], [], w) (4, [(0, .ref 0), (1, .int p0), (2, .ref 328)], [.int p0, .ref 0, .int (Int32.ofNat 0), .ref 328], w) := by
  have T := zt_804 (l := l) (D := D) (cy := cy) (z0 := z0) (sp := sp) (G := G) (d := d) zz_k0_KS hG hP
  have b := zz_B_rf (l := l) (Ts := zTs) (D := D) (cl := zcl) (fk := zFK) (cy := cy) (z0 := z0) (sp := sp) (tys := zTys cy) (G := G) (own := "ToolMillLaw") (mn := "fault") (nL := 4) (cc := method_7_code) (d := d) ((0, [(0, .ref 0), (1, .int p0), (2, .ref 328)], [], w) : zz_F)
  replace b := zz_fw b T (rfl : zz_ent zP_804 0 = (0, za_aload 2 1)) (ze_aload rfl)
  replace b := zz_fw b T (rfl : zz_ent zP_804 1 = (0, za_const (.int (Int32.ofNat 0)) 2)) (ze_const)
  replace b := zz_fw b T (rfl : zz_ent zP_804 2 = (0, za_aload 0 3)) (ze_aload rfl)
  replace b := zz_fw b T (rfl : zz_ent zP_804 3 = (0, za_iload 1 4)) (ze_iload rfl)
  exact b
theorem zHr_804 {l : Launch} {D : va_G} {cy : Nat → ClassId} {z0 : Nat} {sp : Nat → Nat} {G : State → Prop} {d : Nat} (hG : zz_GF z0 G) (hP : ∀ U, G U → zz_GD zS zS2 zLg z0 sp U) {p0 : Int32} {w w' : zz_W} {a : Int32} {N : Nat} (hs : zz_sh w') (hN : zz_has w' 328 (1, 3, 1, N)) (h0 : zz_ic w 0 1 = true) (hM : zz_M l zTs D zcl zFK cy z0 sp (zTys cy) G zYN zCN zMQ zRT d 6 [.ref 0, .int p0] w [.int a] w') : zz_MH l zTs D zcl zFK cy z0 sp (zTys cy) G zy_804 method_7_code 4 (some .int) [(0, 9, 12, 13)] (d + 1) [.ref 0, .int p0, .ref 328] w [.int (Int32.ofNat 0)] (zWo w' N a) := by
  have T := zt_804 (l := l) (D := D) (cy := cy) (z0 := z0) (sp := sp) (G := G) (d := d) zz_k0_KS hG hP
  have TK := fun (K : zz_K) (h : zz_KS l D zcl zFK cy z0 sp (zTys cy) G zYN (fun y => Cond.code (zYN y) (zCN y) (zMQ y) (zRT y) :: zTs) d K) => zt_804 h hG hP
  have b := zHc_804 (d := d) (l := l) (D := D) (cy := cy) (sp := sp) (w := w) (p0 := p0) hG hP
  replace b := zz_fVi b TK (rfl : zz_ent zP_804 4 = (0, za_callV 1 6 1 7)) hM rfl rfl h0 (zz_lb rfl)
  replace b := zz_fw b T (rfl : zz_ent zP_804 7 = (0, za_i2l 8)) (ze_i2l rfl)
  replace b := zz_fw b T (rfl : zz_ent zP_804 8 = (0, za_astL 3 9)) (ze_astL hs hN (by decide) (by decide))
  replace b := zz_fw b T (rfl : zz_ent zP_804 9 = (0, za_goto 15)) (ze_goto)
  replace b := zz_fw b T (rfl : zz_ent zP_804 15 = (0, za_const (.int (Int32.ofNat 0)) 16)) (ze_const)
  exact zz_MH_B rfl rfl (by decide +kernel) (zz_lb rfl) (zz_lb rfl) (zz_end_i zd_804_16) b
theorem zHx_804_0 {l : Launch} {D : va_G} {cy : Nat → ClassId} {z0 : Nat} {sp : Nat → Nat} {G : State → Prop} {d : Nat} (hG : zz_GF z0 G) (hP : ∀ U, G U → zz_GD zS zS2 zLg z0 sp U) (hE : ∀ U, G U → zGX z0 U) {p0 : Int32} {w w' : zz_W} (h0 : zz_ic w 0 1 = true) (hM : zz_MX l zTs D zcl zFK cy z0 sp (zTys cy) G zYN zCN zMQ zRT d 6 [.ref 0, .int p0] w "java/lang/IllegalArgumentException" w') : zz_MH l zTs D zcl zFK cy z0 sp (zTys cy) G zy_804 method_7_code 4 (some .int) [(0, 9, 12, 13)] (d + 1) [.ref 0, .int p0, .ref 328] w [.int (Int32.ofNat 1)] w' :=
  zhx_804_0 (as := [.ref 0, .int p0, .ref 328]) (bs := [.int p0]) (r := [.int (Int32.ofNat 0), .ref 328]) hG hE (zz_lb rfl) (zHc_804 (d := d) (l := l) (D := D) (cy := cy) (sp := sp) (w := w) (p0 := p0) hG hP) hM rfl h0 (zz_lb rfl)
theorem zHc_805 {l : Launch} {D : va_G} {cy : Nat → ClassId} {z0 : Nat} {sp : Nat → Nat} {G : State → Prop} {d : Nat} (hG : zz_GF z0 G) (hP : ∀ U, G U → zz_GD zS zS2 zLg z0 sp U) {w : zz_W} {p0 : Int32} {p1 : Int32} : zz_B l zTs D zcl zFK cy z0 sp (zTys cy) G "ToolMillLaw" "typed" 5 method_8_code d (0, [(0, .ref 0), (1, .int p0), (2, .int p1), (3, .ref 328)], [], w) (5, [(0, .ref 0), (1, .int p0), (2, .int p1), (3, .ref 328)], [.int p1, .int p0, .ref 0, .int (Int32.ofNat 0), .ref 328], w) := by
  have T := zt_805 (l := l) (D := D) (cy := cy) (z0 := z0) (sp := sp) (G := G) (d := d) zz_k0_KS hG hP
  have b := zz_B_rf (l := l) (Ts := zTs) (D := D) (cl := zcl) (fk := zFK) (cy := cy) (z0 := z0) (sp := sp) (tys := zTys cy) (G := G) (own := "ToolMillLaw") (mn := "typed") (nL := 5) (cc := method_8_code) (d := d) ((0, [(0, .ref 0), (1, .int p0), (2, .int p1), (3, .ref 328)], [], w) : zz_F)
  replace b := zz_fw b T (rfl : zz_ent zP_805 0 = (0, za_aload 3 1)) (ze_aload rfl)
  replace b := zz_fw b T (rfl : zz_ent zP_805 1 = (0, za_const (.int (Int32.ofNat 0)) 2)) (ze_const)
  replace b := zz_fw b T (rfl : zz_ent zP_805 2 = (0, za_aload 0 3)) (ze_aload rfl)
  replace b := zz_fw b T (rfl : zz_ent zP_805 3 = (0, za_iload 1 4)) (ze_iload rfl)
  replace b := zz_fw b T (rfl : zz_ent zP_805 4 = (0, za_iload 2 5)) (ze_iload rfl)
  exact b
theorem zHr_805 {l : Launch} {D : va_G} {cy : Nat → ClassId} {z0 : Nat} {sp : Nat → Nat} {G : State → Prop} {d : Nat} (hG : zz_GF z0 G) (hP : ∀ U, G U → zz_GD zS zS2 zLg z0 sp U) {p0 : Int32} {p1 : Int32} {w w' : zz_W} {a : Int32} {N : Nat} (hs : zz_sh w') (hN : zz_has w' 328 (1, 3, 1, N)) (h0 : zz_ic w 0 1 = true) (hM : zz_M l zTs D zcl zFK cy z0 sp (zTys cy) G zYN zCN zMQ zRT d 7 [.ref 0, .int p0, .int p1] w [.int a] w') : zz_MH l zTs D zcl zFK cy z0 sp (zTys cy) G zy_805 method_8_code 5 (some .int) [(0, 10, 13, 37)] (d + 1) [.ref 0, .int p0, .int p1, .ref 328] w [.int (Int32.ofNat 0)] (zWo w' N a) := by
  have T := zt_805 (l := l) (D := D) (cy := cy) (z0 := z0) (sp := sp) (G := G) (d := d) zz_k0_KS hG hP
  have TK := fun (K : zz_K) (h : zz_KS l D zcl zFK cy z0 sp (zTys cy) G zYN (fun y => Cond.code (zYN y) (zCN y) (zMQ y) (zRT y) :: zTs) d K) => zt_805 h hG hP
  have b := zHc_805 (d := d) (l := l) (D := D) (cy := cy) (sp := sp) (w := w) (p0 := p0) (p1 := p1) hG hP
  replace b := zz_fVi b TK (rfl : zz_ent zP_805 5 = (0, za_callV 1 7 2 8)) hM rfl rfl h0 (zz_lb rfl)
  replace b := zz_fw b T (rfl : zz_ent zP_805 8 = (0, za_i2l 9)) (ze_i2l rfl)
  replace b := zz_fw b T (rfl : zz_ent zP_805 9 = (0, za_astL 3 10)) (ze_astL hs hN (by decide) (by decide))
  replace b := zz_fw b T (rfl : zz_ent zP_805 10 = (0, za_goto 17)) (ze_goto)
  replace b := zz_fw b T (rfl : zz_ent zP_805 17 = (0, za_const (.int (Int32.ofNat 0)) 18)) (ze_const)
  exact zz_MH_B rfl rfl (by decide +kernel) (zz_lb rfl) (zz_lb rfl) (zz_end_i zd_805_18) b
theorem zHx_805_0 {l : Launch} {D : va_G} {cy : Nat → ClassId} {z0 : Nat} {sp : Nat → Nat} {G : State → Prop} {d : Nat} (hG : zz_GF z0 G) (hP : ∀ U, G U → zz_GD zS zS2 zLg z0 sp U) (hE : ∀ U, G U → zGX z0 U) {p0 : Int32} {p1 : Int32} {w w' : zz_W} (h0 : zz_ic w 0 1 = true) (hM : zz_MX l zTs D zcl zFK cy z0 sp (zTys cy) G zYN zCN zMQ zRT d 7 [.ref 0, .int p0, .int p1] w "java/util/NoSuchElementException" w') : zz_MH l zTs D zcl zFK cy z0 sp (zTys cy) G zy_805 method_8_code 5 (some .int) [(0, 10, 13, 37)] (d + 1) [.ref 0, .int p0, .int p1, .ref 328] w [.int (Int32.ofNat 1)] w' :=
  zhx_805_0 (as := [.ref 0, .int p0, .int p1, .ref 328]) (bs := [.int p0, .int p1]) (r := [.int (Int32.ofNat 0), .ref 328]) hG hE (zz_lb rfl) (zHc_805 (d := d) (l := l) (D := D) (cy := cy) (sp := sp) (w := w) (p0 := p0) (p1 := p1) hG hP) hM rfl h0 (zz_lb rfl)
theorem zHc_806 {l : Launch} {D : va_G} {cy : Nat → ClassId} {z0 : Nat} {sp : Nat → Nat} {G : State → Prop} {d : Nat} (hG : zz_GF z0 G) (hP : ∀ U, G U → zz_GD zS zS2 zLg z0 sp U) {w : zz_W} {p0 : Int32} {p1 : Int32} : zz_B l zTs D zcl zFK cy z0 sp (zTys cy) G "ToolMillLaw" "unit" 5 method_9_code d (0, [(0, .ref 0), (1, .int p0), (2, .int p1), (3, .ref 328)], [], w) (5, [(0, .ref 0), (1, .int p0), (2, .int p1), (3, .ref 328)], [.int p1, .int p0, .ref 0, .int (Int32.ofNat 0), .ref 328], w) := by
  have T := zt_806 (l := l) (D := D) (cy := cy) (z0 := z0) (sp := sp) (G := G) (d := d) zz_k0_KS hG hP
  have b := zz_B_rf (l := l) (Ts := zTs) (D := D) (cl := zcl) (fk := zFK) (cy := cy) (z0 := z0) (sp := sp) (tys := zTys cy) (G := G) (own := "ToolMillLaw") (mn := "unit") (nL := 5) (cc := method_9_code) (d := d) ((0, [(0, .ref 0), (1, .int p0), (2, .int p1), (3, .ref 328)], [], w) : zz_F)
  replace b := zz_fw b T (rfl : zz_ent zP_806 0 = (0, za_aload 3 1)) (ze_aload rfl)
  replace b := zz_fw b T (rfl : zz_ent zP_806 1 = (0, za_const (.int (Int32.ofNat 0)) 2)) (ze_const)
  replace b := zz_fw b T (rfl : zz_ent zP_806 2 = (0, za_aload 0 3)) (ze_aload rfl)
  replace b := zz_fw b T (rfl : zz_ent zP_806 3 = (0, za_iload 1 4)) (ze_iload rfl)
  replace b := zz_fw b T (rfl : zz_ent zP_806 4 = (0, za_iload 2 5)) (ze_iload rfl)
  exact b
theorem zHr_806 {l : Launch} {D : va_G} {cy : Nat → ClassId} {z0 : Nat} {sp : Nat → Nat} {G : State → Prop} {d : Nat} (hG : zz_GF z0 G) (hP : ∀ U, G U → zz_GD zS zS2 zLg z0 sp U) {p0 : Int32} {p1 : Int32} {w w' : zz_W} {a : Int32} {N : Nat} (hs : zz_sh w') (hN : zz_has w' 328 (1, 3, 1, N)) (h0 : zz_ic w 0 1 = true) (hM : zz_M l zTs D zcl zFK cy z0 sp (zTys cy) G zYN zCN zMQ zRT d 8 [.ref 0, .int p0, .int p1] w [.int a] w') : zz_MH l zTs D zcl zFK cy z0 sp (zTys cy) G zy_806 method_9_code 5 (some .int) [(0, 10, 13, 37), (0, 10, 17, 13)] (d + 1) [.ref 0, .int p0, .int p1, .ref 328] w [.int (Int32.ofNat 0)] (zWo w' N a) := by
  have T := zt_806 (l := l) (D := D) (cy := cy) (z0 := z0) (sp := sp) (G := G) (d := d) zz_k0_KS hG hP
  have TK := fun (K : zz_K) (h : zz_KS l D zcl zFK cy z0 sp (zTys cy) G zYN (fun y => Cond.code (zYN y) (zCN y) (zMQ y) (zRT y) :: zTs) d K) => zt_806 h hG hP
  have b := zHc_806 (d := d) (l := l) (D := D) (cy := cy) (sp := sp) (w := w) (p0 := p0) (p1 := p1) hG hP
  replace b := zz_fVi b TK (rfl : zz_ent zP_806 5 = (0, za_callV 1 8 2 8)) hM rfl rfl h0 (zz_lb rfl)
  replace b := zz_fw b T (rfl : zz_ent zP_806 8 = (0, za_i2l 9)) (ze_i2l rfl)
  replace b := zz_fw b T (rfl : zz_ent zP_806 9 = (0, za_astL 3 10)) (ze_astL hs hN (by decide) (by decide))
  replace b := zz_fw b T (rfl : zz_ent zP_806 10 = (0, za_goto 21)) (ze_goto)
  replace b := zz_fw b T (rfl : zz_ent zP_806 21 = (0, za_const (.int (Int32.ofNat 0)) 22)) (ze_const)
  exact zz_MH_B rfl rfl (by decide +kernel) (zz_lb rfl) (zz_lb rfl) (zz_end_i zd_806_22) b
theorem zHx_806_0 {l : Launch} {D : va_G} {cy : Nat → ClassId} {z0 : Nat} {sp : Nat → Nat} {G : State → Prop} {d : Nat} (hG : zz_GF z0 G) (hP : ∀ U, G U → zz_GD zS zS2 zLg z0 sp U) (hE : ∀ U, G U → zGX z0 U) {p0 : Int32} {p1 : Int32} {w w' : zz_W} (h0 : zz_ic w 0 1 = true) (hM : zz_MX l zTs D zcl zFK cy z0 sp (zTys cy) G zYN zCN zMQ zRT d 8 [.ref 0, .int p0, .int p1] w "java/util/NoSuchElementException" w') : zz_MH l zTs D zcl zFK cy z0 sp (zTys cy) G zy_806 method_9_code 5 (some .int) [(0, 10, 13, 37), (0, 10, 17, 13)] (d + 1) [.ref 0, .int p0, .int p1, .ref 328] w [.int (Int32.ofNat 1)] w' :=
  zhx_806_0 (as := [.ref 0, .int p0, .int p1, .ref 328]) (bs := [.int p0, .int p1]) (r := [.int (Int32.ofNat 0), .ref 328]) hG hE (zz_lb rfl) (zHc_806 (d := d) (l := l) (D := D) (cy := cy) (sp := sp) (w := w) (p0 := p0) (p1 := p1) hG hP) hM rfl h0 (zz_lb rfl)
theorem zHx_806_1 {l : Launch} {D : va_G} {cy : Nat → ClassId} {z0 : Nat} {sp : Nat → Nat} {G : State → Prop} {d : Nat} (hG : zz_GF z0 G) (hP : ∀ U, G U → zz_GD zS zS2 zLg z0 sp U) (hE : ∀ U, G U → zGX z0 U) {p0 : Int32} {p1 : Int32} {w w' : zz_W} (h0 : zz_ic w 0 1 = true) (hM : zz_MX l zTs D zcl zFK cy z0 sp (zTys cy) G zYN zCN zMQ zRT d 8 [.ref 0, .int p0, .int p1] w "java/lang/IllegalArgumentException" w') : zz_MH l zTs D zcl zFK cy z0 sp (zTys cy) G zy_806 method_9_code 5 (some .int) [(0, 10, 13, 37), (0, 10, 17, 13)] (d + 1) [.ref 0, .int p0, .int p1, .ref 328] w [.int (Int32.ofNat 2)] w' :=
  zhx_806_1 (as := [.ref 0, .int p0, .int p1, .ref 328]) (bs := [.int p0, .int p1]) (r := [.int (Int32.ofNat 0), .ref 328]) hG hE (zz_lb rfl) (zHc_806 (d := d) (l := l) (D := D) (cy := cy) (sp := sp) (w := w) (p0 := p0) (p1 := p1) hG hP) hM rfl h0 (zz_lb rfl)
theorem zHc_807 {l : Launch} {D : va_G} {cy : Nat → ClassId} {z0 : Nat} {sp : Nat → Nat} {G : State → Prop} {d : Nat} (hG : zz_GF z0 G) (hP : ∀ U, G U → zz_GD zS zS2 zLg z0 sp U) {w : zz_W} {p0 : Int32} {p1 : Int32} {p2 : Int32} : zz_B l zTs D zcl zFK cy z0 sp (zTys cy) G "ToolMillLaw" "section" 6 method_10_code d (0, [(0, .ref 0), (1, .int p0), (2, .int p1), (3, .int p2), (4, .ref 328)], [], w) (7, [(0, .ref 0), (1, .int p0), (2, .int p1), (3, .int p2), (4, .ref 328)], [.int p2, .int p1, .int p0, .ref 0, .int (Int32.ofNat 0), .ref 328], w) := by
  have T := zt_807 (l := l) (D := D) (cy := cy) (z0 := z0) (sp := sp) (G := G) (d := d) zz_k0_KS hG hP
  have b := zz_B_rf (l := l) (Ts := zTs) (D := D) (cl := zcl) (fk := zFK) (cy := cy) (z0 := z0) (sp := sp) (tys := zTys cy) (G := G) (own := "ToolMillLaw") (mn := "section") (nL := 6) (cc := method_10_code) (d := d) ((0, [(0, .ref 0), (1, .int p0), (2, .int p1), (3, .int p2), (4, .ref 328)], [], w) : zz_F)
  replace b := zz_fw b T (rfl : zz_ent zP_807 0 = (0, za_aload 4 2)) (ze_aload rfl)
  replace b := zz_fw b T (rfl : zz_ent zP_807 2 = (0, za_const (.int (Int32.ofNat 0)) 3)) (ze_const)
  replace b := zz_fw b T (rfl : zz_ent zP_807 3 = (0, za_aload 0 4)) (ze_aload rfl)
  replace b := zz_fw b T (rfl : zz_ent zP_807 4 = (0, za_iload 1 5)) (ze_iload rfl)
  replace b := zz_fw b T (rfl : zz_ent zP_807 5 = (0, za_iload 2 6)) (ze_iload rfl)
  replace b := zz_fw b T (rfl : zz_ent zP_807 6 = (0, za_iload 3 7)) (ze_iload rfl)
  exact b
theorem zHr_807 {l : Launch} {D : va_G} {cy : Nat → ClassId} {z0 : Nat} {sp : Nat → Nat} {G : State → Prop} {d : Nat} (hG : zz_GF z0 G) (hP : ∀ U, G U → zz_GD zS zS2 zLg z0 sp U) {p0 : Int32} {p1 : Int32} {p2 : Int32} {w w' : zz_W} {a : Int32} {N : Nat} (hs : zz_sh w') (hN : zz_has w' 328 (1, 3, 1, N)) (h0 : zz_ic w 0 1 = true) (hM : zz_M l zTs D zcl zFK cy z0 sp (zTys cy) G zYN zCN zMQ zRT d 9 [.ref 0, .int p0, .int p1, .int p2] w [.int a] w') : zz_MH l zTs D zcl zFK cy z0 sp (zTys cy) G zy_807 method_10_code 6 (some .int) [(0, 12, 15, 37), (0, 12, 19, 13)] (d + 1) [.ref 0, .int p0, .int p1, .int p2, .ref 328] w [.int (Int32.ofNat 0)] (zWo w' N a) := by
  have T := zt_807 (l := l) (D := D) (cy := cy) (z0 := z0) (sp := sp) (G := G) (d := d) zz_k0_KS hG hP
  have TK := fun (K : zz_K) (h : zz_KS l D zcl zFK cy z0 sp (zTys cy) G zYN (fun y => Cond.code (zYN y) (zCN y) (zMQ y) (zRT y) :: zTs) d K) => zt_807 h hG hP
  have b := zHc_807 (d := d) (l := l) (D := D) (cy := cy) (sp := sp) (w := w) (p0 := p0) (p1 := p1) (p2 := p2) hG hP
  replace b := zz_fVi b TK (rfl : zz_ent zP_807 7 = (0, za_callV 1 9 3 10)) hM rfl rfl h0 (zz_lb rfl)
  replace b := zz_fw b T (rfl : zz_ent zP_807 10 = (0, za_i2l 11)) (ze_i2l rfl)
  replace b := zz_fw b T (rfl : zz_ent zP_807 11 = (0, za_astL 3 12)) (ze_astL hs hN (by decide) (by decide))
  replace b := zz_fw b T (rfl : zz_ent zP_807 12 = (0, za_goto 23)) (ze_goto)
  replace b := zz_fw b T (rfl : zz_ent zP_807 23 = (0, za_const (.int (Int32.ofNat 0)) 24)) (ze_const)
  exact zz_MH_B rfl rfl (by decide +kernel) (zz_lb rfl) (zz_lb rfl) (zz_end_i zd_807_24) b
theorem zHx_807_0 {l : Launch} {D : va_G} {cy : Nat → ClassId} {z0 : Nat} {sp : Nat → Nat} {G : State → Prop} {d : Nat} (hG : zz_GF z0 G) (hP : ∀ U, G U → zz_GD zS zS2 zLg z0 sp U) (hE : ∀ U, G U → zGX z0 U) {p0 : Int32} {p1 : Int32} {p2 : Int32} {w w' : zz_W} (h0 : zz_ic w 0 1 = true) (hM : zz_MX l zTs D zcl zFK cy z0 sp (zTys cy) G zYN zCN zMQ zRT d 9 [.ref 0, .int p0, .int p1, .int p2] w "java/util/NoSuchElementException" w') : zz_MH l zTs D zcl zFK cy z0 sp (zTys cy) G zy_807 method_10_code 6 (some .int) [(0, 12, 15, 37), (0, 12, 19, 13)] (d + 1) [.ref 0, .int p0, .int p1, .int p2, .ref 328] w [.int (Int32.ofNat 1)] w' :=
  zhx_807_0 (as := [.ref 0, .int p0, .int p1, .int p2, .ref 328]) (bs := [.int p0, .int p1, .int p2]) (r := [.int (Int32.ofNat 0), .ref 328]) hG hE (zz_lb rfl) (zHc_807 (d := d) (l := l) (D := D) (cy := cy) (sp := sp) (w := w) (p0 := p0) (p1 := p1) (p2 := p2) hG hP) hM rfl h0 (zz_lb rfl)
theorem zHx_807_1 {l : Launch} {D : va_G} {cy : Nat → ClassId} {z0 : Nat} {sp : Nat → Nat} {G : State → Prop} {d : Nat} (hG : zz_GF z0 G) (hP : ∀ U, G U → zz_GD zS zS2 zLg z0 sp U) (hE : ∀ U, G U → zGX z0 U) {p0 : Int32} {p1 : Int32} {p2 : Int32} {w w' : zz_W} (h0 : zz_ic w 0 1 = true) (hM : zz_MX l zTs D zcl zFK cy z0 sp (zTys cy) G zYN zCN zMQ zRT d 9 [.ref 0, .int p0, .int p1, .int p2] w "java/lang/IllegalArgumentException" w') : zz_MH l zTs D zcl zFK cy z0 sp (zTys cy) G zy_807 method_10_code 6 (some .int) [(0, 12, 15, 37), (0, 12, 19, 13)] (d + 1) [.ref 0, .int p0, .int p1, .int p2, .ref 328] w [.int (Int32.ofNat 2)] w' :=
  zhx_807_1 (as := [.ref 0, .int p0, .int p1, .int p2, .ref 328]) (bs := [.int p0, .int p1, .int p2]) (r := [.int (Int32.ofNat 0), .ref 328]) hG hE (zz_lb rfl) (zHc_807 (d := d) (l := l) (D := D) (cy := cy) (sp := sp) (w := w) (p0 := p0) (p1 := p1) (p2 := p2) hG hP) hM rfl h0 (zz_lb rfl)
theorem zHc_808 {l : Launch} {D : va_G} {cy : Nat → ClassId} {z0 : Nat} {sp : Nat → Nat} {G : State → Prop} {d : Nat} (hG : zz_GF z0 G) (hP : ∀ U, G U → zz_GD zS zS2 zLg z0 sp U) {w : zz_W} {p0 : Int32} {p1 : Int32} {p2 : Int32} : zz_B l zTs D zcl zFK cy z0 sp (zTys cy) G "ToolMillLaw" "byteOf" 6 method_11_code d (0, [(0, .ref 0), (1, .int p0), (2, .int p1), (3, .int p2), (4, .ref 328)], [], w) (7, [(0, .ref 0), (1, .int p0), (2, .int p1), (3, .int p2), (4, .ref 328)], [.int p2, .int p1, .int p0, .ref 0, .int (Int32.ofNat 0), .ref 328], w) := by
  have T := zt_808 (l := l) (D := D) (cy := cy) (z0 := z0) (sp := sp) (G := G) (d := d) zz_k0_KS hG hP
  have b := zz_B_rf (l := l) (Ts := zTs) (D := D) (cl := zcl) (fk := zFK) (cy := cy) (z0 := z0) (sp := sp) (tys := zTys cy) (G := G) (own := "ToolMillLaw") (mn := "byteOf") (nL := 6) (cc := method_11_code) (d := d) ((0, [(0, .ref 0), (1, .int p0), (2, .int p1), (3, .int p2), (4, .ref 328)], [], w) : zz_F)
  replace b := zz_fw b T (rfl : zz_ent zP_808 0 = (0, za_aload 4 2)) (ze_aload rfl)
  replace b := zz_fw b T (rfl : zz_ent zP_808 2 = (0, za_const (.int (Int32.ofNat 0)) 3)) (ze_const)
  replace b := zz_fw b T (rfl : zz_ent zP_808 3 = (0, za_aload 0 4)) (ze_aload rfl)
  replace b := zz_fw b T (rfl : zz_ent zP_808 4 = (0, za_iload 1 5)) (ze_iload rfl)
  replace b := zz_fw b T (rfl : zz_ent zP_808 5 = (0, za_iload 2 6)) (ze_iload rfl)
  replace b := zz_fw b T (rfl : zz_ent zP_808 6 = (0, za_iload 3 7)) (ze_iload rfl)
  exact b
theorem zHr_808 {l : Launch} {D : va_G} {cy : Nat → ClassId} {z0 : Nat} {sp : Nat → Nat} {G : State → Prop} {d : Nat} (hG : zz_GF z0 G) (hP : ∀ U, G U → zz_GD zS zS2 zLg z0 sp U) {p0 : Int32} {p1 : Int32} {p2 : Int32} {w w' : zz_W} {a : Int32} {N : Nat} (hs : zz_sh w') (hN : zz_has w' 328 (1, 3, 1, N)) (h0 : zz_ic w 0 1 = true) (hM : zz_M l zTs D zcl zFK cy z0 sp (zTys cy) G zYN zCN zMQ zRT d 10 [.ref 0, .int p0, .int p1, .int p2] w [.int a] w') : zz_MH l zTs D zcl zFK cy z0 sp (zTys cy) G zy_808 method_11_code 6 (some .int) [(0, 12, 15, 37)] (d + 1) [.ref 0, .int p0, .int p1, .int p2, .ref 328] w [.int (Int32.ofNat 0)] (zWo w' N a) := by
  have T := zt_808 (l := l) (D := D) (cy := cy) (z0 := z0) (sp := sp) (G := G) (d := d) zz_k0_KS hG hP
  have TK := fun (K : zz_K) (h : zz_KS l D zcl zFK cy z0 sp (zTys cy) G zYN (fun y => Cond.code (zYN y) (zCN y) (zMQ y) (zRT y) :: zTs) d K) => zt_808 h hG hP
  have b := zHc_808 (d := d) (l := l) (D := D) (cy := cy) (sp := sp) (w := w) (p0 := p0) (p1 := p1) (p2 := p2) hG hP
  replace b := zz_fVi b TK (rfl : zz_ent zP_808 7 = (0, za_callV 1 10 3 10)) hM rfl rfl h0 (zz_lb rfl)
  replace b := zz_fw b T (rfl : zz_ent zP_808 10 = (0, za_i2l 11)) (ze_i2l rfl)
  replace b := zz_fw b T (rfl : zz_ent zP_808 11 = (0, za_astL 3 12)) (ze_astL hs hN (by decide) (by decide))
  replace b := zz_fw b T (rfl : zz_ent zP_808 12 = (0, za_goto 19)) (ze_goto)
  replace b := zz_fw b T (rfl : zz_ent zP_808 19 = (0, za_const (.int (Int32.ofNat 0)) 20)) (ze_const)
  exact zz_MH_B rfl rfl (by decide +kernel) (zz_lb rfl) (zz_lb rfl) (zz_end_i zd_808_20) b
theorem zHx_808_0 {l : Launch} {D : va_G} {cy : Nat → ClassId} {z0 : Nat} {sp : Nat → Nat} {G : State → Prop} {d : Nat} (hG : zz_GF z0 G) (hP : ∀ U, G U → zz_GD zS zS2 zLg z0 sp U) (hE : ∀ U, G U → zGX z0 U) {p0 : Int32} {p1 : Int32} {p2 : Int32} {w w' : zz_W} (h0 : zz_ic w 0 1 = true) (hM : zz_MX l zTs D zcl zFK cy z0 sp (zTys cy) G zYN zCN zMQ zRT d 10 [.ref 0, .int p0, .int p1, .int p2] w "java/util/NoSuchElementException" w') : zz_MH l zTs D zcl zFK cy z0 sp (zTys cy) G zy_808 method_11_code 6 (some .int) [(0, 12, 15, 37)] (d + 1) [.ref 0, .int p0, .int p1, .int p2, .ref 328] w [.int (Int32.ofNat 1)] w' :=
  zhx_808_0 (as := [.ref 0, .int p0, .int p1, .int p2, .ref 328]) (bs := [.int p0, .int p1, .int p2]) (r := [.int (Int32.ofNat 0), .ref 328]) hG hE (zz_lb rfl) (zHc_808 (d := d) (l := l) (D := D) (cy := cy) (sp := sp) (w := w) (p0 := p0) (p1 := p1) (p2 := p2) hG hP) hM rfl h0 (zz_lb rfl)
theorem zHc_809 {l : Launch} {D : va_G} {cy : Nat → ClassId} {z0 : Nat} {sp : Nat → Nat} {G : State → Prop} {d : Nat} (hG : zz_GF z0 G) (hP : ∀ U, G U → zz_GD zS zS2 zLg z0 sp U) {w : zz_W} {p0 : Int32} {p1 : Int32} {p2 : Int32} : zz_B l zTs D zcl zFK cy z0 sp (zTys cy) G "ToolMillLaw" "label" 6 method_12_code d (0, [(0, .ref 0), (1, .int p0), (2, .int p1), (3, .int p2), (4, .ref 328)], [], w) (7, [(0, .ref 0), (1, .int p0), (2, .int p1), (3, .int p2), (4, .ref 328)], [.int p2, .int p1, .int p0, .ref 0, .int (Int32.ofNat 0), .ref 328], w) := by
  have T := zt_809 (l := l) (D := D) (cy := cy) (z0 := z0) (sp := sp) (G := G) (d := d) zz_k0_KS hG hP
  have b := zz_B_rf (l := l) (Ts := zTs) (D := D) (cl := zcl) (fk := zFK) (cy := cy) (z0 := z0) (sp := sp) (tys := zTys cy) (G := G) (own := "ToolMillLaw") (mn := "label") (nL := 6) (cc := method_12_code) (d := d) ((0, [(0, .ref 0), (1, .int p0), (2, .int p1), (3, .int p2), (4, .ref 328)], [], w) : zz_F)
  replace b := zz_fw b T (rfl : zz_ent zP_809 0 = (0, za_aload 4 2)) (ze_aload rfl)
  replace b := zz_fw b T (rfl : zz_ent zP_809 2 = (0, za_const (.int (Int32.ofNat 0)) 3)) (ze_const)
  replace b := zz_fw b T (rfl : zz_ent zP_809 3 = (0, za_aload 0 4)) (ze_aload rfl)
  replace b := zz_fw b T (rfl : zz_ent zP_809 4 = (0, za_iload 1 5)) (ze_iload rfl)
  replace b := zz_fw b T (rfl : zz_ent zP_809 5 = (0, za_iload 2 6)) (ze_iload rfl)
  replace b := zz_fw b T (rfl : zz_ent zP_809 6 = (0, za_iload 3 7)) (ze_iload rfl)
  exact b
theorem zHr_809 {l : Launch} {D : va_G} {cy : Nat → ClassId} {z0 : Nat} {sp : Nat → Nat} {G : State → Prop} {d : Nat} (hG : zz_GF z0 G) (hP : ∀ U, G U → zz_GD zS zS2 zLg z0 sp U) {p0 : Int32} {p1 : Int32} {p2 : Int32} {w w' : zz_W} {a : Int32} {N : Nat} (hs : zz_sh w') (hN : zz_has w' 328 (1, 3, 1, N)) (h0 : zz_ic w 0 1 = true) (hM : zz_M l zTs D zcl zFK cy z0 sp (zTys cy) G zYN zCN zMQ zRT d 11 [.ref 0, .int p0, .int p1, .int p2] w [.int a] w') : zz_MH l zTs D zcl zFK cy z0 sp (zTys cy) G zy_809 method_12_code 6 (some .int) [(0, 12, 15, 37), (0, 12, 19, 13)] (d + 1) [.ref 0, .int p0, .int p1, .int p2, .ref 328] w [.int (Int32.ofNat 0)] (zWo w' N a) := by
  have T := zt_809 (l := l) (D := D) (cy := cy) (z0 := z0) (sp := sp) (G := G) (d := d) zz_k0_KS hG hP
  have TK := fun (K : zz_K) (h : zz_KS l D zcl zFK cy z0 sp (zTys cy) G zYN (fun y => Cond.code (zYN y) (zCN y) (zMQ y) (zRT y) :: zTs) d K) => zt_809 h hG hP
  have b := zHc_809 (d := d) (l := l) (D := D) (cy := cy) (sp := sp) (w := w) (p0 := p0) (p1 := p1) (p2 := p2) hG hP
  replace b := zz_fVi b TK (rfl : zz_ent zP_809 7 = (0, za_callV 1 11 3 10)) hM rfl rfl h0 (zz_lb rfl)
  replace b := zz_fw b T (rfl : zz_ent zP_809 10 = (0, za_i2l 11)) (ze_i2l rfl)
  replace b := zz_fw b T (rfl : zz_ent zP_809 11 = (0, za_astL 3 12)) (ze_astL hs hN (by decide) (by decide))
  replace b := zz_fw b T (rfl : zz_ent zP_809 12 = (0, za_goto 23)) (ze_goto)
  replace b := zz_fw b T (rfl : zz_ent zP_809 23 = (0, za_const (.int (Int32.ofNat 0)) 24)) (ze_const)
  exact zz_MH_B rfl rfl (by decide +kernel) (zz_lb rfl) (zz_lb rfl) (zz_end_i zd_809_24) b
theorem zHx_809_0 {l : Launch} {D : va_G} {cy : Nat → ClassId} {z0 : Nat} {sp : Nat → Nat} {G : State → Prop} {d : Nat} (hG : zz_GF z0 G) (hP : ∀ U, G U → zz_GD zS zS2 zLg z0 sp U) (hE : ∀ U, G U → zGX z0 U) {p0 : Int32} {p1 : Int32} {p2 : Int32} {w w' : zz_W} (h0 : zz_ic w 0 1 = true) (hM : zz_MX l zTs D zcl zFK cy z0 sp (zTys cy) G zYN zCN zMQ zRT d 11 [.ref 0, .int p0, .int p1, .int p2] w "java/util/NoSuchElementException" w') : zz_MH l zTs D zcl zFK cy z0 sp (zTys cy) G zy_809 method_12_code 6 (some .int) [(0, 12, 15, 37), (0, 12, 19, 13)] (d + 1) [.ref 0, .int p0, .int p1, .int p2, .ref 328] w [.int (Int32.ofNat 1)] w' :=
  zhx_809_0 (as := [.ref 0, .int p0, .int p1, .int p2, .ref 328]) (bs := [.int p0, .int p1, .int p2]) (r := [.int (Int32.ofNat 0), .ref 328]) hG hE (zz_lb rfl) (zHc_809 (d := d) (l := l) (D := D) (cy := cy) (sp := sp) (w := w) (p0 := p0) (p1 := p1) (p2 := p2) hG hP) hM rfl h0 (zz_lb rfl)
theorem zHx_809_1 {l : Launch} {D : va_G} {cy : Nat → ClassId} {z0 : Nat} {sp : Nat → Nat} {G : State → Prop} {d : Nat} (hG : zz_GF z0 G) (hP : ∀ U, G U → zz_GD zS zS2 zLg z0 sp U) (hE : ∀ U, G U → zGX z0 U) {p0 : Int32} {p1 : Int32} {p2 : Int32} {w w' : zz_W} (h0 : zz_ic w 0 1 = true) (hM : zz_MX l zTs D zcl zFK cy z0 sp (zTys cy) G zYN zCN zMQ zRT d 11 [.ref 0, .int p0, .int p1, .int p2] w "java/lang/IllegalArgumentException" w') : zz_MH l zTs D zcl zFK cy z0 sp (zTys cy) G zy_809 method_12_code 6 (some .int) [(0, 12, 15, 37), (0, 12, 19, 13)] (d + 1) [.ref 0, .int p0, .int p1, .int p2, .ref 328] w [.int (Int32.ofNat 2)] w' :=
  zhx_809_1 (as := [.ref 0, .int p0, .int p1, .int p2, .ref 328]) (bs := [.int p0, .int p1, .int p2]) (r := [.int (Int32.ofNat 0), .ref 328]) hG hE (zz_lb rfl) (zHc_809 (d := d) (l := l) (D := D) (cy := cy) (sp := sp) (w := w) (p0 := p0) (p1 := p1) (p2 := p2) hG hP) hM rfl h0 (zz_lb rfl)
theorem zHc_810 {l : Launch} {D : va_G} {cy : Nat → ClassId} {z0 : Nat} {sp : Nat → Nat} {G : State → Prop} {d : Nat} (hG : zz_GF z0 G) (hP : ∀ U, G U → zz_GD zS zS2 zLg z0 sp U) {w : zz_W} {p0 : Int32} {p1 : Int32} {p2 : Int32} : zz_B l zTs D zcl zFK cy z0 sp (zTys cy) G "ToolMillLaw" "relocation" 6 method_13_code d (0, [(0, .ref 0), (1, .int p0), (2, .int p1), (3, .int p2), (4, .ref 328)], [], w) (7, [(0, .ref 0), (1, .int p0), (2, .int p1), (3, .int p2), (4, .ref 328)], [.int p2, .int p1, .int p0, .ref 0, .int (Int32.ofNat 0), .ref 328], w) := by
  have T := zt_810 (l := l) (D := D) (cy := cy) (z0 := z0) (sp := sp) (G := G) (d := d) zz_k0_KS hG hP
  have b := zz_B_rf (l := l) (Ts := zTs) (D := D) (cl := zcl) (fk := zFK) (cy := cy) (z0 := z0) (sp := sp) (tys := zTys cy) (G := G) (own := "ToolMillLaw") (mn := "relocation") (nL := 6) (cc := method_13_code) (d := d) ((0, [(0, .ref 0), (1, .int p0), (2, .int p1), (3, .int p2), (4, .ref 328)], [], w) : zz_F)
  replace b := zz_fw b T (rfl : zz_ent zP_810 0 = (0, za_aload 4 2)) (ze_aload rfl)
  replace b := zz_fw b T (rfl : zz_ent zP_810 2 = (0, za_const (.int (Int32.ofNat 0)) 3)) (ze_const)
  replace b := zz_fw b T (rfl : zz_ent zP_810 3 = (0, za_aload 0 4)) (ze_aload rfl)
  replace b := zz_fw b T (rfl : zz_ent zP_810 4 = (0, za_iload 1 5)) (ze_iload rfl)
  replace b := zz_fw b T (rfl : zz_ent zP_810 5 = (0, za_iload 2 6)) (ze_iload rfl)
  replace b := zz_fw b T (rfl : zz_ent zP_810 6 = (0, za_iload 3 7)) (ze_iload rfl)
  exact b
theorem zHr_810 {l : Launch} {D : va_G} {cy : Nat → ClassId} {z0 : Nat} {sp : Nat → Nat} {G : State → Prop} {d : Nat} (hG : zz_GF z0 G) (hP : ∀ U, G U → zz_GD zS zS2 zLg z0 sp U) {p0 : Int32} {p1 : Int32} {p2 : Int32} {w w' : zz_W} {a : Int32} {N : Nat} (hs : zz_sh w') (hN : zz_has w' 328 (1, 3, 1, N)) (h0 : zz_ic w 0 1 = true) (hM : zz_M l zTs D zcl zFK cy z0 sp (zTys cy) G zYN zCN zMQ zRT d 12 [.ref 0, .int p0, .int p1, .int p2] w [.int a] w') : zz_MH l zTs D zcl zFK cy z0 sp (zTys cy) G zy_810 method_13_code 6 (some .int) [(0, 12, 15, 37), (0, 12, 19, 13)] (d + 1) [.ref 0, .int p0, .int p1, .int p2, .ref 328] w [.int (Int32.ofNat 0)] (zWo w' N a) := by
  have T := zt_810 (l := l) (D := D) (cy := cy) (z0 := z0) (sp := sp) (G := G) (d := d) zz_k0_KS hG hP
  have TK := fun (K : zz_K) (h : zz_KS l D zcl zFK cy z0 sp (zTys cy) G zYN (fun y => Cond.code (zYN y) (zCN y) (zMQ y) (zRT y) :: zTs) d K) => zt_810 h hG hP
  have b := zHc_810 (d := d) (l := l) (D := D) (cy := cy) (sp := sp) (w := w) (p0 := p0) (p1 := p1) (p2 := p2) hG hP
  replace b := zz_fVi b TK (rfl : zz_ent zP_810 7 = (0, za_callV 1 12 3 10)) hM rfl rfl h0 (zz_lb rfl)
  replace b := zz_fw b T (rfl : zz_ent zP_810 10 = (0, za_i2l 11)) (ze_i2l rfl)
  replace b := zz_fw b T (rfl : zz_ent zP_810 11 = (0, za_astL 3 12)) (ze_astL hs hN (by decide) (by decide))
  replace b := zz_fw b T (rfl : zz_ent zP_810 12 = (0, za_goto 23)) (ze_goto)
  replace b := zz_fw b T (rfl : zz_ent zP_810 23 = (0, za_const (.int (Int32.ofNat 0)) 24)) (ze_const)
  exact zz_MH_B rfl rfl (by decide +kernel) (zz_lb rfl) (zz_lb rfl) (zz_end_i zd_810_24) b
theorem zHx_810_0 {l : Launch} {D : va_G} {cy : Nat → ClassId} {z0 : Nat} {sp : Nat → Nat} {G : State → Prop} {d : Nat} (hG : zz_GF z0 G) (hP : ∀ U, G U → zz_GD zS zS2 zLg z0 sp U) (hE : ∀ U, G U → zGX z0 U) {p0 : Int32} {p1 : Int32} {p2 : Int32} {w w' : zz_W} (h0 : zz_ic w 0 1 = true) (hM : zz_MX l zTs D zcl zFK cy z0 sp (zTys cy) G zYN zCN zMQ zRT d 12 [.ref 0, .int p0, .int p1, .int p2] w "java/util/NoSuchElementException" w') : zz_MH l zTs D zcl zFK cy z0 sp (zTys cy) G zy_810 method_13_code 6 (some .int) [(0, 12, 15, 37), (0, 12, 19, 13)] (d + 1) [.ref 0, .int p0, .int p1, .int p2, .ref 328] w [.int (Int32.ofNat 1)] w' :=
  zhx_810_0 (as := [.ref 0, .int p0, .int p1, .int p2, .ref 328]) (bs := [.int p0, .int p1, .int p2]) (r := [.int (Int32.ofNat 0), .ref 328]) hG hE (zz_lb rfl) (zHc_810 (d := d) (l := l) (D := D) (cy := cy) (sp := sp) (w := w) (p0 := p0) (p1 := p1) (p2 := p2) hG hP) hM rfl h0 (zz_lb rfl)
theorem zHx_810_1 {l : Launch} {D : va_G} {cy : Nat → ClassId} {z0 : Nat} {sp : Nat → Nat} {G : State → Prop} {d : Nat} (hG : zz_GF z0 G) (hP : ∀ U, G U → zz_GD zS zS2 zLg z0 sp U) (hE : ∀ U, G U → zGX z0 U) {p0 : Int32} {p1 : Int32} {p2 : Int32} {w w' : zz_W} (h0 : zz_ic w 0 1 = true) (hM : zz_MX l zTs D zcl zFK cy z0 sp (zTys cy) G zYN zCN zMQ zRT d 12 [.ref 0, .int p0, .int p1, .int p2] w "java/lang/IllegalArgumentException" w') : zz_MH l zTs D zcl zFK cy z0 sp (zTys cy) G zy_810 method_13_code 6 (some .int) [(0, 12, 15, 37), (0, 12, 19, 13)] (d + 1) [.ref 0, .int p0, .int p1, .int p2, .ref 328] w [.int (Int32.ofNat 2)] w' :=
  zhx_810_1 (as := [.ref 0, .int p0, .int p1, .int p2, .ref 328]) (bs := [.int p0, .int p1, .int p2]) (r := [.int (Int32.ofNat 0), .ref 328]) hG hE (zz_lb rfl) (zHc_810 (d := d) (l := l) (D := D) (cy := cy) (sp := sp) (w := w) (p0 := p0) (p1 := p1) (p2 := p2) hG hP) hM rfl h0 (zz_lb rfl)
theorem zHc_811 {l : Launch} {D : va_G} {cy : Nat → ClassId} {z0 : Nat} {sp : Nat → Nat} {G : State → Prop} {d : Nat} (hG : zz_GF z0 G) (hP : ∀ U, G U → zz_GD zS zS2 zLg z0 sp U) {w : zz_W} {p0 : Int32} : zz_B l zTs D zcl zFK cy z0 sp (zTys cy) G "ToolMillLaw" "input" 4 method_14_code d (0, [(0, .ref 0), (1, .int p0), (2, .ref 328)], [], w) (4, [(0, .ref 0), (1, .int p0), (2, .ref 328)], [.int p0, .ref 0, .int (Int32.ofNat 0), .ref 328], w) := by
  have T := zt_811 (l := l) (D := D) (cy := cy) (z0 := z0) (sp := sp) (G := G) (d := d) zz_k0_KS hG hP
  have b := zz_B_rf (l := l) (Ts := zTs) (D := D) (cl := zcl) (fk := zFK) (cy := cy) (z0 := z0) (sp := sp) (tys := zTys cy) (G := G) (own := "ToolMillLaw") (mn := "input") (nL := 4) (cc := method_14_code) (d := d) ((0, [(0, .ref 0), (1, .int p0), (2, .ref 328)], [], w) : zz_F)
  replace b := zz_fw b T (rfl : zz_ent zP_811 0 = (0, za_aload 2 1)) (ze_aload rfl)
  replace b := zz_fw b T (rfl : zz_ent zP_811 1 = (0, za_const (.int (Int32.ofNat 0)) 2)) (ze_const)
  replace b := zz_fw b T (rfl : zz_ent zP_811 2 = (0, za_aload 0 3)) (ze_aload rfl)
  replace b := zz_fw b T (rfl : zz_ent zP_811 3 = (0, za_iload 1 4)) (ze_iload rfl)
  exact b
theorem zHr_811 {l : Launch} {D : va_G} {cy : Nat → ClassId} {z0 : Nat} {sp : Nat → Nat} {G : State → Prop} {d : Nat} (hG : zz_GF z0 G) (hP : ∀ U, G U → zz_GD zS zS2 zLg z0 sp U) {p0 : Int32} {w w' : zz_W} {a : Int32} {N : Nat} (hs : zz_sh w') (hN : zz_has w' 328 (1, 3, 1, N)) (h0 : zz_ic w 0 1 = true) (hM : zz_M l zTs D zcl zFK cy z0 sp (zTys cy) G zYN zCN zMQ zRT d 13 [.ref 0, .int p0] w [.int a] w') : zz_MH l zTs D zcl zFK cy z0 sp (zTys cy) G zy_811 method_14_code 4 (some .int) [(0, 9, 12, 15)] (d + 1) [.ref 0, .int p0, .ref 328] w [.int (Int32.ofNat 0)] (zWo w' N a) := by
  have T := zt_811 (l := l) (D := D) (cy := cy) (z0 := z0) (sp := sp) (G := G) (d := d) zz_k0_KS hG hP
  have TK := fun (K : zz_K) (h : zz_KS l D zcl zFK cy z0 sp (zTys cy) G zYN (fun y => Cond.code (zYN y) (zCN y) (zMQ y) (zRT y) :: zTs) d K) => zt_811 h hG hP
  have b := zHc_811 (d := d) (l := l) (D := D) (cy := cy) (sp := sp) (w := w) (p0 := p0) hG hP
  replace b := zz_fVi b TK (rfl : zz_ent zP_811 4 = (0, za_callV 1 13 1 7)) hM rfl rfl h0 (zz_lb rfl)
  replace b := zz_fw b T (rfl : zz_ent zP_811 7 = (0, za_i2l 8)) (ze_i2l rfl)
  replace b := zz_fw b T (rfl : zz_ent zP_811 8 = (0, za_astL 3 9)) (ze_astL hs hN (by decide) (by decide))
  replace b := zz_fw b T (rfl : zz_ent zP_811 9 = (0, za_goto 15)) (ze_goto)
  replace b := zz_fw b T (rfl : zz_ent zP_811 15 = (0, za_const (.int (Int32.ofNat 0)) 16)) (ze_const)
  exact zz_MH_B rfl rfl (by decide +kernel) (zz_lb rfl) (zz_lb rfl) (zz_end_i zd_811_16) b
theorem zHx_811_0 {l : Launch} {D : va_G} {cy : Nat → ClassId} {z0 : Nat} {sp : Nat → Nat} {G : State → Prop} {d : Nat} (hG : zz_GF z0 G) (hP : ∀ U, G U → zz_GD zS zS2 zLg z0 sp U) (hE : ∀ U, G U → zGX z0 U) {p0 : Int32} {w w' : zz_W} (h0 : zz_ic w 0 1 = true) (hM : zz_MX l zTs D zcl zFK cy z0 sp (zTys cy) G zYN zCN zMQ zRT d 13 [.ref 0, .int p0] w "java/lang/UnsupportedOperationException" w') : zz_MH l zTs D zcl zFK cy z0 sp (zTys cy) G zy_811 method_14_code 4 (some .int) [(0, 9, 12, 15)] (d + 1) [.ref 0, .int p0, .ref 328] w [.int (Int32.ofNat 1)] w' :=
  zhx_811_0 (as := [.ref 0, .int p0, .ref 328]) (bs := [.int p0]) (r := [.int (Int32.ofNat 0), .ref 328]) hG hE (zz_lb rfl) (zHc_811 (d := d) (l := l) (D := D) (cy := cy) (sp := sp) (w := w) (p0 := p0) hG hP) hM rfl h0 (zz_lb rfl)
theorem zHc_812 {l : Launch} {D : va_G} {cy : Nat → ClassId} {z0 : Nat} {sp : Nat → Nat} {G : State → Prop} {d : Nat} (hG : zz_GF z0 G) (hP : ∀ U, G U → zz_GD zS zS2 zLg z0 sp U) {w : zz_W} {p0 : Int32} {p1 : Int32} : zz_B l zTs D zcl zFK cy z0 sp (zTys cy) G "ToolMillLaw" "link" 5 method_15_code d (0, [(0, .ref 0), (1, .int p0), (2, .int p1), (3, .ref 328)], [], w) (5, [(0, .ref 0), (1, .int p0), (2, .int p1), (3, .ref 328)], [.int p1, .int p0, .ref 0, .int (Int32.ofNat 0), .ref 328], w) := by
  have T := zt_812 (l := l) (D := D) (cy := cy) (z0 := z0) (sp := sp) (G := G) (d := d) zz_k0_KS hG hP
  have b := zz_B_rf (l := l) (Ts := zTs) (D := D) (cl := zcl) (fk := zFK) (cy := cy) (z0 := z0) (sp := sp) (tys := zTys cy) (G := G) (own := "ToolMillLaw") (mn := "link") (nL := 5) (cc := method_15_code) (d := d) ((0, [(0, .ref 0), (1, .int p0), (2, .int p1), (3, .ref 328)], [], w) : zz_F)
  replace b := zz_fw b T (rfl : zz_ent zP_812 0 = (0, za_aload 3 1)) (ze_aload rfl)
  replace b := zz_fw b T (rfl : zz_ent zP_812 1 = (0, za_const (.int (Int32.ofNat 0)) 2)) (ze_const)
  replace b := zz_fw b T (rfl : zz_ent zP_812 2 = (0, za_aload 0 3)) (ze_aload rfl)
  replace b := zz_fw b T (rfl : zz_ent zP_812 3 = (0, za_iload 1 4)) (ze_iload rfl)
  replace b := zz_fw b T (rfl : zz_ent zP_812 4 = (0, za_iload 2 5)) (ze_iload rfl)
  exact b
theorem zHr_812 {l : Launch} {D : va_G} {cy : Nat → ClassId} {z0 : Nat} {sp : Nat → Nat} {G : State → Prop} {d : Nat} (hG : zz_GF z0 G) (hP : ∀ U, G U → zz_GD zS zS2 zLg z0 sp U) {p0 : Int32} {p1 : Int32} {w w' : zz_W} {a : Int32} {N : Nat} (hs : zz_sh w') (hN : zz_has w' 328 (1, 3, 1, N)) (h0 : zz_ic w 0 1 = true) (hM : zz_M l zTs D zcl zFK cy z0 sp (zTys cy) G zYN zCN zMQ zRT d 14 [.ref 0, .int p0, .int p1] w [.int a] w') : zz_MH l zTs D zcl zFK cy z0 sp (zTys cy) G zy_812 method_15_code 5 (some .int) [(0, 10, 13, 25), (0, 10, 17, 13)] (d + 1) [.ref 0, .int p0, .int p1, .ref 328] w [.int (Int32.ofNat 0)] (zWo w' N a) := by
  have T := zt_812 (l := l) (D := D) (cy := cy) (z0 := z0) (sp := sp) (G := G) (d := d) zz_k0_KS hG hP
  have TK := fun (K : zz_K) (h : zz_KS l D zcl zFK cy z0 sp (zTys cy) G zYN (fun y => Cond.code (zYN y) (zCN y) (zMQ y) (zRT y) :: zTs) d K) => zt_812 h hG hP
  have b := zHc_812 (d := d) (l := l) (D := D) (cy := cy) (sp := sp) (w := w) (p0 := p0) (p1 := p1) hG hP
  replace b := zz_fVi b TK (rfl : zz_ent zP_812 5 = (0, za_callV 1 14 2 8)) hM rfl rfl h0 (zz_lb rfl)
  replace b := zz_fw b T (rfl : zz_ent zP_812 8 = (0, za_i2l 9)) (ze_i2l rfl)
  replace b := zz_fw b T (rfl : zz_ent zP_812 9 = (0, za_astL 3 10)) (ze_astL hs hN (by decide) (by decide))
  replace b := zz_fw b T (rfl : zz_ent zP_812 10 = (0, za_goto 21)) (ze_goto)
  replace b := zz_fw b T (rfl : zz_ent zP_812 21 = (0, za_const (.int (Int32.ofNat 0)) 22)) (ze_const)
  exact zz_MH_B rfl rfl (by decide +kernel) (zz_lb rfl) (zz_lb rfl) (zz_end_i zd_812_22) b
theorem zHx_812_0 {l : Launch} {D : va_G} {cy : Nat → ClassId} {z0 : Nat} {sp : Nat → Nat} {G : State → Prop} {d : Nat} (hG : zz_GF z0 G) (hP : ∀ U, G U → zz_GD zS zS2 zLg z0 sp U) (hE : ∀ U, G U → zGX z0 U) {p0 : Int32} {p1 : Int32} {w w' : zz_W} (h0 : zz_ic w 0 1 = true) (hM : zz_MX l zTs D zcl zFK cy z0 sp (zTys cy) G zYN zCN zMQ zRT d 14 [.ref 0, .int p0, .int p1] w "java/lang/IllegalStateException" w') : zz_MH l zTs D zcl zFK cy z0 sp (zTys cy) G zy_812 method_15_code 5 (some .int) [(0, 10, 13, 25), (0, 10, 17, 13)] (d + 1) [.ref 0, .int p0, .int p1, .ref 328] w [.int (Int32.ofNat 1)] w' :=
  zhx_812_0 (as := [.ref 0, .int p0, .int p1, .ref 328]) (bs := [.int p0, .int p1]) (r := [.int (Int32.ofNat 0), .ref 328]) hG hE (zz_lb rfl) (zHc_812 (d := d) (l := l) (D := D) (cy := cy) (sp := sp) (w := w) (p0 := p0) (p1 := p1) hG hP) hM rfl h0 (zz_lb rfl)
theorem zHx_812_1 {l : Launch} {D : va_G} {cy : Nat → ClassId} {z0 : Nat} {sp : Nat → Nat} {G : State → Prop} {d : Nat} (hG : zz_GF z0 G) (hP : ∀ U, G U → zz_GD zS zS2 zLg z0 sp U) (hE : ∀ U, G U → zGX z0 U) {p0 : Int32} {p1 : Int32} {w w' : zz_W} (h0 : zz_ic w 0 1 = true) (hM : zz_MX l zTs D zcl zFK cy z0 sp (zTys cy) G zYN zCN zMQ zRT d 14 [.ref 0, .int p0, .int p1] w "java/lang/IllegalArgumentException" w') : zz_MH l zTs D zcl zFK cy z0 sp (zTys cy) G zy_812 method_15_code 5 (some .int) [(0, 10, 13, 25), (0, 10, 17, 13)] (d + 1) [.ref 0, .int p0, .int p1, .ref 328] w [.int (Int32.ofNat 2)] w' :=
  zhx_812_1 (as := [.ref 0, .int p0, .int p1, .ref 328]) (bs := [.int p0, .int p1]) (r := [.int (Int32.ofNat 0), .ref 328]) hG hE (zz_lb rfl) (zHc_812 (d := d) (l := l) (D := D) (cy := cy) (sp := sp) (w := w) (p0 := p0) (p1 := p1) hG hP) hM rfl h0 (zz_lb rfl)
theorem zHc_813 {l : Launch} {D : va_G} {cy : Nat → ClassId} {z0 : Nat} {sp : Nat → Nat} {G : State → Prop} {d : Nat} (hG : zz_GF z0 G) (hP : ∀ U, G U → zz_GD zS zS2 zLg z0 sp U) {w : zz_W} {p0 : Int32} : zz_B l zTs D zcl zFK cy z0 sp (zTys cy) G "ToolMillLaw" "run" 4 method_16_code d (0, [(0, .ref 0), (1, .int p0), (2, .ref 328)], [], w) (4, [(0, .ref 0), (1, .int p0), (2, .ref 328)], [.int p0, .ref 0, .int (Int32.ofNat 0), .ref 328], w) := by
  have T := zt_813 (l := l) (D := D) (cy := cy) (z0 := z0) (sp := sp) (G := G) (d := d) zz_k0_KS hG hP
  have b := zz_B_rf (l := l) (Ts := zTs) (D := D) (cl := zcl) (fk := zFK) (cy := cy) (z0 := z0) (sp := sp) (tys := zTys cy) (G := G) (own := "ToolMillLaw") (mn := "run") (nL := 4) (cc := method_16_code) (d := d) ((0, [(0, .ref 0), (1, .int p0), (2, .ref 328)], [], w) : zz_F)
  replace b := zz_fw b T (rfl : zz_ent zP_813 0 = (0, za_aload 2 1)) (ze_aload rfl)
  replace b := zz_fw b T (rfl : zz_ent zP_813 1 = (0, za_const (.int (Int32.ofNat 0)) 2)) (ze_const)
  replace b := zz_fw b T (rfl : zz_ent zP_813 2 = (0, za_aload 0 3)) (ze_aload rfl)
  replace b := zz_fw b T (rfl : zz_ent zP_813 3 = (0, za_iload 1 4)) (ze_iload rfl)
  exact b
theorem zHr_813 {l : Launch} {D : va_G} {cy : Nat → ClassId} {z0 : Nat} {sp : Nat → Nat} {G : State → Prop} {d : Nat} (hG : zz_GF z0 G) (hP : ∀ U, G U → zz_GD zS zS2 zLg z0 sp U) {p0 : Int32} {w w' : zz_W} {a : Int32} {N : Nat} (hs : zz_sh w') (hN : zz_has w' 328 (1, 3, 1, N)) (h0 : zz_ic w 0 1 = true) (hM : zz_M l zTs D zcl zFK cy z0 sp (zTys cy) G zYN zCN zMQ zRT d 15 [.ref 0, .int p0] w [.int a] w') : zz_MH l zTs D zcl zFK cy z0 sp (zTys cy) G zy_813 method_16_code 4 (some .int) [(0, 9, 12, 25), (0, 9, 15, 13)] (d + 1) [.ref 0, .int p0, .ref 328] w [.int (Int32.ofNat 0)] (zWo w' N a) := by
  have T := zt_813 (l := l) (D := D) (cy := cy) (z0 := z0) (sp := sp) (G := G) (d := d) zz_k0_KS hG hP
  have TK := fun (K : zz_K) (h : zz_KS l D zcl zFK cy z0 sp (zTys cy) G zYN (fun y => Cond.code (zYN y) (zCN y) (zMQ y) (zRT y) :: zTs) d K) => zt_813 h hG hP
  have b := zHc_813 (d := d) (l := l) (D := D) (cy := cy) (sp := sp) (w := w) (p0 := p0) hG hP
  replace b := zz_fVi b TK (rfl : zz_ent zP_813 4 = (0, za_callV 1 15 1 7)) hM rfl rfl h0 (zz_lb rfl)
  replace b := zz_fw b T (rfl : zz_ent zP_813 7 = (0, za_i2l 8)) (ze_i2l rfl)
  replace b := zz_fw b T (rfl : zz_ent zP_813 8 = (0, za_astL 3 9)) (ze_astL hs hN (by decide) (by decide))
  replace b := zz_fw b T (rfl : zz_ent zP_813 9 = (0, za_goto 18)) (ze_goto)
  replace b := zz_fw b T (rfl : zz_ent zP_813 18 = (0, za_const (.int (Int32.ofNat 0)) 19)) (ze_const)
  exact zz_MH_B rfl rfl (by decide +kernel) (zz_lb rfl) (zz_lb rfl) (zz_end_i zd_813_19) b
theorem zHx_813_0 {l : Launch} {D : va_G} {cy : Nat → ClassId} {z0 : Nat} {sp : Nat → Nat} {G : State → Prop} {d : Nat} (hG : zz_GF z0 G) (hP : ∀ U, G U → zz_GD zS zS2 zLg z0 sp U) (hE : ∀ U, G U → zGX z0 U) {p0 : Int32} {w w' : zz_W} (h0 : zz_ic w 0 1 = true) (hM : zz_MX l zTs D zcl zFK cy z0 sp (zTys cy) G zYN zCN zMQ zRT d 15 [.ref 0, .int p0] w "java/lang/IllegalStateException" w') : zz_MH l zTs D zcl zFK cy z0 sp (zTys cy) G zy_813 method_16_code 4 (some .int) [(0, 9, 12, 25), (0, 9, 15, 13)] (d + 1) [.ref 0, .int p0, .ref 328] w [.int (Int32.ofNat 1)] w' :=
  zhx_813_0 (as := [.ref 0, .int p0, .ref 328]) (bs := [.int p0]) (r := [.int (Int32.ofNat 0), .ref 328]) hG hE (zz_lb rfl) (zHc_813 (d := d) (l := l) (D := D) (cy := cy) (sp := sp) (w := w) (p0 := p0) hG hP) hM rfl h0 (zz_lb rfl)
theorem zHx_813_1 {l : Launch} {D : va_G} {cy : Nat → ClassId} {z0 : Nat} {sp : Nat → Nat} {G : State → Prop} {d : Nat} (hG : zz_GF z0 G) (hP : ∀ U, G U → zz_GD zS zS2 zLg z0 sp U) (hE : ∀ U, G U → zGX z0 U) {p0 : Int32} {w w' : zz_W} (h0 : zz_ic w 0 1 = true) (hM : zz_MX l zTs D zcl zFK cy z0 sp (zTys cy) G zYN zCN zMQ zRT d 15 [.ref 0, .int p0] w "java/lang/IllegalArgumentException" w') : zz_MH l zTs D zcl zFK cy z0 sp (zTys cy) G zy_813 method_16_code 4 (some .int) [(0, 9, 12, 25), (0, 9, 15, 13)] (d + 1) [.ref 0, .int p0, .ref 328] w [.int (Int32.ofNat 2)] w' :=
  zhx_813_1 (as := [.ref 0, .int p0, .ref 328]) (bs := [.int p0]) (r := [.int (Int32.ofNat 0), .ref 328]) hG hE (zz_lb rfl) (zHc_813 (d := d) (l := l) (D := D) (cy := cy) (sp := sp) (w := w) (p0 := p0) hG hP) hM rfl h0 (zz_lb rfl)
theorem zHc_814 {l : Launch} {D : va_G} {cy : Nat → ClassId} {z0 : Nat} {sp : Nat → Nat} {G : State → Prop} {d : Nat} (hG : zz_GF z0 G) (hP : ∀ U, G U → zz_GD zS zS2 zLg z0 sp U) {w : zz_W} {p0 : Int32} : zz_B l zTs D zcl zFK cy z0 sp (zTys cy) G "ToolMillLaw" "state" 4 method_17_code d (0, [(0, .ref 0), (1, .int p0), (2, .ref 328)], [], w) (4, [(0, .ref 0), (1, .int p0), (2, .ref 328)], [.int p0, .ref 0, .int (Int32.ofNat 0), .ref 328], w) := by
  have T := zt_814 (l := l) (D := D) (cy := cy) (z0 := z0) (sp := sp) (G := G) (d := d) zz_k0_KS hG hP
  have b := zz_B_rf (l := l) (Ts := zTs) (D := D) (cl := zcl) (fk := zFK) (cy := cy) (z0 := z0) (sp := sp) (tys := zTys cy) (G := G) (own := "ToolMillLaw") (mn := "state") (nL := 4) (cc := method_17_code) (d := d) ((0, [(0, .ref 0), (1, .int p0), (2, .ref 328)], [], w) : zz_F)
  replace b := zz_fw b T (rfl : zz_ent zP_814 0 = (0, za_aload 2 1)) (ze_aload rfl)
  replace b := zz_fw b T (rfl : zz_ent zP_814 1 = (0, za_const (.int (Int32.ofNat 0)) 2)) (ze_const)
  replace b := zz_fw b T (rfl : zz_ent zP_814 2 = (0, za_aload 0 3)) (ze_aload rfl)
  replace b := zz_fw b T (rfl : zz_ent zP_814 3 = (0, za_iload 1 4)) (ze_iload rfl)
  exact b
theorem zHr_814 {l : Launch} {D : va_G} {cy : Nat → ClassId} {z0 : Nat} {sp : Nat → Nat} {G : State → Prop} {d : Nat} (hG : zz_GF z0 G) (hP : ∀ U, G U → zz_GD zS zS2 zLg z0 sp U) {p0 : Int32} {w w' : zz_W} {a : Int32} {N : Nat} (hs : zz_sh w') (hN : zz_has w' 328 (1, 3, 1, N)) (h0 : zz_ic w 0 1 = true) (hM : zz_M l zTs D zcl zFK cy z0 sp (zTys cy) G zYN zCN zMQ zRT d 16 [.ref 0, .int p0] w [.int a] w') : zz_MH l zTs D zcl zFK cy z0 sp (zTys cy) G zy_814 method_17_code 4 (some .int) [(0, 9, 12, 25), (0, 9, 15, 13)] (d + 1) [.ref 0, .int p0, .ref 328] w [.int (Int32.ofNat 0)] (zWo w' N a) := by
  have T := zt_814 (l := l) (D := D) (cy := cy) (z0 := z0) (sp := sp) (G := G) (d := d) zz_k0_KS hG hP
  have TK := fun (K : zz_K) (h : zz_KS l D zcl zFK cy z0 sp (zTys cy) G zYN (fun y => Cond.code (zYN y) (zCN y) (zMQ y) (zRT y) :: zTs) d K) => zt_814 h hG hP
  have b := zHc_814 (d := d) (l := l) (D := D) (cy := cy) (sp := sp) (w := w) (p0 := p0) hG hP
  replace b := zz_fVi b TK (rfl : zz_ent zP_814 4 = (0, za_callV 1 16 1 7)) hM rfl rfl h0 (zz_lb rfl)
  replace b := zz_fw b T (rfl : zz_ent zP_814 7 = (0, za_i2l 8)) (ze_i2l rfl)
  replace b := zz_fw b T (rfl : zz_ent zP_814 8 = (0, za_astL 3 9)) (ze_astL hs hN (by decide) (by decide))
  replace b := zz_fw b T (rfl : zz_ent zP_814 9 = (0, za_goto 18)) (ze_goto)
  replace b := zz_fw b T (rfl : zz_ent zP_814 18 = (0, za_const (.int (Int32.ofNat 0)) 19)) (ze_const)
  exact zz_MH_B rfl rfl (by decide +kernel) (zz_lb rfl) (zz_lb rfl) (zz_end_i zd_814_19) b
theorem zHx_814_0 {l : Launch} {D : va_G} {cy : Nat → ClassId} {z0 : Nat} {sp : Nat → Nat} {G : State → Prop} {d : Nat} (hG : zz_GF z0 G) (hP : ∀ U, G U → zz_GD zS zS2 zLg z0 sp U) (hE : ∀ U, G U → zGX z0 U) {p0 : Int32} {w w' : zz_W} (h0 : zz_ic w 0 1 = true) (hM : zz_MX l zTs D zcl zFK cy z0 sp (zTys cy) G zYN zCN zMQ zRT d 16 [.ref 0, .int p0] w "java/lang/IllegalStateException" w') : zz_MH l zTs D zcl zFK cy z0 sp (zTys cy) G zy_814 method_17_code 4 (some .int) [(0, 9, 12, 25), (0, 9, 15, 13)] (d + 1) [.ref 0, .int p0, .ref 328] w [.int (Int32.ofNat 1)] w' :=
  zhx_814_0 (as := [.ref 0, .int p0, .ref 328]) (bs := [.int p0]) (r := [.int (Int32.ofNat 0), .ref 328]) hG hE (zz_lb rfl) (zHc_814 (d := d) (l := l) (D := D) (cy := cy) (sp := sp) (w := w) (p0 := p0) hG hP) hM rfl h0 (zz_lb rfl)
theorem zHx_814_1 {l : Launch} {D : va_G} {cy : Nat → ClassId} {z0 : Nat} {sp : Nat → Nat} {G : State → Prop} {d : Nat} (hG : zz_GF z0 G) (hP : ∀ U, G U → zz_GD zS zS2 zLg z0 sp U) (hE : ∀ U, G U → zGX z0 U) {p0 : Int32} {w w' : zz_W} (h0 : zz_ic w 0 1 = true) (hM : zz_MX l zTs D zcl zFK cy z0 sp (zTys cy) G zYN zCN zMQ zRT d 16 [.ref 0, .int p0] w "java/lang/IllegalArgumentException" w') : zz_MH l zTs D zcl zFK cy z0 sp (zTys cy) G zy_814 method_17_code 4 (some .int) [(0, 9, 12, 25), (0, 9, 15, 13)] (d + 1) [.ref 0, .int p0, .ref 328] w [.int (Int32.ofNat 2)] w' :=
  zhx_814_1 (as := [.ref 0, .int p0, .ref 328]) (bs := [.int p0]) (r := [.int (Int32.ofNat 0), .ref 328]) hG hE (zz_lb rfl) (zHc_814 (d := d) (l := l) (D := D) (cy := cy) (sp := sp) (w := w) (p0 := p0) hG hP) hM rfl h0 (zz_lb rfl)
theorem zHc_815 {l : Launch} {D : va_G} {cy : Nat → ClassId} {z0 : Nat} {sp : Nat → Nat} {G : State → Prop} {d : Nat} (hG : zz_GF z0 G) (hP : ∀ U, G U → zz_GD zS zS2 zLg z0 sp U) {w : zz_W} {p0 : Int32} : zz_B l zTs D zcl zFK cy z0 sp (zTys cy) G "ToolMillLaw" "register" 4 method_18_code d (0, [(0, .ref 0), (1, .int p0), (2, .ref 328)], [], w) (4, [(0, .ref 0), (1, .int p0), (2, .ref 328)], [.int p0, .ref 0, .int (Int32.ofNat 0), .ref 328], w) := by
  have T := zt_815 (l := l) (D := D) (cy := cy) (z0 := z0) (sp := sp) (G := G) (d := d) zz_k0_KS hG hP
  have b := zz_B_rf (l := l) (Ts := zTs) (D := D) (cl := zcl) (fk := zFK) (cy := cy) (z0 := z0) (sp := sp) (tys := zTys cy) (G := G) (own := "ToolMillLaw") (mn := "register") (nL := 4) (cc := method_18_code) (d := d) ((0, [(0, .ref 0), (1, .int p0), (2, .ref 328)], [], w) : zz_F)
  replace b := zz_fw b T (rfl : zz_ent zP_815 0 = (0, za_aload 2 1)) (ze_aload rfl)
  replace b := zz_fw b T (rfl : zz_ent zP_815 1 = (0, za_const (.int (Int32.ofNat 0)) 2)) (ze_const)
  replace b := zz_fw b T (rfl : zz_ent zP_815 2 = (0, za_aload 0 3)) (ze_aload rfl)
  replace b := zz_fw b T (rfl : zz_ent zP_815 3 = (0, za_iload 1 4)) (ze_iload rfl)
  exact b
theorem zHr_815 {l : Launch} {D : va_G} {cy : Nat → ClassId} {z0 : Nat} {sp : Nat → Nat} {G : State → Prop} {d : Nat} (hG : zz_GF z0 G) (hP : ∀ U, G U → zz_GD zS zS2 zLg z0 sp U) {p0 : Int32} {w w' : zz_W} {a : Int32} {N : Nat} (hs : zz_sh w') (hN : zz_has w' 328 (1, 3, 1, N)) (h0 : zz_ic w 0 1 = true) (hM : zz_M l zTs D zcl zFK cy z0 sp (zTys cy) G zYN zCN zMQ zRT d 17 [.ref 0, .int p0] w [.int a] w') : zz_MH l zTs D zcl zFK cy z0 sp (zTys cy) G zy_815 method_18_code 4 (some .int) [(0, 9, 12, 25), (0, 9, 15, 13)] (d + 1) [.ref 0, .int p0, .ref 328] w [.int (Int32.ofNat 0)] (zWo w' N a) := by
  have T := zt_815 (l := l) (D := D) (cy := cy) (z0 := z0) (sp := sp) (G := G) (d := d) zz_k0_KS hG hP
  have TK := fun (K : zz_K) (h : zz_KS l D zcl zFK cy z0 sp (zTys cy) G zYN (fun y => Cond.code (zYN y) (zCN y) (zMQ y) (zRT y) :: zTs) d K) => zt_815 h hG hP
  have b := zHc_815 (d := d) (l := l) (D := D) (cy := cy) (sp := sp) (w := w) (p0 := p0) hG hP
  replace b := zz_fVi b TK (rfl : zz_ent zP_815 4 = (0, za_callV 1 17 1 7)) hM rfl rfl h0 (zz_lb rfl)
  replace b := zz_fw b T (rfl : zz_ent zP_815 7 = (0, za_i2l 8)) (ze_i2l rfl)
  replace b := zz_fw b T (rfl : zz_ent zP_815 8 = (0, za_astL 3 9)) (ze_astL hs hN (by decide) (by decide))
  replace b := zz_fw b T (rfl : zz_ent zP_815 9 = (0, za_goto 18)) (ze_goto)
  replace b := zz_fw b T (rfl : zz_ent zP_815 18 = (0, za_const (.int (Int32.ofNat 0)) 19)) (ze_const)
  exact zz_MH_B rfl rfl (by decide +kernel) (zz_lb rfl) (zz_lb rfl) (zz_end_i zd_815_19) b
theorem zHx_815_0 {l : Launch} {D : va_G} {cy : Nat → ClassId} {z0 : Nat} {sp : Nat → Nat} {G : State → Prop} {d : Nat} (hG : zz_GF z0 G) (hP : ∀ U, G U → zz_GD zS zS2 zLg z0 sp U) (hE : ∀ U, G U → zGX z0 U) {p0 : Int32} {w w' : zz_W} (h0 : zz_ic w 0 1 = true) (hM : zz_MX l zTs D zcl zFK cy z0 sp (zTys cy) G zYN zCN zMQ zRT d 17 [.ref 0, .int p0] w "java/lang/IllegalStateException" w') : zz_MH l zTs D zcl zFK cy z0 sp (zTys cy) G zy_815 method_18_code 4 (some .int) [(0, 9, 12, 25), (0, 9, 15, 13)] (d + 1) [.ref 0, .int p0, .ref 328] w [.int (Int32.ofNat 1)] w' :=
  zhx_815_0 (as := [.ref 0, .int p0, .ref 328]) (bs := [.int p0]) (r := [.int (Int32.ofNat 0), .ref 328]) hG hE (zz_lb rfl) (zHc_815 (d := d) (l := l) (D := D) (cy := cy) (sp := sp) (w := w) (p0 := p0) hG hP) hM rfl h0 (zz_lb rfl)
theorem zHx_815_1 {l : Launch} {D : va_G} {cy : Nat → ClassId} {z0 : Nat} {sp : Nat → Nat} {G : State → Prop} {d : Nat} (hG : zz_GF z0 G) (hP : ∀ U, G U → zz_GD zS zS2 zLg z0 sp U) (hE : ∀ U, G U → zGX z0 U) {p0 : Int32} {w w' : zz_W} (h0 : zz_ic w 0 1 = true) (hM : zz_MX l zTs D zcl zFK cy z0 sp (zTys cy) G zYN zCN zMQ zRT d 17 [.ref 0, .int p0] w "java/lang/IllegalArgumentException" w') : zz_MH l zTs D zcl zFK cy z0 sp (zTys cy) G zy_815 method_18_code 4 (some .int) [(0, 9, 12, 25), (0, 9, 15, 13)] (d + 1) [.ref 0, .int p0, .ref 328] w [.int (Int32.ofNat 2)] w' :=
  zhx_815_1 (as := [.ref 0, .int p0, .ref 328]) (bs := [.int p0]) (r := [.int (Int32.ofNat 0), .ref 328]) hG hE (zz_lb rfl) (zHc_815 (d := d) (l := l) (D := D) (cy := cy) (sp := sp) (w := w) (p0 := p0) hG hP) hM rfl h0 (zz_lb rfl)
theorem zHc_816 {l : Launch} {D : va_G} {cy : Nat → ClassId} {z0 : Nat} {sp : Nat → Nat} {G : State → Prop} {d : Nat} (hG : zz_GF z0 G) (hP : ∀ U, G U → zz_GD zS zS2 zLg z0 sp U) {w : zz_W} {p0 : Int32} : zz_B l zTs D zcl zFK cy z0 sp (zTys cy) G "ToolMillLaw" "word" 4 method_19_code d (0, [(0, .ref 0), (1, .int p0), (2, .ref 328)], [], w) (4, [(0, .ref 0), (1, .int p0), (2, .ref 328)], [.int p0, .ref 0, .int (Int32.ofNat 0), .ref 328], w) := by
  have T := zt_816 (l := l) (D := D) (cy := cy) (z0 := z0) (sp := sp) (G := G) (d := d) zz_k0_KS hG hP
  have b := zz_B_rf (l := l) (Ts := zTs) (D := D) (cl := zcl) (fk := zFK) (cy := cy) (z0 := z0) (sp := sp) (tys := zTys cy) (G := G) (own := "ToolMillLaw") (mn := "word") (nL := 4) (cc := method_19_code) (d := d) ((0, [(0, .ref 0), (1, .int p0), (2, .ref 328)], [], w) : zz_F)
  replace b := zz_fw b T (rfl : zz_ent zP_816 0 = (0, za_aload 2 1)) (ze_aload rfl)
  replace b := zz_fw b T (rfl : zz_ent zP_816 1 = (0, za_const (.int (Int32.ofNat 0)) 2)) (ze_const)
  replace b := zz_fw b T (rfl : zz_ent zP_816 2 = (0, za_aload 0 3)) (ze_aload rfl)
  replace b := zz_fw b T (rfl : zz_ent zP_816 3 = (0, za_iload 1 4)) (ze_iload rfl)
  exact b
theorem zHr_816 {l : Launch} {D : va_G} {cy : Nat → ClassId} {z0 : Nat} {sp : Nat → Nat} {G : State → Prop} {d : Nat} (hG : zz_GF z0 G) (hP : ∀ U, G U → zz_GD zS zS2 zLg z0 sp U) {p0 : Int32} {w w' : zz_W} {a : Int32} {N : Nat} (hs : zz_sh w') (hN : zz_has w' 328 (1, 3, 1, N)) (h0 : zz_ic w 0 1 = true) (hM : zz_M l zTs D zcl zFK cy z0 sp (zTys cy) G zYN zCN zMQ zRT d 18 [.ref 0, .int p0] w [.int a] w') : zz_MH l zTs D zcl zFK cy z0 sp (zTys cy) G zy_816 method_19_code 4 (some .int) [(0, 9, 12, 25), (0, 9, 15, 73)] (d + 1) [.ref 0, .int p0, .ref 328] w [.int (Int32.ofNat 0)] (zWo w' N a) := by
  have T := zt_816 (l := l) (D := D) (cy := cy) (z0 := z0) (sp := sp) (G := G) (d := d) zz_k0_KS hG hP
  have TK := fun (K : zz_K) (h : zz_KS l D zcl zFK cy z0 sp (zTys cy) G zYN (fun y => Cond.code (zYN y) (zCN y) (zMQ y) (zRT y) :: zTs) d K) => zt_816 h hG hP
  have b := zHc_816 (d := d) (l := l) (D := D) (cy := cy) (sp := sp) (w := w) (p0 := p0) hG hP
  replace b := zz_fVi b TK (rfl : zz_ent zP_816 4 = (0, za_callV 1 18 1 7)) hM rfl rfl h0 (zz_lb rfl)
  replace b := zz_fw b T (rfl : zz_ent zP_816 7 = (0, za_i2l 8)) (ze_i2l rfl)
  replace b := zz_fw b T (rfl : zz_ent zP_816 8 = (0, za_astL 3 9)) (ze_astL hs hN (by decide) (by decide))
  replace b := zz_fw b T (rfl : zz_ent zP_816 9 = (0, za_goto 18)) (ze_goto)
  replace b := zz_fw b T (rfl : zz_ent zP_816 18 = (0, za_const (.int (Int32.ofNat 0)) 19)) (ze_const)
  exact zz_MH_B rfl rfl (by decide +kernel) (zz_lb rfl) (zz_lb rfl) (zz_end_i zd_816_19) b
theorem zHx_816_0 {l : Launch} {D : va_G} {cy : Nat → ClassId} {z0 : Nat} {sp : Nat → Nat} {G : State → Prop} {d : Nat} (hG : zz_GF z0 G) (hP : ∀ U, G U → zz_GD zS zS2 zLg z0 sp U) (hE : ∀ U, G U → zGX z0 U) {p0 : Int32} {w w' : zz_W} (h0 : zz_ic w 0 1 = true) (hM : zz_MX l zTs D zcl zFK cy z0 sp (zTys cy) G zYN zCN zMQ zRT d 18 [.ref 0, .int p0] w "java/lang/IllegalStateException" w') : zz_MH l zTs D zcl zFK cy z0 sp (zTys cy) G zy_816 method_19_code 4 (some .int) [(0, 9, 12, 25), (0, 9, 15, 73)] (d + 1) [.ref 0, .int p0, .ref 328] w [.int (Int32.ofNat 1)] w' :=
  zhx_816_0 (as := [.ref 0, .int p0, .ref 328]) (bs := [.int p0]) (r := [.int (Int32.ofNat 0), .ref 328]) hG hE (zz_lb rfl) (zHc_816 (d := d) (l := l) (D := D) (cy := cy) (sp := sp) (w := w) (p0 := p0) hG hP) hM rfl h0 (zz_lb rfl)
theorem zHx_816_1 {l : Launch} {D : va_G} {cy : Nat → ClassId} {z0 : Nat} {sp : Nat → Nat} {G : State → Prop} {d : Nat} (hG : zz_GF z0 G) (hP : ∀ U, G U → zz_GD zS zS2 zLg z0 sp U) (hE : ∀ U, G U → zGX z0 U) {p0 : Int32} {w w' : zz_W} (h0 : zz_ic w 0 1 = true) (hM : zz_MX l zTs D zcl zFK cy z0 sp (zTys cy) G zYN zCN zMQ zRT d 18 [.ref 0, .int p0] w "java/lang/IndexOutOfBoundsException" w') : zz_MH l zTs D zcl zFK cy z0 sp (zTys cy) G zy_816 method_19_code 4 (some .int) [(0, 9, 12, 25), (0, 9, 15, 73)] (d + 1) [.ref 0, .int p0, .ref 328] w [.int (Int32.ofNat 2)] w' :=
  zhx_816_1 (as := [.ref 0, .int p0, .ref 328]) (bs := [.int p0]) (r := [.int (Int32.ofNat 0), .ref 328]) hG hE (zz_lb rfl) (zHc_816 (d := d) (l := l) (D := D) (cy := cy) (sp := sp) (w := w) (p0 := p0) hG hP) hM rfl h0 (zz_lb rfl)
theorem zHc_817 {l : Launch} {D : va_G} {cy : Nat → ClassId} {z0 : Nat} {sp : Nat → Nat} {G : State → Prop} {d : Nat} (hG : zz_GF z0 G) (hP : ∀ U, G U → zz_GD zS zS2 zLg z0 sp U) {w : zz_W} {p0 : Int32} : zz_B l zTs D zcl zFK cy z0 sp (zTys cy) G "ToolMillLaw" "output" 4 method_20_code d (0, [(0, .ref 0), (1, .int p0), (2, .ref 328)], [], w) (4, [(0, .ref 0), (1, .int p0), (2, .ref 328)], [.int p0, .ref 0, .int (Int32.ofNat 0), .ref 328], w) := by
  have T := zt_817 (l := l) (D := D) (cy := cy) (z0 := z0) (sp := sp) (G := G) (d := d) zz_k0_KS hG hP
  have b := zz_B_rf (l := l) (Ts := zTs) (D := D) (cl := zcl) (fk := zFK) (cy := cy) (z0 := z0) (sp := sp) (tys := zTys cy) (G := G) (own := "ToolMillLaw") (mn := "output") (nL := 4) (cc := method_20_code) (d := d) ((0, [(0, .ref 0), (1, .int p0), (2, .ref 328)], [], w) : zz_F)
  replace b := zz_fw b T (rfl : zz_ent zP_817 0 = (0, za_aload 2 1)) (ze_aload rfl)
  replace b := zz_fw b T (rfl : zz_ent zP_817 1 = (0, za_const (.int (Int32.ofNat 0)) 2)) (ze_const)
  replace b := zz_fw b T (rfl : zz_ent zP_817 2 = (0, za_aload 0 3)) (ze_aload rfl)
  replace b := zz_fw b T (rfl : zz_ent zP_817 3 = (0, za_iload 1 4)) (ze_iload rfl)
  exact b
theorem zHr_817 {l : Launch} {D : va_G} {cy : Nat → ClassId} {z0 : Nat} {sp : Nat → Nat} {G : State → Prop} {d : Nat} (hG : zz_GF z0 G) (hP : ∀ U, G U → zz_GD zS zS2 zLg z0 sp U) {p0 : Int32} {w w' : zz_W} {a : Int32} {N : Nat} (hs : zz_sh w') (hN : zz_has w' 328 (1, 3, 1, N)) (h0 : zz_ic w 0 1 = true) (hM : zz_M l zTs D zcl zFK cy z0 sp (zTys cy) G zYN zCN zMQ zRT d 19 [.ref 0, .int p0] w [.int a] w') : zz_MH l zTs D zcl zFK cy z0 sp (zTys cy) G zy_817 method_20_code 4 (some .int) [(0, 9, 12, 25), (0, 9, 15, 73)] (d + 1) [.ref 0, .int p0, .ref 328] w [.int (Int32.ofNat 0)] (zWo w' N a) := by
  have T := zt_817 (l := l) (D := D) (cy := cy) (z0 := z0) (sp := sp) (G := G) (d := d) zz_k0_KS hG hP
  have TK := fun (K : zz_K) (h : zz_KS l D zcl zFK cy z0 sp (zTys cy) G zYN (fun y => Cond.code (zYN y) (zCN y) (zMQ y) (zRT y) :: zTs) d K) => zt_817 h hG hP
  have b := zHc_817 (d := d) (l := l) (D := D) (cy := cy) (sp := sp) (w := w) (p0 := p0) hG hP
  replace b := zz_fVi b TK (rfl : zz_ent zP_817 4 = (0, za_callV 1 19 1 7)) hM rfl rfl h0 (zz_lb rfl)
  replace b := zz_fw b T (rfl : zz_ent zP_817 7 = (0, za_i2l 8)) (ze_i2l rfl)
  replace b := zz_fw b T (rfl : zz_ent zP_817 8 = (0, za_astL 3 9)) (ze_astL hs hN (by decide) (by decide))
  replace b := zz_fw b T (rfl : zz_ent zP_817 9 = (0, za_goto 18)) (ze_goto)
  replace b := zz_fw b T (rfl : zz_ent zP_817 18 = (0, za_const (.int (Int32.ofNat 0)) 19)) (ze_const)
  exact zz_MH_B rfl rfl (by decide +kernel) (zz_lb rfl) (zz_lb rfl) (zz_end_i zd_817_19) b
theorem zHx_817_0 {l : Launch} {D : va_G} {cy : Nat → ClassId} {z0 : Nat} {sp : Nat → Nat} {G : State → Prop} {d : Nat} (hG : zz_GF z0 G) (hP : ∀ U, G U → zz_GD zS zS2 zLg z0 sp U) (hE : ∀ U, G U → zGX z0 U) {p0 : Int32} {w w' : zz_W} (h0 : zz_ic w 0 1 = true) (hM : zz_MX l zTs D zcl zFK cy z0 sp (zTys cy) G zYN zCN zMQ zRT d 19 [.ref 0, .int p0] w "java/lang/IllegalStateException" w') : zz_MH l zTs D zcl zFK cy z0 sp (zTys cy) G zy_817 method_20_code 4 (some .int) [(0, 9, 12, 25), (0, 9, 15, 73)] (d + 1) [.ref 0, .int p0, .ref 328] w [.int (Int32.ofNat 1)] w' :=
  zhx_817_0 (as := [.ref 0, .int p0, .ref 328]) (bs := [.int p0]) (r := [.int (Int32.ofNat 0), .ref 328]) hG hE (zz_lb rfl) (zHc_817 (d := d) (l := l) (D := D) (cy := cy) (sp := sp) (w := w) (p0 := p0) hG hP) hM rfl h0 (zz_lb rfl)
theorem zHx_817_1 {l : Launch} {D : va_G} {cy : Nat → ClassId} {z0 : Nat} {sp : Nat → Nat} {G : State → Prop} {d : Nat} (hG : zz_GF z0 G) (hP : ∀ U, G U → zz_GD zS zS2 zLg z0 sp U) (hE : ∀ U, G U → zGX z0 U) {p0 : Int32} {w w' : zz_W} (h0 : zz_ic w 0 1 = true) (hM : zz_MX l zTs D zcl zFK cy z0 sp (zTys cy) G zYN zCN zMQ zRT d 19 [.ref 0, .int p0] w "java/lang/IndexOutOfBoundsException" w') : zz_MH l zTs D zcl zFK cy z0 sp (zTys cy) G zy_817 method_20_code 4 (some .int) [(0, 9, 12, 25), (0, 9, 15, 73)] (d + 1) [.ref 0, .int p0, .ref 328] w [.int (Int32.ofNat 2)] w' :=
  zhx_817_1 (as := [.ref 0, .int p0, .ref 328]) (bs := [.int p0]) (r := [.int (Int32.ofNat 0), .ref 328]) hG hE (zz_lb rfl) (zHc_817 (d := d) (l := l) (D := D) (cy := cy) (sp := sp) (w := w) (p0 := p0) hG hP) hM rfl h0 (zz_lb rfl)
theorem zHc_818 {l : Launch} {D : va_G} {cy : Nat → ClassId} {z0 : Nat} {sp : Nat → Nat} {G : State → Prop} {d : Nat} (hG : zz_GF z0 G) (hP : ∀ U, G U → zz_GD zS zS2 zLg z0 sp U) {w : zz_W} {p0 : Int32} {p1 : Int32} : zz_B l zTs D zcl zFK cy z0 sp (zTys cy) G "ToolMillLaw" "listing" 5 method_21_code d (0, [(0, .ref 0), (1, .int p0), (2, .int p1), (3, .ref 328)], [], w) (5, [(0, .ref 0), (1, .int p0), (2, .int p1), (3, .ref 328)], [.int p1, .int p0, .ref 0, .int (Int32.ofNat 0), .ref 328], w) := by
  have T := zt_818 (l := l) (D := D) (cy := cy) (z0 := z0) (sp := sp) (G := G) (d := d) zz_k0_KS hG hP
  have b := zz_B_rf (l := l) (Ts := zTs) (D := D) (cl := zcl) (fk := zFK) (cy := cy) (z0 := z0) (sp := sp) (tys := zTys cy) (G := G) (own := "ToolMillLaw") (mn := "listing") (nL := 5) (cc := method_21_code) (d := d) ((0, [(0, .ref 0), (1, .int p0), (2, .int p1), (3, .ref 328)], [], w) : zz_F)
  replace b := zz_fw b T (rfl : zz_ent zP_818 0 = (0, za_aload 3 1)) (ze_aload rfl)
  replace b := zz_fw b T (rfl : zz_ent zP_818 1 = (0, za_const (.int (Int32.ofNat 0)) 2)) (ze_const)
  replace b := zz_fw b T (rfl : zz_ent zP_818 2 = (0, za_aload 0 3)) (ze_aload rfl)
  replace b := zz_fw b T (rfl : zz_ent zP_818 3 = (0, za_iload 1 4)) (ze_iload rfl)
  replace b := zz_fw b T (rfl : zz_ent zP_818 4 = (0, za_iload 2 5)) (ze_iload rfl)
  exact b
theorem zHr_818 {l : Launch} {D : va_G} {cy : Nat → ClassId} {z0 : Nat} {sp : Nat → Nat} {G : State → Prop} {d : Nat} (hG : zz_GF z0 G) (hP : ∀ U, G U → zz_GD zS zS2 zLg z0 sp U) {p0 : Int32} {p1 : Int32} {w w' : zz_W} {a : Int32} {N : Nat} (hs : zz_sh w') (hN : zz_has w' 328 (1, 3, 1, N)) (h0 : zz_ic w 0 1 = true) (hM : zz_M l zTs D zcl zFK cy z0 sp (zTys cy) G zYN zCN zMQ zRT d 20 [.ref 0, .int p0, .int p1] w [.int a] w') : zz_MH l zTs D zcl zFK cy z0 sp (zTys cy) G zy_818 method_21_code 5 (some .int) [(0, 10, 13, 73)] (d + 1) [.ref 0, .int p0, .int p1, .ref 328] w [.int (Int32.ofNat 0)] (zWo w' N a) := by
  have T := zt_818 (l := l) (D := D) (cy := cy) (z0 := z0) (sp := sp) (G := G) (d := d) zz_k0_KS hG hP
  have TK := fun (K : zz_K) (h : zz_KS l D zcl zFK cy z0 sp (zTys cy) G zYN (fun y => Cond.code (zYN y) (zCN y) (zMQ y) (zRT y) :: zTs) d K) => zt_818 h hG hP
  have b := zHc_818 (d := d) (l := l) (D := D) (cy := cy) (sp := sp) (w := w) (p0 := p0) (p1 := p1) hG hP
  replace b := zz_fVi b TK (rfl : zz_ent zP_818 5 = (0, za_callV 1 20 2 8)) hM rfl rfl h0 (zz_lb rfl)
  replace b := zz_fw b T (rfl : zz_ent zP_818 8 = (0, za_i2l 9)) (ze_i2l rfl)
  replace b := zz_fw b T (rfl : zz_ent zP_818 9 = (0, za_astL 3 10)) (ze_astL hs hN (by decide) (by decide))
  replace b := zz_fw b T (rfl : zz_ent zP_818 10 = (0, za_goto 17)) (ze_goto)
  replace b := zz_fw b T (rfl : zz_ent zP_818 17 = (0, za_const (.int (Int32.ofNat 0)) 18)) (ze_const)
  exact zz_MH_B rfl rfl (by decide +kernel) (zz_lb rfl) (zz_lb rfl) (zz_end_i zd_818_18) b
theorem zHx_818_0 {l : Launch} {D : va_G} {cy : Nat → ClassId} {z0 : Nat} {sp : Nat → Nat} {G : State → Prop} {d : Nat} (hG : zz_GF z0 G) (hP : ∀ U, G U → zz_GD zS zS2 zLg z0 sp U) (hE : ∀ U, G U → zGX z0 U) {p0 : Int32} {p1 : Int32} {w w' : zz_W} (h0 : zz_ic w 0 1 = true) (hM : zz_MX l zTs D zcl zFK cy z0 sp (zTys cy) G zYN zCN zMQ zRT d 20 [.ref 0, .int p0, .int p1] w "java/lang/IndexOutOfBoundsException" w') : zz_MH l zTs D zcl zFK cy z0 sp (zTys cy) G zy_818 method_21_code 5 (some .int) [(0, 10, 13, 73)] (d + 1) [.ref 0, .int p0, .int p1, .ref 328] w [.int (Int32.ofNat 1)] w' :=
  zhx_818_0 (as := [.ref 0, .int p0, .int p1, .ref 328]) (bs := [.int p0, .int p1]) (r := [.int (Int32.ofNat 0), .ref 328]) hG hE (zz_lb rfl) (zHc_818 (d := d) (l := l) (D := D) (cy := cy) (sp := sp) (w := w) (p0 := p0) (p1 := p1) hG hP) hM rfl h0 (zz_lb rfl)
theorem zHc_819 {l : Launch} {D : va_G} {cy : Nat → ClassId} {z0 : Nat} {sp : Nat → Nat} {G : State → Prop} {d : Nat} (hG : zz_GF z0 G) (hP : ∀ U, G U → zz_GD zS zS2 zLg z0 sp U) {w : zz_W} {p0 : Int32} : zz_B l zTs D zcl zFK cy z0 sp (zTys cy) G "ToolMillLaw" "mean" 4 method_22_code d (0, [(0, .ref 0), (1, .int p0), (2, .ref 328)], [], w) (4, [(0, .ref 0), (1, .int p0), (2, .ref 328)], [.int p0, .ref 0, .int (Int32.ofNat 0), .ref 328], w) := by
  have T := zt_819 (l := l) (D := D) (cy := cy) (z0 := z0) (sp := sp) (G := G) (d := d) zz_k0_KS hG hP
  have b := zz_B_rf (l := l) (Ts := zTs) (D := D) (cl := zcl) (fk := zFK) (cy := cy) (z0 := z0) (sp := sp) (tys := zTys cy) (G := G) (own := "ToolMillLaw") (mn := "mean") (nL := 4) (cc := method_22_code) (d := d) ((0, [(0, .ref 0), (1, .int p0), (2, .ref 328)], [], w) : zz_F)
  replace b := zz_fw b T (rfl : zz_ent zP_819 0 = (0, za_aload 2 1)) (ze_aload rfl)
  replace b := zz_fw b T (rfl : zz_ent zP_819 1 = (0, za_const (.int (Int32.ofNat 0)) 2)) (ze_const)
  replace b := zz_fw b T (rfl : zz_ent zP_819 2 = (0, za_aload 0 3)) (ze_aload rfl)
  replace b := zz_fw b T (rfl : zz_ent zP_819 3 = (0, za_iload 1 4)) (ze_iload rfl)
  exact b
theorem zHr_819 {l : Launch} {D : va_G} {cy : Nat → ClassId} {z0 : Nat} {sp : Nat → Nat} {G : State → Prop} {d : Nat} (hG : zz_GF z0 G) (hP : ∀ U, G U → zz_GD zS zS2 zLg z0 sp U) {p0 : Int32} {w w' : zz_W} {a : Int32} {N : Nat} (hs : zz_sh w') (hN : zz_has w' 328 (1, 3, 1, N)) (h0 : zz_ic w 0 1 = true) (hM : zz_M l zTs D zcl zFK cy z0 sp (zTys cy) G zYN zCN zMQ zRT d 21 [.ref 0, .int p0] w [.int a] w') : zz_MH l zTs D zcl zFK cy z0 sp (zTys cy) G zy_819 method_22_code 4 (some .int) [(0, 9, 12, 25), (0, 9, 15, 13)] (d + 1) [.ref 0, .int p0, .ref 328] w [.int (Int32.ofNat 0)] (zWo w' N a) := by
  have T := zt_819 (l := l) (D := D) (cy := cy) (z0 := z0) (sp := sp) (G := G) (d := d) zz_k0_KS hG hP
  have TK := fun (K : zz_K) (h : zz_KS l D zcl zFK cy z0 sp (zTys cy) G zYN (fun y => Cond.code (zYN y) (zCN y) (zMQ y) (zRT y) :: zTs) d K) => zt_819 h hG hP
  have b := zHc_819 (d := d) (l := l) (D := D) (cy := cy) (sp := sp) (w := w) (p0 := p0) hG hP
  replace b := zz_fVi b TK (rfl : zz_ent zP_819 4 = (0, za_callV 1 21 1 7)) hM rfl rfl h0 (zz_lb rfl)
  replace b := zz_fw b T (rfl : zz_ent zP_819 7 = (0, za_i2l 8)) (ze_i2l rfl)
  replace b := zz_fw b T (rfl : zz_ent zP_819 8 = (0, za_astL 3 9)) (ze_astL hs hN (by decide) (by decide))
  replace b := zz_fw b T (rfl : zz_ent zP_819 9 = (0, za_goto 18)) (ze_goto)
  replace b := zz_fw b T (rfl : zz_ent zP_819 18 = (0, za_const (.int (Int32.ofNat 0)) 19)) (ze_const)
  exact zz_MH_B rfl rfl (by decide +kernel) (zz_lb rfl) (zz_lb rfl) (zz_end_i zd_819_19) b
theorem zHx_819_0 {l : Launch} {D : va_G} {cy : Nat → ClassId} {z0 : Nat} {sp : Nat → Nat} {G : State → Prop} {d : Nat} (hG : zz_GF z0 G) (hP : ∀ U, G U → zz_GD zS zS2 zLg z0 sp U) (hE : ∀ U, G U → zGX z0 U) {p0 : Int32} {w w' : zz_W} (h0 : zz_ic w 0 1 = true) (hM : zz_MX l zTs D zcl zFK cy z0 sp (zTys cy) G zYN zCN zMQ zRT d 21 [.ref 0, .int p0] w "java/lang/IllegalStateException" w') : zz_MH l zTs D zcl zFK cy z0 sp (zTys cy) G zy_819 method_22_code 4 (some .int) [(0, 9, 12, 25), (0, 9, 15, 13)] (d + 1) [.ref 0, .int p0, .ref 328] w [.int (Int32.ofNat 1)] w' :=
  zhx_819_0 (as := [.ref 0, .int p0, .ref 328]) (bs := [.int p0]) (r := [.int (Int32.ofNat 0), .ref 328]) hG hE (zz_lb rfl) (zHc_819 (d := d) (l := l) (D := D) (cy := cy) (sp := sp) (w := w) (p0 := p0) hG hP) hM rfl h0 (zz_lb rfl)
theorem zHx_819_1 {l : Launch} {D : va_G} {cy : Nat → ClassId} {z0 : Nat} {sp : Nat → Nat} {G : State → Prop} {d : Nat} (hG : zz_GF z0 G) (hP : ∀ U, G U → zz_GD zS zS2 zLg z0 sp U) (hE : ∀ U, G U → zGX z0 U) {p0 : Int32} {w w' : zz_W} (h0 : zz_ic w 0 1 = true) (hM : zz_MX l zTs D zcl zFK cy z0 sp (zTys cy) G zYN zCN zMQ zRT d 21 [.ref 0, .int p0] w "java/lang/IllegalArgumentException" w') : zz_MH l zTs D zcl zFK cy z0 sp (zTys cy) G zy_819 method_22_code 4 (some .int) [(0, 9, 12, 25), (0, 9, 15, 13)] (d + 1) [.ref 0, .int p0, .ref 328] w [.int (Int32.ofNat 2)] w' :=
  zhx_819_1 (as := [.ref 0, .int p0, .ref 328]) (bs := [.int p0]) (r := [.int (Int32.ofNat 0), .ref 328]) hG hE (zz_lb rfl) (zHc_819 (d := d) (l := l) (D := D) (cy := cy) (sp := sp) (w := w) (p0 := p0) hG hP) hM rfl h0 (zz_lb rfl)
theorem zHc_820 {l : Launch} {D : va_G} {cy : Nat → ClassId} {z0 : Nat} {sp : Nat → Nat} {G : State → Prop} {d : Nat} (hG : zz_GF z0 G) (hP : ∀ U, G U → zz_GD zS zS2 zLg z0 sp U) {w : zz_W} {p0 : Int32} : zz_B l zTs D zcl zFK cy z0 sp (zTys cy) G "ToolMillLaw" "meant" 4 method_23_code d (0, [(0, .ref 0), (1, .int p0), (2, .ref 328)], [], w) (4, [(0, .ref 0), (1, .int p0), (2, .ref 328)], [.int p0, .ref 0, .int (Int32.ofNat 0), .ref 328], w) := by
  have T := zt_820 (l := l) (D := D) (cy := cy) (z0 := z0) (sp := sp) (G := G) (d := d) zz_k0_KS hG hP
  have b := zz_B_rf (l := l) (Ts := zTs) (D := D) (cl := zcl) (fk := zFK) (cy := cy) (z0 := z0) (sp := sp) (tys := zTys cy) (G := G) (own := "ToolMillLaw") (mn := "meant") (nL := 4) (cc := method_23_code) (d := d) ((0, [(0, .ref 0), (1, .int p0), (2, .ref 328)], [], w) : zz_F)
  replace b := zz_fw b T (rfl : zz_ent zP_820 0 = (0, za_aload 2 1)) (ze_aload rfl)
  replace b := zz_fw b T (rfl : zz_ent zP_820 1 = (0, za_const (.int (Int32.ofNat 0)) 2)) (ze_const)
  replace b := zz_fw b T (rfl : zz_ent zP_820 2 = (0, za_aload 0 3)) (ze_aload rfl)
  replace b := zz_fw b T (rfl : zz_ent zP_820 3 = (0, za_iload 1 4)) (ze_iload rfl)
  exact b
theorem zHr_820 {l : Launch} {D : va_G} {cy : Nat → ClassId} {z0 : Nat} {sp : Nat → Nat} {G : State → Prop} {d : Nat} (hG : zz_GF z0 G) (hP : ∀ U, G U → zz_GD zS zS2 zLg z0 sp U) {p0 : Int32} {w w' : zz_W} {a : Int32} {N : Nat} (hs : zz_sh w') (hN : zz_has w' 328 (1, 3, 1, N)) (h0 : zz_ic w 0 1 = true) (hM : zz_M l zTs D zcl zFK cy z0 sp (zTys cy) G zYN zCN zMQ zRT d 22 [.ref 0, .int p0] w [.int a] w') : zz_MH l zTs D zcl zFK cy z0 sp (zTys cy) G zy_820 method_23_code 4 (some .int) [(0, 9, 12, 25), (0, 9, 15, 13)] (d + 1) [.ref 0, .int p0, .ref 328] w [.int (Int32.ofNat 0)] (zWo w' N a) := by
  have T := zt_820 (l := l) (D := D) (cy := cy) (z0 := z0) (sp := sp) (G := G) (d := d) zz_k0_KS hG hP
  have TK := fun (K : zz_K) (h : zz_KS l D zcl zFK cy z0 sp (zTys cy) G zYN (fun y => Cond.code (zYN y) (zCN y) (zMQ y) (zRT y) :: zTs) d K) => zt_820 h hG hP
  have b := zHc_820 (d := d) (l := l) (D := D) (cy := cy) (sp := sp) (w := w) (p0 := p0) hG hP
  replace b := zz_fVi b TK (rfl : zz_ent zP_820 4 = (0, za_callV 1 22 1 7)) hM rfl rfl h0 (zz_lb rfl)
  replace b := zz_fw b T (rfl : zz_ent zP_820 7 = (0, za_i2l 8)) (ze_i2l rfl)
  replace b := zz_fw b T (rfl : zz_ent zP_820 8 = (0, za_astL 3 9)) (ze_astL hs hN (by decide) (by decide))
  replace b := zz_fw b T (rfl : zz_ent zP_820 9 = (0, za_goto 18)) (ze_goto)
  replace b := zz_fw b T (rfl : zz_ent zP_820 18 = (0, za_const (.int (Int32.ofNat 0)) 19)) (ze_const)
  exact zz_MH_B rfl rfl (by decide +kernel) (zz_lb rfl) (zz_lb rfl) (zz_end_i zd_820_19) b
theorem zHx_820_0 {l : Launch} {D : va_G} {cy : Nat → ClassId} {z0 : Nat} {sp : Nat → Nat} {G : State → Prop} {d : Nat} (hG : zz_GF z0 G) (hP : ∀ U, G U → zz_GD zS zS2 zLg z0 sp U) (hE : ∀ U, G U → zGX z0 U) {p0 : Int32} {w w' : zz_W} (h0 : zz_ic w 0 1 = true) (hM : zz_MX l zTs D zcl zFK cy z0 sp (zTys cy) G zYN zCN zMQ zRT d 22 [.ref 0, .int p0] w "java/lang/IllegalStateException" w') : zz_MH l zTs D zcl zFK cy z0 sp (zTys cy) G zy_820 method_23_code 4 (some .int) [(0, 9, 12, 25), (0, 9, 15, 13)] (d + 1) [.ref 0, .int p0, .ref 328] w [.int (Int32.ofNat 1)] w' :=
  zhx_820_0 (as := [.ref 0, .int p0, .ref 328]) (bs := [.int p0]) (r := [.int (Int32.ofNat 0), .ref 328]) hG hE (zz_lb rfl) (zHc_820 (d := d) (l := l) (D := D) (cy := cy) (sp := sp) (w := w) (p0 := p0) hG hP) hM rfl h0 (zz_lb rfl)
theorem zHx_820_1 {l : Launch} {D : va_G} {cy : Nat → ClassId} {z0 : Nat} {sp : Nat → Nat} {G : State → Prop} {d : Nat} (hG : zz_GF z0 G) (hP : ∀ U, G U → zz_GD zS zS2 zLg z0 sp U) (hE : ∀ U, G U → zGX z0 U) {p0 : Int32} {w w' : zz_W} (h0 : zz_ic w 0 1 = true) (hM : zz_MX l zTs D zcl zFK cy z0 sp (zTys cy) G zYN zCN zMQ zRT d 22 [.ref 0, .int p0] w "java/lang/IllegalArgumentException" w') : zz_MH l zTs D zcl zFK cy z0 sp (zTys cy) G zy_820 method_23_code 4 (some .int) [(0, 9, 12, 25), (0, 9, 15, 13)] (d + 1) [.ref 0, .int p0, .ref 328] w [.int (Int32.ofNat 2)] w' :=
  zhx_820_1 (as := [.ref 0, .int p0, .ref 328]) (bs := [.int p0]) (r := [.int (Int32.ofNat 0), .ref 328]) hG hE (zz_lb rfl) (zHc_820 (d := d) (l := l) (D := D) (cy := cy) (sp := sp) (w := w) (p0 := p0) hG hP) hM rfl h0 (zz_lb rfl)
theorem zHc_821 {l : Launch} {D : va_G} {cy : Nat → ClassId} {z0 : Nat} {sp : Nat → Nat} {G : State → Prop} {d : Nat} (hG : zz_GF z0 G) (hP : ∀ U, G U → zz_GD zS zS2 zLg z0 sp U) {w : zz_W} {p0 : Int32} : zz_B l zTs D zcl zFK cy z0 sp (zTys cy) G "ToolMillLaw" "said" 4 method_24_code d (0, [(0, .ref 0), (1, .int p0), (2, .ref 328)], [], w) (4, [(0, .ref 0), (1, .int p0), (2, .ref 328)], [.int p0, .ref 0, .int (Int32.ofNat 0), .ref 328], w) := by
  have T := zt_821 (l := l) (D := D) (cy := cy) (z0 := z0) (sp := sp) (G := G) (d := d) zz_k0_KS hG hP
  have b := zz_B_rf (l := l) (Ts := zTs) (D := D) (cl := zcl) (fk := zFK) (cy := cy) (z0 := z0) (sp := sp) (tys := zTys cy) (G := G) (own := "ToolMillLaw") (mn := "said") (nL := 4) (cc := method_24_code) (d := d) ((0, [(0, .ref 0), (1, .int p0), (2, .ref 328)], [], w) : zz_F)
  replace b := zz_fw b T (rfl : zz_ent zP_821 0 = (0, za_aload 2 1)) (ze_aload rfl)
  replace b := zz_fw b T (rfl : zz_ent zP_821 1 = (0, za_const (.int (Int32.ofNat 0)) 2)) (ze_const)
  replace b := zz_fw b T (rfl : zz_ent zP_821 2 = (0, za_aload 0 3)) (ze_aload rfl)
  replace b := zz_fw b T (rfl : zz_ent zP_821 3 = (0, za_iload 1 4)) (ze_iload rfl)
  exact b
theorem zHr_821 {l : Launch} {D : va_G} {cy : Nat → ClassId} {z0 : Nat} {sp : Nat → Nat} {G : State → Prop} {d : Nat} (hG : zz_GF z0 G) (hP : ∀ U, G U → zz_GD zS zS2 zLg z0 sp U) {p0 : Int32} {w w' : zz_W} {a : Int32} {N : Nat} (hs : zz_sh w') (hN : zz_has w' 328 (1, 3, 1, N)) (h0 : zz_ic w 0 1 = true) (hM : zz_M l zTs D zcl zFK cy z0 sp (zTys cy) G zYN zCN zMQ zRT d 23 [.ref 0, .int p0] w [.int a] w') : zz_MH l zTs D zcl zFK cy z0 sp (zTys cy) G zy_821 method_24_code 4 (some .int) [(0, 9, 12, 25), (0, 9, 15, 73)] (d + 1) [.ref 0, .int p0, .ref 328] w [.int (Int32.ofNat 0)] (zWo w' N a) := by
  have T := zt_821 (l := l) (D := D) (cy := cy) (z0 := z0) (sp := sp) (G := G) (d := d) zz_k0_KS hG hP
  have TK := fun (K : zz_K) (h : zz_KS l D zcl zFK cy z0 sp (zTys cy) G zYN (fun y => Cond.code (zYN y) (zCN y) (zMQ y) (zRT y) :: zTs) d K) => zt_821 h hG hP
  have b := zHc_821 (d := d) (l := l) (D := D) (cy := cy) (sp := sp) (w := w) (p0 := p0) hG hP
  replace b := zz_fVi b TK (rfl : zz_ent zP_821 4 = (0, za_callV 1 23 1 7)) hM rfl rfl h0 (zz_lb rfl)
  replace b := zz_fw b T (rfl : zz_ent zP_821 7 = (0, za_i2l 8)) (ze_i2l rfl)
  replace b := zz_fw b T (rfl : zz_ent zP_821 8 = (0, za_astL 3 9)) (ze_astL hs hN (by decide) (by decide))
  replace b := zz_fw b T (rfl : zz_ent zP_821 9 = (0, za_goto 18)) (ze_goto)
  replace b := zz_fw b T (rfl : zz_ent zP_821 18 = (0, za_const (.int (Int32.ofNat 0)) 19)) (ze_const)
  exact zz_MH_B rfl rfl (by decide +kernel) (zz_lb rfl) (zz_lb rfl) (zz_end_i zd_821_19) b
theorem zHx_821_0 {l : Launch} {D : va_G} {cy : Nat → ClassId} {z0 : Nat} {sp : Nat → Nat} {G : State → Prop} {d : Nat} (hG : zz_GF z0 G) (hP : ∀ U, G U → zz_GD zS zS2 zLg z0 sp U) (hE : ∀ U, G U → zGX z0 U) {p0 : Int32} {w w' : zz_W} (h0 : zz_ic w 0 1 = true) (hM : zz_MX l zTs D zcl zFK cy z0 sp (zTys cy) G zYN zCN zMQ zRT d 23 [.ref 0, .int p0] w "java/lang/IllegalStateException" w') : zz_MH l zTs D zcl zFK cy z0 sp (zTys cy) G zy_821 method_24_code 4 (some .int) [(0, 9, 12, 25), (0, 9, 15, 73)] (d + 1) [.ref 0, .int p0, .ref 328] w [.int (Int32.ofNat 1)] w' :=
  zhx_821_0 (as := [.ref 0, .int p0, .ref 328]) (bs := [.int p0]) (r := [.int (Int32.ofNat 0), .ref 328]) hG hE (zz_lb rfl) (zHc_821 (d := d) (l := l) (D := D) (cy := cy) (sp := sp) (w := w) (p0 := p0) hG hP) hM rfl h0 (zz_lb rfl)
theorem zHx_821_1 {l : Launch} {D : va_G} {cy : Nat → ClassId} {z0 : Nat} {sp : Nat → Nat} {G : State → Prop} {d : Nat} (hG : zz_GF z0 G) (hP : ∀ U, G U → zz_GD zS zS2 zLg z0 sp U) (hE : ∀ U, G U → zGX z0 U) {p0 : Int32} {w w' : zz_W} (h0 : zz_ic w 0 1 = true) (hM : zz_MX l zTs D zcl zFK cy z0 sp (zTys cy) G zYN zCN zMQ zRT d 23 [.ref 0, .int p0] w "java/lang/IndexOutOfBoundsException" w') : zz_MH l zTs D zcl zFK cy z0 sp (zTys cy) G zy_821 method_24_code 4 (some .int) [(0, 9, 12, 25), (0, 9, 15, 73)] (d + 1) [.ref 0, .int p0, .ref 328] w [.int (Int32.ofNat 2)] w' :=
  zhx_821_1 (as := [.ref 0, .int p0, .ref 328]) (bs := [.int p0]) (r := [.int (Int32.ofNat 0), .ref 328]) hG hE (zz_lb rfl) (zHc_821 (d := d) (l := l) (D := D) (cy := cy) (sp := sp) (w := w) (p0 := p0) hG hP) hM rfl h0 (zz_lb rfl)
theorem zMx_3_61 {l : Launch} {D : va_G} {cy : Nat → ClassId} {z0 : Nat} {sp : Nat → Nat} {G : State → Prop} (hG : zz_GF z0 G) (hP : ∀ U, G U → zz_GD zS zS2 zLg z0 sp U) {w : zz_W} (h0 : zz_ic w 0 1 = true)  (E : String) (w' : zz_W) (hM : zz_MX l zTs D zcl zFK cy z0 sp (zTys cy) G zYN zCN zMQ zRT 468 61 ([.ref 0].take 1) w E w') : zz_MX l zTs D zcl zFK cy z0 sp (zTys cy) G zYN zCN zMQ zRT 469 3 [.ref 0] w E w' := by
  have T : zz_TO l zTs D zcl zFK cy z0 sp (zTys cy) G "ToolMill" "source" 5 prog_1_method_4_code 468 zz_k0 zP_3 := zP_s zz_k0_KS hG hP 3 (by decide) (Or.inl (by decide))
  have b := zz_B_rf (l := l) (Ts := zTs) (D := D) (cl := zcl) (fk := zFK) (cy := cy) (z0 := z0) (sp := sp) (tys := zTys cy) (G := G) (own := "ToolMill") (mn := "source") (nL := 5) (cc := prog_1_method_4_code) (d := 468) ((0, lv_args 0 [.ref 0], [], w) : zz_F)
  replace b := zz_fw b T (rfl : zz_ent zP_3 0 = (0, za_aload 0 1)) (ze_aload rfl)
  exact zz_MX_B rfl rfl rfl rfl (by decide +kernel) (zz_lb rfl) (zz_TX_B b (zxc_3_1 (as := []) (r := []) hG hM rfl h0 (zz_lb rfl)))
theorem zCm_3 {l : Launch} {D : va_G} {cy : Nat → ClassId} {z0 : Nat} {sp : Nat → Nat} {G : State → Prop} (H : zHy l D cy z0 sp G) {n : Nat} (hn : n ≤ 511) {w : zz_W} (h : zIv zQI n 0 w)  : ∃ rv w', zRl l D cy z0 sp G 469 3 [("java/lang/IllegalStateException", 15)] [.ref 0] w rv w' ∧ zIv zQM n 0 w' := by
  obtain ⟨hG, hP, hW, hsp0, hWk, hTX, hl, hE⟩ := H
  have hw : w.1 < 16 * 64 := by have := h.2.2.1; omega
  have h0 := zI_ic0 (zIv_I h)
  exact zCl_gen hn h [] (Nat.le_of_ble_eq_true rfl) zXk_c3 zXm_c3 rfl rfl (Rl := zRl l D cy z0 sp G 469 3 [("java/lang/IllegalStateException", 15)] [.ref 0] w) (List.forall_mem_cons.mpr ⟨zPP_co (zCon_3 hG hP hW hsp0 hWk) rfl (by decide +kernel) rfl, List.forall_mem_cons.mpr ⟨zPP_co (zCon_3_1 hG hP hW hsp0 hWk) rfl (by decide +kernel) rfl, List.forall_mem_cons.mpr ⟨zPP_co (zCon_3_2 hG hP hW hsp0 hWk) rfl (by decide +kernel) rfl, List.forall_mem_cons.mpr ⟨zPP_co (zCon_3_3 hG hP hW hsp0 hWk) rfl (by decide +kernel) rfl, List.forall_mem_cons.mpr ⟨zPP_co (zCon_3_4 hG hP hW hsp0 hWk) rfl (by decide +kernel) rfl, List.forall_mem_cons.mpr ⟨zPP_co (zCon_3_5 hG hP hW hsp0 hWk) rfl (by decide +kernel) rfl, List.forall_mem_cons.mpr ⟨zPP_th (zPX_61_x0 hG hP hW hsp0 hWk hTX) rfl (by decide) (by decide +kernel) hw (zMx_3_61 hG hP h0), (fun _ h => absurd h List.not_mem_nil)⟩⟩⟩⟩⟩⟩⟩)
theorem zHk_3 {l : Launch} {D : va_G} {cy : Nat → ClassId} {z0 : Nat} {sp : Nat → Nat} {G : State → Prop} (H : zHy l D cy z0 sp G) {n : Nat} (hn : n ≤ 511) {w : zz_W} (h : zIv zQI n 0 w)  : ∃ r w', zz_MH l zTs D zcl zFK cy z0 sp (zTys cy) G zy_802 method_5_code 3 (some .int) [(0, 8, 11, 25)] 470 [.ref 0, .ref 328] w [.int r] w' ∧ zIv zQM n 1 w' := by
  have h0 := zI_ic0 (zIv_I h)
  obtain ⟨rv, w', hR, hI⟩ := zCm_3 H hn h 
  obtain ⟨hG, hP, -, -, -, -, -, hE⟩ := H
  rcases hR with ⟨a, rfl, hM⟩ | ⟨rfl, x, hx, hM⟩
  · obtain ⟨N, hN⟩ := zI_328 (zIv_I hI)
    exact ⟨_, _, zHr_802 hG hP (zIv_I hI).1 hN h0 hM, zIv_1 (zIv_up zQM_w9 hI (by omega))⟩
  · rcases List.mem_cons.mp hx with e | hx
    · subst e
      exact ⟨_, _, zHx_802_0 hG hP hE h0 hM, zIv_pu zQM_ok hI (by omega)⟩
    · skip
      exact absurd hx List.not_mem_nil
theorem zMx_4_61 {l : Launch} {D : va_G} {cy : Nat → ClassId} {z0 : Nat} {sp : Nat → Nat} {G : State → Prop} (hG : zz_GF z0 G) (hP : ∀ U, G U → zz_GD zS zS2 zLg z0 sp U) {w : zz_W} (h0 : zz_ic w 0 1 = true)  (E : String) (w' : zz_W) (hM : zz_MX l zTs D zcl zFK cy z0 sp (zTys cy) G zYN zCN zMQ zRT 468 61 ([.ref 0].take 1) w E w') : zz_MX l zTs D zcl zFK cy z0 sp (zTys cy) G zYN zCN zMQ zRT 469 4 [.ref 0] w E w' := by
  have T : zz_TO l zTs D zcl zFK cy z0 sp (zTys cy) G "ToolMill" "assemble" 2 prog_1_method_5_code 468 zz_k0 zP_4 := zP_s zz_k0_KS hG hP 4 (by decide) (Or.inl (by decide))
  have b := zz_B_rf (l := l) (Ts := zTs) (D := D) (cl := zcl) (fk := zFK) (cy := cy) (z0 := z0) (sp := sp) (tys := zTys cy) (G := G) (own := "ToolMill") (mn := "assemble") (nL := 2) (cc := prog_1_method_5_code) (d := 468) ((0, lv_args 0 [.ref 0], [], w) : zz_F)
  replace b := zz_fw b T (rfl : zz_ent zP_4 0 = (0, za_aload 0 1)) (ze_aload rfl)
  exact zz_MX_B rfl rfl rfl rfl (by decide +kernel) (zz_lb rfl) (zz_TX_B b (zxc_4_1 (as := []) (r := []) hG hM rfl h0 (zz_lb rfl)))
theorem zCm_4 {l : Launch} {D : va_G} {cy : Nat → ClassId} {z0 : Nat} {sp : Nat → Nat} {G : State → Prop} (H : zHy l D cy z0 sp G) {n : Nat} (hn : n ≤ 511) {w : zz_W} (h : zIv zQI n 0 w)  : ∃ rv w', zRl l D cy z0 sp G 469 4 [("java/lang/IllegalStateException", 15)] [.ref 0] w rv w' ∧ zIv zQM n 0 w' := by
  obtain ⟨hG, hP, hW, hsp0, hWk, hTX, hl, hE⟩ := H
  have hw : w.1 < 16 * 64 := by have := h.2.2.1; omega
  have h0 := zI_ic0 (zIv_I h)
  exact zCl_gen hn h [] (Nat.le_of_ble_eq_true rfl) zXk_c4 zXm_c4 rfl rfl (Rl := zRl l D cy z0 sp G 469 4 [("java/lang/IllegalStateException", 15)] [.ref 0] w) (List.forall_mem_cons.mpr ⟨zPP_co (zCon_4 hG hP hW hsp0 hWk) rfl (by decide +kernel) rfl, List.forall_mem_cons.mpr ⟨zPP_co (zCon_4_1 hG hP hW hsp0 hWk) rfl (by decide +kernel) rfl, List.forall_mem_cons.mpr ⟨zPP_co (zCon_4_2 hG hP hW hsp0 hWk) rfl (by decide +kernel) rfl, List.forall_mem_cons.mpr ⟨zPP_co (zCon_4_3 hG hP hW hsp0 hWk) rfl (by decide +kernel) rfl, List.forall_mem_cons.mpr ⟨zPP_co (zCon_4_4 hG hP hW hsp0 hWk) rfl (by decide +kernel) rfl, List.forall_mem_cons.mpr ⟨zPP_co (zCon_4_5 hG hP hW hsp0 hWk) rfl (by decide +kernel) rfl, List.forall_mem_cons.mpr ⟨zPP_th (zPX_61_x0 hG hP hW hsp0 hWk hTX) rfl (by decide) (by decide +kernel) hw (zMx_4_61 hG hP h0), (fun _ h => absurd h List.not_mem_nil)⟩⟩⟩⟩⟩⟩⟩)
theorem zHk_4 {l : Launch} {D : va_G} {cy : Nat → ClassId} {z0 : Nat} {sp : Nat → Nat} {G : State → Prop} (H : zHy l D cy z0 sp G) {n : Nat} (hn : n ≤ 511) {w : zz_W} (h : zIv zQI n 0 w)  : ∃ r w', zz_MH l zTs D zcl zFK cy z0 sp (zTys cy) G zy_803 method_6_code 3 (some .int) [(0, 8, 11, 25)] 470 [.ref 0, .ref 328] w [.int r] w' ∧ zIv zQM n 1 w' := by
  have h0 := zI_ic0 (zIv_I h)
  obtain ⟨rv, w', hR, hI⟩ := zCm_4 H hn h 
  obtain ⟨hG, hP, -, -, -, -, -, hE⟩ := H
  rcases hR with ⟨a, rfl, hM⟩ | ⟨rfl, x, hx, hM⟩
  · obtain ⟨N, hN⟩ := zI_328 (zIv_I hI)
    exact ⟨_, _, zHr_803 hG hP (zIv_I hI).1 hN h0 hM, zIv_1 (zIv_up zQM_w9 hI (by omega))⟩
  · rcases List.mem_cons.mp hx with e | hx
    · subst e
      exact ⟨_, _, zHx_803_0 hG hP hE h0 hM, zIv_pu zQM_ok hI (by omega)⟩
    · skip
      exact absurd hx List.not_mem_nil
theorem zCm_6 {l : Launch} {D : va_G} {cy : Nat → ClassId} {z0 : Nat} {sp : Nat → Nat} {G : State → Prop} (H : zHy l D cy z0 sp G) {n : Nat} (hn : n ≤ 511) {w : zz_W} (h : zIv zQI n 0 w) (p0 : Int32) : ∃ rv w', zRl l D cy z0 sp G 469 6 [("java/lang/IllegalArgumentException", 14)] [.ref 0, .int p0] w rv w' ∧ zIv zQM n 0 w' := by
  obtain ⟨hG, hP, hW, hsp0, hWk, hTX, hl, hE⟩ := H
  have hw : w.1 < 16 * 64 := by have := h.2.2.1; omega
  have h0 := zI_ic0 (zIv_I h)
  exact zCl_gen hn h [p0] (Nat.le_of_ble_eq_true rfl) zXk_c6 zXm_c6 rfl rfl (Rl := zRl l D cy z0 sp G 469 6 [("java/lang/IllegalArgumentException", 14)] [.ref 0, .int p0] w) (List.forall_mem_cons.mpr ⟨zPP_px (zk_liftP zHX_ok (by decide +kernel) (zPX_6_x0 hG hP hW hTX)) rfl (by decide) (by decide +kernel) rfl rfl hw, (fun _ h => absurd h List.not_mem_nil)⟩)
theorem zHk_6 {l : Launch} {D : va_G} {cy : Nat → ClassId} {z0 : Nat} {sp : Nat → Nat} {G : State → Prop} (H : zHy l D cy z0 sp G) {n : Nat} (hn : n ≤ 511) {w : zz_W} (h : zIv zQI n 0 w) (p0 : Int32) : ∃ r w', zz_MH l zTs D zcl zFK cy z0 sp (zTys cy) G zy_804 method_7_code 4 (some .int) [(0, 9, 12, 13)] 470 [.ref 0, .int p0, .ref 328] w [.int r] w' ∧ zIv zQM n 1 w' := by
  have h0 := zI_ic0 (zIv_I h)
  obtain ⟨rv, w', hR, hI⟩ := zCm_6 H hn h p0
  obtain ⟨hG, hP, -, -, -, -, -, hE⟩ := H
  rcases hR with ⟨a, rfl, hM⟩ | ⟨rfl, x, hx, hM⟩
  · obtain ⟨N, hN⟩ := zI_328 (zIv_I hI)
    exact ⟨_, _, zHr_804 hG hP (zIv_I hI).1 hN h0 hM, zIv_1 (zIv_up zQM_w9 hI (by omega))⟩
  · rcases List.mem_cons.mp hx with e | hx
    · subst e
      exact ⟨_, _, zHx_804_0 hG hP hE h0 hM, zIv_pu zQM_ok hI (by omega)⟩
    · skip
      exact absurd hx List.not_mem_nil
theorem zMx_7_65 {l : Launch} {D : va_G} {cy : Nat → ClassId} {z0 : Nat} {sp : Nat → Nat} {G : State → Prop} (hG : zz_GF z0 G) (hP : ∀ U, G U → zz_GD zS zS2 zLg z0 sp U) {w : zz_W} (h0 : zz_ic w 0 1 = true) {p0 : Int32} {p1 : Int32} (E : String) (w' : zz_W) (hM : zz_MX l zTs D zcl zFK cy z0 sp (zTys cy) G zYN zCN zMQ zRT 468 65 ([.ref 0, .int p0, .int p1].take 2) w E w') : zz_MX l zTs D zcl zFK cy z0 sp (zTys cy) G zYN zCN zMQ zRT 469 7 [.ref 0, .int p0, .int p1] w E w' := by
  have T : zz_TO l zTs D zcl zFK cy z0 sp (zTys cy) G "ToolMill" "typed" 4 prog_1_method_8_code 468 zz_k0 zP_7 := zP_s zz_k0_KS hG hP 7 (by decide) (Or.inl (by decide))
  have b := zz_B_rf (l := l) (Ts := zTs) (D := D) (cl := zcl) (fk := zFK) (cy := cy) (z0 := z0) (sp := sp) (tys := zTys cy) (G := G) (own := "ToolMill") (mn := "typed") (nL := 4) (cc := prog_1_method_8_code) (d := 468) ((0, lv_args 0 [.ref 0, .int p0, .int p1], [], w) : zz_F)
  replace b := zz_fw b T (rfl : zz_ent zP_7 0 = (0, za_aload 0 1)) (ze_aload rfl)
  replace b := zz_fw b T (rfl : zz_ent zP_7 1 = (0, za_iload 1 2)) (ze_iload rfl)
  exact zz_MX_B rfl rfl rfl rfl (by decide +kernel) (zz_lb rfl) (zz_TX_B b (zxc_7_2 (as := [.int p0]) (r := []) hG hM rfl h0 (zz_lb rfl)))
theorem zCm_7 {l : Launch} {D : va_G} {cy : Nat → ClassId} {z0 : Nat} {sp : Nat → Nat} {G : State → Prop} (H : zHy l D cy z0 sp G) {n : Nat} (hn : n ≤ 511) {w : zz_W} (h : zIv zQI n 0 w) (p0 : Int32) (p1 : Int32) : ∃ rv w', zRl l D cy z0 sp G 469 7 [("java/util/NoSuchElementException", 16)] [.ref 0, .int p0, .int p1] w rv w' ∧ zIv zQM n 0 w' := by
  obtain ⟨hG, hP, hW, hsp0, hWk, hTX, hl, hE⟩ := H
  have hw : w.1 < 16 * 64 := by have := h.2.2.1; omega
  have h0 := zI_ic0 (zIv_I h)
  exact zCl_gen hn h [p0, p1] (Nat.le_of_ble_eq_true rfl) zXk_c7 zXm_c7 rfl rfl (Rl := zRl l D cy z0 sp G 469 7 [("java/util/NoSuchElementException", 16)] [.ref 0, .int p0, .int p1] w) (List.forall_mem_cons.mpr ⟨zPP_px (zPX_7_x0 hG hP hW hsp0 hWk hTX) rfl (by decide) (by decide +kernel) rfl rfl hw, List.forall_mem_cons.mpr ⟨zPP_px (zPX_7_x1 hG hP hW hsp0 hWk hTX) rfl (by decide) (by decide +kernel) rfl rfl hw, List.forall_mem_cons.mpr ⟨zPP_th (zPX_65_x0 hG hP hW hsp0 hWk hTX) rfl (by decide) (by decide +kernel) hw (zMx_7_65 hG hP h0), List.forall_mem_cons.mpr ⟨zPP_th (zPX_65_x1 hG hP hW hsp0 hWk hTX) rfl (by decide) (by decide +kernel) hw (zMx_7_65 hG hP h0), List.forall_mem_cons.mpr ⟨zPP_th (zPX_65_x2 hG hP hW hsp0 hWk hTX) rfl (by decide) (by decide +kernel) hw (zMx_7_65 hG hP h0), (fun _ h => absurd h List.not_mem_nil)⟩⟩⟩⟩⟩)
theorem zHk_7 {l : Launch} {D : va_G} {cy : Nat → ClassId} {z0 : Nat} {sp : Nat → Nat} {G : State → Prop} (H : zHy l D cy z0 sp G) {n : Nat} (hn : n ≤ 511) {w : zz_W} (h : zIv zQI n 0 w) (p0 : Int32) (p1 : Int32) : ∃ r w', zz_MH l zTs D zcl zFK cy z0 sp (zTys cy) G zy_805 method_8_code 5 (some .int) [(0, 10, 13, 37)] 470 [.ref 0, .int p0, .int p1, .ref 328] w [.int r] w' ∧ zIv zQM n 1 w' := by
  have h0 := zI_ic0 (zIv_I h)
  obtain ⟨rv, w', hR, hI⟩ := zCm_7 H hn h p0 p1
  obtain ⟨hG, hP, -, -, -, -, -, hE⟩ := H
  rcases hR with ⟨a, rfl, hM⟩ | ⟨rfl, x, hx, hM⟩
  · obtain ⟨N, hN⟩ := zI_328 (zIv_I hI)
    exact ⟨_, _, zHr_805 hG hP (zIv_I hI).1 hN h0 hM, zIv_1 (zIv_up zQM_w9 hI (by omega))⟩
  · rcases List.mem_cons.mp hx with e | hx
    · subst e
      exact ⟨_, _, zHx_805_0 hG hP hE h0 hM, zIv_pu zQM_ok hI (by omega)⟩
    · skip
      exact absurd hx List.not_mem_nil
theorem zMx_8_65 {l : Launch} {D : va_G} {cy : Nat → ClassId} {z0 : Nat} {sp : Nat → Nat} {G : State → Prop} (hG : zz_GF z0 G) (hP : ∀ U, G U → zz_GD zS zS2 zLg z0 sp U) {w : zz_W} (h0 : zz_ic w 0 1 = true) {p0 : Int32} {p1 : Int32} (E : String) (w' : zz_W) (hM : zz_MX l zTs D zcl zFK cy z0 sp (zTys cy) G zYN zCN zMQ zRT 468 65 ([.ref 0, .int p0, .int p1].take 2) w E w') : zz_MX l zTs D zcl zFK cy z0 sp (zTys cy) G zYN zCN zMQ zRT 469 8 [.ref 0, .int p0, .int p1] w E w' := by
  have T : zz_TO l zTs D zcl zFK cy z0 sp (zTys cy) G "ToolMill" "unit" 4 prog_1_method_9_code 468 zz_k0 zP_8 := zP_s zz_k0_KS hG hP 8 (by decide) (Or.inl (by decide))
  have b := zz_B_rf (l := l) (Ts := zTs) (D := D) (cl := zcl) (fk := zFK) (cy := cy) (z0 := z0) (sp := sp) (tys := zTys cy) (G := G) (own := "ToolMill") (mn := "unit") (nL := 4) (cc := prog_1_method_9_code) (d := 468) ((0, lv_args 0 [.ref 0, .int p0, .int p1], [], w) : zz_F)
  replace b := zz_fw b T (rfl : zz_ent zP_8 0 = (0, za_aload 0 1)) (ze_aload rfl)
  replace b := zz_fw b T (rfl : zz_ent zP_8 1 = (0, za_iload 1 2)) (ze_iload rfl)
  exact zz_MX_B rfl rfl rfl rfl (by decide +kernel) (zz_lb rfl) (zz_TX_B b (zxc_8_2 (as := [.int p0]) (r := []) hG hM rfl h0 (zz_lb rfl)))
theorem zCm_8 {l : Launch} {D : va_G} {cy : Nat → ClassId} {z0 : Nat} {sp : Nat → Nat} {G : State → Prop} (H : zHy l D cy z0 sp G) {n : Nat} (hn : n ≤ 511) {w : zz_W} (h : zIv zQI n 0 w) (p0 : Int32) (p1 : Int32) : ∃ rv w', zRl l D cy z0 sp G 469 8 [("java/lang/IllegalArgumentException", 14), ("java/util/NoSuchElementException", 16)] [.ref 0, .int p0, .int p1] w rv w' ∧ zIv zQM n 0 w' := by
  obtain ⟨hG, hP, hW, hsp0, hWk, hTX, hl, hE⟩ := H
  have hw : w.1 < 16 * 64 := by have := h.2.2.1; omega
  have h0 := zI_ic0 (zIv_I h)
  exact zCl_gen hn h [p0, p1] (Nat.le_of_ble_eq_true rfl) zXk_c8 zXm_c8 rfl rfl (Rl := zRl l D cy z0 sp G 469 8 [("java/lang/IllegalArgumentException", 14), ("java/util/NoSuchElementException", 16)] [.ref 0, .int p0, .int p1] w) (List.forall_mem_cons.mpr ⟨zPP_px (zPX_8_x0 hG hP hW hsp0 hWk hTX) rfl (by decide) (by decide +kernel) rfl rfl hw, List.forall_mem_cons.mpr ⟨zPP_px (zPX_8_x1 hG hP hW hsp0 hWk hTX) rfl (by decide) (by decide +kernel) rfl rfl hw, List.forall_mem_cons.mpr ⟨zPP_th (zPX_65_x0 hG hP hW hsp0 hWk hTX) rfl (by decide) (by decide +kernel) hw (zMx_8_65 hG hP h0), List.forall_mem_cons.mpr ⟨zPP_th (zPX_65_x1 hG hP hW hsp0 hWk hTX) rfl (by decide) (by decide +kernel) hw (zMx_8_65 hG hP h0), List.forall_mem_cons.mpr ⟨zPP_th (zPX_65_x2 hG hP hW hsp0 hWk hTX) rfl (by decide) (by decide +kernel) hw (zMx_8_65 hG hP h0), (fun _ h => absurd h List.not_mem_nil)⟩⟩⟩⟩⟩)
theorem zHk_8 {l : Launch} {D : va_G} {cy : Nat → ClassId} {z0 : Nat} {sp : Nat → Nat} {G : State → Prop} (H : zHy l D cy z0 sp G) {n : Nat} (hn : n ≤ 511) {w : zz_W} (h : zIv zQI n 0 w) (p0 : Int32) (p1 : Int32) : ∃ r w', zz_MH l zTs D zcl zFK cy z0 sp (zTys cy) G zy_806 method_9_code 5 (some .int) [(0, 10, 13, 37), (0, 10, 17, 13)] 470 [.ref 0, .int p0, .int p1, .ref 328] w [.int r] w' ∧ zIv zQM n 1 w' := by
  have h0 := zI_ic0 (zIv_I h)
  obtain ⟨rv, w', hR, hI⟩ := zCm_8 H hn h p0 p1
  obtain ⟨hG, hP, -, -, -, -, -, hE⟩ := H
  rcases hR with ⟨a, rfl, hM⟩ | ⟨rfl, x, hx, hM⟩
  · obtain ⟨N, hN⟩ := zI_328 (zIv_I hI)
    exact ⟨_, _, zHr_806 hG hP (zIv_I hI).1 hN h0 hM, zIv_1 (zIv_up zQM_w9 hI (by omega))⟩
  · rcases List.mem_cons.mp hx with e | hx
    · subst e
      exact ⟨_, _, zHx_806_1 hG hP hE h0 hM, zIv_pu zQM_ok hI (by omega)⟩
    · skip
      rcases List.mem_cons.mp hx with e | hx
      · subst e
        exact ⟨_, _, zHx_806_0 hG hP hE h0 hM, zIv_pu zQM_ok hI (by omega)⟩
      · skip
        exact absurd hx List.not_mem_nil
theorem zMx_9_65 {l : Launch} {D : va_G} {cy : Nat → ClassId} {z0 : Nat} {sp : Nat → Nat} {G : State → Prop} (hG : zz_GF z0 G) (hP : ∀ U, G U → zz_GD zS zS2 zLg z0 sp U) {w : zz_W} (h0 : zz_ic w 0 1 = true) {p0 : Int32} {p1 : Int32} {p2 : Int32} (E : String) (w' : zz_W) (hM : zz_MX l zTs D zcl zFK cy z0 sp (zTys cy) G zYN zCN zMQ zRT 468 65 ([.ref 0, .int p0, .int p1, .int p2].take 2) w E w') : zz_MX l zTs D zcl zFK cy z0 sp (zTys cy) G zYN zCN zMQ zRT 469 9 [.ref 0, .int p0, .int p1, .int p2] w E w' := by
  have T : zz_TO l zTs D zcl zFK cy z0 sp (zTys cy) G "ToolMill" "section" 6 prog_1_method_10_code 468 zz_k0 zP_9 := zP_s zz_k0_KS hG hP 9 (by decide) (Or.inl (by decide))
  have b := zz_B_rf (l := l) (Ts := zTs) (D := D) (cl := zcl) (fk := zFK) (cy := cy) (z0 := z0) (sp := sp) (tys := zTys cy) (G := G) (own := "ToolMill") (mn := "section") (nL := 6) (cc := prog_1_method_10_code) (d := 468) ((0, lv_args 0 [.ref 0, .int p0, .int p1, .int p2], [], w) : zz_F)
  replace b := zz_fw b T (rfl : zz_ent zP_9 0 = (0, za_aload 0 1)) (ze_aload rfl)
  replace b := zz_fw b T (rfl : zz_ent zP_9 1 = (0, za_iload 1 2)) (ze_iload rfl)
  exact zz_MX_B rfl rfl rfl rfl (by decide +kernel) (zz_lb rfl) (zz_TX_B b (zxc_9_2 (as := [.int p0]) (r := []) hG hM rfl h0 (zz_lb rfl)))
theorem zCm_9 {l : Launch} {D : va_G} {cy : Nat → ClassId} {z0 : Nat} {sp : Nat → Nat} {G : State → Prop} (H : zHy l D cy z0 sp G) {n : Nat} (hn : n ≤ 511) {w : zz_W} (h : zIv zQI n 0 w) (p0 : Int32) (p1 : Int32) (p2 : Int32) : ∃ rv w', zRl l D cy z0 sp G 469 9 [("java/util/NoSuchElementException", 16), ("java/lang/IllegalArgumentException", 14)] [.ref 0, .int p0, .int p1, .int p2] w rv w' ∧ zIv zQM n 0 w' := by
  obtain ⟨hG, hP, hW, hsp0, hWk, hTX, hl, hE⟩ := H
  have hw : w.1 < 16 * 64 := by have := h.2.2.1; omega
  have h0 := zI_ic0 (zIv_I h)
  exact zCl_gen hn h [p0, p1, p2] (Nat.le_of_ble_eq_true rfl) zXk_c9 zXm_c9 rfl rfl (Rl := zRl l D cy z0 sp G 469 9 [("java/util/NoSuchElementException", 16), ("java/lang/IllegalArgumentException", 14)] [.ref 0, .int p0, .int p1, .int p2] w) (List.forall_mem_cons.mpr ⟨zPP_px (zPX_9_x0 hG hP hW hsp0 hWk hTX) rfl (by decide) (by decide +kernel) rfl rfl hw, List.forall_mem_cons.mpr ⟨zPP_px (zPX_9_x1 hG hP hW hsp0 hWk hTX) rfl (by decide) (by decide +kernel) rfl rfl hw, List.forall_mem_cons.mpr ⟨zPP_th (zPX_65_x0 hG hP hW hsp0 hWk hTX) rfl (by decide) (by decide +kernel) hw (zMx_9_65 hG hP h0), List.forall_mem_cons.mpr ⟨zPP_th (zPX_65_x1 hG hP hW hsp0 hWk hTX) rfl (by decide) (by decide +kernel) hw (zMx_9_65 hG hP h0), List.forall_mem_cons.mpr ⟨zPP_th (zPX_65_x2 hG hP hW hsp0 hWk hTX) rfl (by decide) (by decide +kernel) hw (zMx_9_65 hG hP h0), (fun _ h => absurd h List.not_mem_nil)⟩⟩⟩⟩⟩)
theorem zHk_9 {l : Launch} {D : va_G} {cy : Nat → ClassId} {z0 : Nat} {sp : Nat → Nat} {G : State → Prop} (H : zHy l D cy z0 sp G) {n : Nat} (hn : n ≤ 511) {w : zz_W} (h : zIv zQI n 0 w) (p0 : Int32) (p1 : Int32) (p2 : Int32) : ∃ r w', zz_MH l zTs D zcl zFK cy z0 sp (zTys cy) G zy_807 method_10_code 6 (some .int) [(0, 12, 15, 37), (0, 12, 19, 13)] 470 [.ref 0, .int p0, .int p1, .int p2, .ref 328] w [.int r] w' ∧ zIv zQM n 1 w' := by
  have h0 := zI_ic0 (zIv_I h)
  obtain ⟨rv, w', hR, hI⟩ := zCm_9 H hn h p0 p1 p2
  obtain ⟨hG, hP, -, -, -, -, -, hE⟩ := H
  rcases hR with ⟨a, rfl, hM⟩ | ⟨rfl, x, hx, hM⟩
  · obtain ⟨N, hN⟩ := zI_328 (zIv_I hI)
    exact ⟨_, _, zHr_807 hG hP (zIv_I hI).1 hN h0 hM, zIv_1 (zIv_up zQM_w9 hI (by omega))⟩
  · rcases List.mem_cons.mp hx with e | hx
    · subst e
      exact ⟨_, _, zHx_807_0 hG hP hE h0 hM, zIv_pu zQM_ok hI (by omega)⟩
    · skip
      rcases List.mem_cons.mp hx with e | hx
      · subst e
        exact ⟨_, _, zHx_807_1 hG hP hE h0 hM, zIv_pu zQM_ok hI (by omega)⟩
      · skip
        exact absurd hx List.not_mem_nil
theorem zMx_10_65 {l : Launch} {D : va_G} {cy : Nat → ClassId} {z0 : Nat} {sp : Nat → Nat} {G : State → Prop} (hG : zz_GF z0 G) (hP : ∀ U, G U → zz_GD zS zS2 zLg z0 sp U) {w : zz_W} (h0 : zz_ic w 0 1 = true) {p0 : Int32} {p1 : Int32} {p2 : Int32} (E : String) (w' : zz_W) (hM : zz_MX l zTs D zcl zFK cy z0 sp (zTys cy) G zYN zCN zMQ zRT 468 65 ([.ref 0, .int p0, .int p1, .int p2].take 2) w E w') : zz_MX l zTs D zcl zFK cy z0 sp (zTys cy) G zYN zCN zMQ zRT 469 10 [.ref 0, .int p0, .int p1, .int p2] w E w' := by
  have T : zz_TO l zTs D zcl zFK cy z0 sp (zTys cy) G "ToolMill" "byteOf" 7 prog_1_method_11_code 468 zz_k0 zP_10 := zP_s zz_k0_KS hG hP 10 (by decide) (Or.inl (by decide))
  have b := zz_B_rf (l := l) (Ts := zTs) (D := D) (cl := zcl) (fk := zFK) (cy := cy) (z0 := z0) (sp := sp) (tys := zTys cy) (G := G) (own := "ToolMill") (mn := "byteOf") (nL := 7) (cc := prog_1_method_11_code) (d := 468) ((0, lv_args 0 [.ref 0, .int p0, .int p1, .int p2], [], w) : zz_F)
  replace b := zz_fw b T (rfl : zz_ent zP_10 0 = (0, za_aload 0 1)) (ze_aload rfl)
  replace b := zz_fw b T (rfl : zz_ent zP_10 1 = (0, za_iload 1 2)) (ze_iload rfl)
  exact zz_MX_B rfl rfl rfl rfl (by decide +kernel) (zz_lb rfl) (zz_TX_B b (zxc_10_2 (as := [.int p0]) (r := []) hG hM rfl h0 (zz_lb rfl)))
theorem zCm_10 {l : Launch} {D : va_G} {cy : Nat → ClassId} {z0 : Nat} {sp : Nat → Nat} {G : State → Prop} (H : zHy l D cy z0 sp G) {n : Nat} (hn : n ≤ 511) {w : zz_W} (h : zIv zQI n 0 w) (p0 : Int32) (p1 : Int32) (p2 : Int32) : ∃ rv w', zRl l D cy z0 sp G 469 10 [("java/util/NoSuchElementException", 16)] [.ref 0, .int p0, .int p1, .int p2] w rv w' ∧ zIv zQM n 0 w' := by
  obtain ⟨hG, hP, hW, hsp0, hWk, hTX, hl, hE⟩ := H
  have hw : w.1 < 16 * 64 := by have := h.2.2.1; omega
  have h0 := zI_ic0 (zIv_I h)
  exact zCl_gen hn h [p0, p1, p2] (Nat.le_of_ble_eq_true rfl) zXk_c10 zXm_c10 rfl rfl (Rl := zRl l D cy z0 sp G 469 10 [("java/util/NoSuchElementException", 16)] [.ref 0, .int p0, .int p1, .int p2] w) (List.forall_mem_cons.mpr ⟨zPP_px (zPX_10_x0 hG hP hW hsp0 hWk hTX) rfl (by decide) (by decide +kernel) rfl rfl hw, List.forall_mem_cons.mpr ⟨zPP_px (zPX_10_x1 hG hP hW hsp0 hWk hTX) rfl (by decide) (by decide +kernel) rfl rfl hw, List.forall_mem_cons.mpr ⟨zPP_px (zPX_10_x2 hG hP hW hsp0 hWk hTX) rfl (by decide) (by decide +kernel) rfl rfl hw, List.forall_mem_cons.mpr ⟨zPP_px (zPX_10_x3 hG hP hW hsp0 hWk hTX) rfl (by decide) (by decide +kernel) rfl rfl hw, List.forall_mem_cons.mpr ⟨zPP_px (zPX_10_x4 hG hP hW hsp0 hWk hTX) rfl (by decide) (by decide +kernel) rfl rfl hw, List.forall_mem_cons.mpr ⟨zPP_px (zPX_10_x5 hG hP hW hsp0 hWk hTX) rfl (by decide) (by decide +kernel) rfl rfl hw, List.forall_mem_cons.mpr ⟨zPP_px (zPX_10_x6 hG hP hW hsp0 hWk hTX) rfl (by decide) (by decide +kernel) rfl rfl hw, List.forall_mem_cons.mpr ⟨zPP_th (zPX_65_x0 hG hP hW hsp0 hWk hTX) rfl (by decide) (by decide +kernel) hw (zMx_10_65 hG hP h0), List.forall_mem_cons.mpr ⟨zPP_th (zPX_65_x1 hG hP hW hsp0 hWk hTX) rfl (by decide) (by decide +kernel) hw (zMx_10_65 hG hP h0), List.forall_mem_cons.mpr ⟨zPP_th (zPX_65_x2 hG hP hW hsp0 hWk hTX) rfl (by decide) (by decide +kernel) hw (zMx_10_65 hG hP h0), (fun _ h => absurd h List.not_mem_nil)⟩⟩⟩⟩⟩⟩⟩⟩⟩⟩)
theorem zHk_10 {l : Launch} {D : va_G} {cy : Nat → ClassId} {z0 : Nat} {sp : Nat → Nat} {G : State → Prop} (H : zHy l D cy z0 sp G) {n : Nat} (hn : n ≤ 511) {w : zz_W} (h : zIv zQI n 0 w) (p0 : Int32) (p1 : Int32) (p2 : Int32) : ∃ r w', zz_MH l zTs D zcl zFK cy z0 sp (zTys cy) G zy_808 method_11_code 6 (some .int) [(0, 12, 15, 37)] 470 [.ref 0, .int p0, .int p1, .int p2, .ref 328] w [.int r] w' ∧ zIv zQM n 1 w' := by
  have h0 := zI_ic0 (zIv_I h)
  obtain ⟨rv, w', hR, hI⟩ := zCm_10 H hn h p0 p1 p2
  obtain ⟨hG, hP, -, -, -, -, -, hE⟩ := H
  rcases hR with ⟨a, rfl, hM⟩ | ⟨rfl, x, hx, hM⟩
  · obtain ⟨N, hN⟩ := zI_328 (zIv_I hI)
    exact ⟨_, _, zHr_808 hG hP (zIv_I hI).1 hN h0 hM, zIv_1 (zIv_up zQM_w9 hI (by omega))⟩
  · rcases List.mem_cons.mp hx with e | hx
    · subst e
      exact ⟨_, _, zHx_808_0 hG hP hE h0 hM, zIv_pu zQM_ok hI (by omega)⟩
    · skip
      exact absurd hx List.not_mem_nil
theorem zMx_11_65 {l : Launch} {D : va_G} {cy : Nat → ClassId} {z0 : Nat} {sp : Nat → Nat} {G : State → Prop} (hG : zz_GF z0 G) (hP : ∀ U, G U → zz_GD zS zS2 zLg z0 sp U) {w : zz_W} (h0 : zz_ic w 0 1 = true) {p0 : Int32} {p1 : Int32} {p2 : Int32} (E : String) (w' : zz_W) (hM : zz_MX l zTs D zcl zFK cy z0 sp (zTys cy) G zYN zCN zMQ zRT 468 65 ([.ref 0, .int p0, .int p1, .int p2].take 2) w E w') : zz_MX l zTs D zcl zFK cy z0 sp (zTys cy) G zYN zCN zMQ zRT 469 11 [.ref 0, .int p0, .int p1, .int p2] w E w' := by
  have T : zz_TO l zTs D zcl zFK cy z0 sp (zTys cy) G "ToolMill" "label" 6 prog_1_method_12_code 468 zz_k0 zP_11 := zP_s zz_k0_KS hG hP 11 (by decide) (Or.inl (by decide))
  have b := zz_B_rf (l := l) (Ts := zTs) (D := D) (cl := zcl) (fk := zFK) (cy := cy) (z0 := z0) (sp := sp) (tys := zTys cy) (G := G) (own := "ToolMill") (mn := "label") (nL := 6) (cc := prog_1_method_12_code) (d := 468) ((0, lv_args 0 [.ref 0, .int p0, .int p1, .int p2], [], w) : zz_F)
  replace b := zz_fw b T (rfl : zz_ent zP_11 0 = (0, za_aload 0 1)) (ze_aload rfl)
  replace b := zz_fw b T (rfl : zz_ent zP_11 1 = (0, za_iload 1 2)) (ze_iload rfl)
  exact zz_MX_B rfl rfl rfl rfl (by decide +kernel) (zz_lb rfl) (zz_TX_B b (zxc_11_2 (as := [.int p0]) (r := []) hG hM rfl h0 (zz_lb rfl)))
theorem zCm_11 {l : Launch} {D : va_G} {cy : Nat → ClassId} {z0 : Nat} {sp : Nat → Nat} {G : State → Prop} (H : zHy l D cy z0 sp G) {n : Nat} (hn : n ≤ 511) {w : zz_W} (h : zIv zQI n 0 w) (p0 : Int32) (p1 : Int32) (p2 : Int32) : ∃ rv w', zRl l D cy z0 sp G 469 11 [("java/util/NoSuchElementException", 16), ("java/lang/IllegalArgumentException", 14)] [.ref 0, .int p0, .int p1, .int p2] w rv w' ∧ zIv zQM n 0 w' := by
  obtain ⟨hG, hP, hW, hsp0, hWk, hTX, hl, hE⟩ := H
  have hw : w.1 < 16 * 64 := by have := h.2.2.1; omega
  have h0 := zI_ic0 (zIv_I h)
  exact zCl_gen hn h [p0, p1, p2] (Nat.le_of_ble_eq_true rfl) zXk_c11 zXm_c11 rfl rfl (Rl := zRl l D cy z0 sp G 469 11 [("java/util/NoSuchElementException", 16), ("java/lang/IllegalArgumentException", 14)] [.ref 0, .int p0, .int p1, .int p2] w) (List.forall_mem_cons.mpr ⟨zPP_px (zPX_11_x0 hG hP hW hsp0 hWk hTX) rfl (by decide) (by decide +kernel) rfl rfl hw, List.forall_mem_cons.mpr ⟨zPP_px (zPX_11_x1 hG hP hW hsp0 hWk hTX) rfl (by decide) (by decide +kernel) rfl rfl hw, List.forall_mem_cons.mpr ⟨zPP_th (zPX_65_x0 hG hP hW hsp0 hWk hTX) rfl (by decide) (by decide +kernel) hw (zMx_11_65 hG hP h0), List.forall_mem_cons.mpr ⟨zPP_th (zPX_65_x1 hG hP hW hsp0 hWk hTX) rfl (by decide) (by decide +kernel) hw (zMx_11_65 hG hP h0), List.forall_mem_cons.mpr ⟨zPP_th (zPX_65_x2 hG hP hW hsp0 hWk hTX) rfl (by decide) (by decide +kernel) hw (zMx_11_65 hG hP h0), (fun _ h => absurd h List.not_mem_nil)⟩⟩⟩⟩⟩)
theorem zHk_11 {l : Launch} {D : va_G} {cy : Nat → ClassId} {z0 : Nat} {sp : Nat → Nat} {G : State → Prop} (H : zHy l D cy z0 sp G) {n : Nat} (hn : n ≤ 511) {w : zz_W} (h : zIv zQI n 0 w) (p0 : Int32) (p1 : Int32) (p2 : Int32) : ∃ r w', zz_MH l zTs D zcl zFK cy z0 sp (zTys cy) G zy_809 method_12_code 6 (some .int) [(0, 12, 15, 37), (0, 12, 19, 13)] 470 [.ref 0, .int p0, .int p1, .int p2, .ref 328] w [.int r] w' ∧ zIv zQM n 1 w' := by
  have h0 := zI_ic0 (zIv_I h)
  obtain ⟨rv, w', hR, hI⟩ := zCm_11 H hn h p0 p1 p2
  obtain ⟨hG, hP, -, -, -, -, -, hE⟩ := H
  rcases hR with ⟨a, rfl, hM⟩ | ⟨rfl, x, hx, hM⟩
  · obtain ⟨N, hN⟩ := zI_328 (zIv_I hI)
    exact ⟨_, _, zHr_809 hG hP (zIv_I hI).1 hN h0 hM, zIv_1 (zIv_up zQM_w9 hI (by omega))⟩
  · rcases List.mem_cons.mp hx with e | hx
    · subst e
      exact ⟨_, _, zHx_809_0 hG hP hE h0 hM, zIv_pu zQM_ok hI (by omega)⟩
    · skip
      rcases List.mem_cons.mp hx with e | hx
      · subst e
        exact ⟨_, _, zHx_809_1 hG hP hE h0 hM, zIv_pu zQM_ok hI (by omega)⟩
      · skip
        exact absurd hx List.not_mem_nil
theorem zMx_12_65 {l : Launch} {D : va_G} {cy : Nat → ClassId} {z0 : Nat} {sp : Nat → Nat} {G : State → Prop} (hG : zz_GF z0 G) (hP : ∀ U, G U → zz_GD zS zS2 zLg z0 sp U) {w : zz_W} (h0 : zz_ic w 0 1 = true) {p0 : Int32} {p1 : Int32} {p2 : Int32} (E : String) (w' : zz_W) (hM : zz_MX l zTs D zcl zFK cy z0 sp (zTys cy) G zYN zCN zMQ zRT 468 65 ([.ref 0, .int p0, .int p1, .int p2].take 2) w E w') : zz_MX l zTs D zcl zFK cy z0 sp (zTys cy) G zYN zCN zMQ zRT 469 12 [.ref 0, .int p0, .int p1, .int p2] w E w' := by
  have T : zz_TO l zTs D zcl zFK cy z0 sp (zTys cy) G "ToolMill" "relocation" 6 prog_1_method_13_code 468 zz_k0 zP_12 := zP_s zz_k0_KS hG hP 12 (by decide) (Or.inl (by decide))
  have b := zz_B_rf (l := l) (Ts := zTs) (D := D) (cl := zcl) (fk := zFK) (cy := cy) (z0 := z0) (sp := sp) (tys := zTys cy) (G := G) (own := "ToolMill") (mn := "relocation") (nL := 6) (cc := prog_1_method_13_code) (d := 468) ((0, lv_args 0 [.ref 0, .int p0, .int p1, .int p2], [], w) : zz_F)
  replace b := zz_fw b T (rfl : zz_ent zP_12 0 = (0, za_aload 0 1)) (ze_aload rfl)
  replace b := zz_fw b T (rfl : zz_ent zP_12 1 = (0, za_iload 1 2)) (ze_iload rfl)
  exact zz_MX_B rfl rfl rfl rfl (by decide +kernel) (zz_lb rfl) (zz_TX_B b (zxc_12_2 (as := [.int p0]) (r := []) hG hM rfl h0 (zz_lb rfl)))
theorem zCm_12 {l : Launch} {D : va_G} {cy : Nat → ClassId} {z0 : Nat} {sp : Nat → Nat} {G : State → Prop} (H : zHy l D cy z0 sp G) {n : Nat} (hn : n ≤ 511) {w : zz_W} (h : zIv zQI n 0 w) (p0 : Int32) (p1 : Int32) (p2 : Int32) : ∃ rv w', zRl l D cy z0 sp G 469 12 [("java/util/NoSuchElementException", 16), ("java/lang/IllegalArgumentException", 14)] [.ref 0, .int p0, .int p1, .int p2] w rv w' ∧ zIv zQM n 0 w' := by
  obtain ⟨hG, hP, hW, hsp0, hWk, hTX, hl, hE⟩ := H
  have hw : w.1 < 16 * 64 := by have := h.2.2.1; omega
  have h0 := zI_ic0 (zIv_I h)
  exact zCl_gen hn h [p0, p1, p2] (Nat.le_of_ble_eq_true rfl) zXk_c12 zXm_c12 rfl rfl (Rl := zRl l D cy z0 sp G 469 12 [("java/util/NoSuchElementException", 16), ("java/lang/IllegalArgumentException", 14)] [.ref 0, .int p0, .int p1, .int p2] w) (List.forall_mem_cons.mpr ⟨zPP_px (zPX_12_x0 hG hP hW hsp0 hWk hTX) rfl (by decide) (by decide +kernel) rfl rfl hw, List.forall_mem_cons.mpr ⟨zPP_px (zPX_12_x1 hG hP hW hsp0 hWk hTX) rfl (by decide) (by decide +kernel) rfl rfl hw, List.forall_mem_cons.mpr ⟨zPP_th (zPX_65_x0 hG hP hW hsp0 hWk hTX) rfl (by decide) (by decide +kernel) hw (zMx_12_65 hG hP h0), List.forall_mem_cons.mpr ⟨zPP_th (zPX_65_x1 hG hP hW hsp0 hWk hTX) rfl (by decide) (by decide +kernel) hw (zMx_12_65 hG hP h0), List.forall_mem_cons.mpr ⟨zPP_th (zPX_65_x2 hG hP hW hsp0 hWk hTX) rfl (by decide) (by decide +kernel) hw (zMx_12_65 hG hP h0), (fun _ h => absurd h List.not_mem_nil)⟩⟩⟩⟩⟩)
theorem zHk_12 {l : Launch} {D : va_G} {cy : Nat → ClassId} {z0 : Nat} {sp : Nat → Nat} {G : State → Prop} (H : zHy l D cy z0 sp G) {n : Nat} (hn : n ≤ 511) {w : zz_W} (h : zIv zQI n 0 w) (p0 : Int32) (p1 : Int32) (p2 : Int32) : ∃ r w', zz_MH l zTs D zcl zFK cy z0 sp (zTys cy) G zy_810 method_13_code 6 (some .int) [(0, 12, 15, 37), (0, 12, 19, 13)] 470 [.ref 0, .int p0, .int p1, .int p2, .ref 328] w [.int r] w' ∧ zIv zQM n 1 w' := by
  have h0 := zI_ic0 (zIv_I h)
  obtain ⟨rv, w', hR, hI⟩ := zCm_12 H hn h p0 p1 p2
  obtain ⟨hG, hP, -, -, -, -, -, hE⟩ := H
  rcases hR with ⟨a, rfl, hM⟩ | ⟨rfl, x, hx, hM⟩
  · obtain ⟨N, hN⟩ := zI_328 (zIv_I hI)
    exact ⟨_, _, zHr_810 hG hP (zIv_I hI).1 hN h0 hM, zIv_1 (zIv_up zQM_w9 hI (by omega))⟩
  · rcases List.mem_cons.mp hx with e | hx
    · subst e
      exact ⟨_, _, zHx_810_0 hG hP hE h0 hM, zIv_pu zQM_ok hI (by omega)⟩
    · skip
      rcases List.mem_cons.mp hx with e | hx
      · subst e
        exact ⟨_, _, zHx_810_1 hG hP hE h0 hM, zIv_pu zQM_ok hI (by omega)⟩
      · skip
        exact absurd hx List.not_mem_nil
theorem zCm_13 {l : Launch} {D : va_G} {cy : Nat → ClassId} {z0 : Nat} {sp : Nat → Nat} {G : State → Prop} (H : zHy l D cy z0 sp G) {n : Nat} (hn : n ≤ 511) {w : zz_W} (h : zIv zQI n 0 w) (p0 : Int32) : ∃ rv w', zRl l D cy z0 sp G 469 13 [("java/lang/UnsupportedOperationException", 18)] [.ref 0, .int p0] w rv w' ∧ zIv zQM n 0 w' := by
  obtain ⟨hG, hP, hW, hsp0, hWk, hTX, hl, hE⟩ := H
  have hw : w.1 < 16 * 64 := by have := h.2.2.1; omega
  have h0 := zI_ic0 (zIv_I h)
  exact zCl_gen hn h [p0] (Nat.le_of_ble_eq_true rfl) zXk_c13 zXm_c13 rfl rfl (Rl := zRl l D cy z0 sp G 469 13 [("java/lang/UnsupportedOperationException", 18)] [.ref 0, .int p0] w) (List.forall_mem_cons.mpr ⟨zPP_px (zk_liftP zHX_ok (by decide +kernel) (zPX_13_x0 hG hP hW hTX)) rfl (by decide) (by decide +kernel) rfl rfl hw, (fun _ h => absurd h List.not_mem_nil)⟩)
theorem zHk_13 {l : Launch} {D : va_G} {cy : Nat → ClassId} {z0 : Nat} {sp : Nat → Nat} {G : State → Prop} (H : zHy l D cy z0 sp G) {n : Nat} (hn : n ≤ 511) {w : zz_W} (h : zIv zQI n 0 w) (p0 : Int32) : ∃ r w', zz_MH l zTs D zcl zFK cy z0 sp (zTys cy) G zy_811 method_14_code 4 (some .int) [(0, 9, 12, 15)] 470 [.ref 0, .int p0, .ref 328] w [.int r] w' ∧ zIv zQM n 1 w' := by
  have h0 := zI_ic0 (zIv_I h)
  obtain ⟨rv, w', hR, hI⟩ := zCm_13 H hn h p0
  obtain ⟨hG, hP, -, -, -, -, -, hE⟩ := H
  rcases hR with ⟨a, rfl, hM⟩ | ⟨rfl, x, hx, hM⟩
  · obtain ⟨N, hN⟩ := zI_328 (zIv_I hI)
    exact ⟨_, _, zHr_811 hG hP (zIv_I hI).1 hN h0 hM, zIv_1 (zIv_up zQM_w9 hI (by omega))⟩
  · rcases List.mem_cons.mp hx with e | hx
    · subst e
      exact ⟨_, _, zHx_811_0 hG hP hE h0 hM, zIv_pu zQM_ok hI (by omega)⟩
    · skip
      exact absurd hx List.not_mem_nil
theorem zCm_14 {l : Launch} {D : va_G} {cy : Nat → ClassId} {z0 : Nat} {sp : Nat → Nat} {G : State → Prop} (H : zHy l D cy z0 sp G) {n : Nat} (hn : n ≤ 511) {w : zz_W} (h : zIv zQI n 0 w) (p0 : Int32) (p1 : Int32) : ∃ rv w', zRl l D cy z0 sp G 469 14 [("java/lang/IllegalStateException", 15), ("java/lang/IllegalArgumentException", 14)] [.ref 0, .int p0, .int p1] w rv w' ∧ zIv zQM n 0 w' := by
  obtain ⟨hG, hP, hW, hsp0, hWk, hTX, hl, hE⟩ := H
  have hw : w.1 < 16 * 64 := by have := h.2.2.1; omega
  have h0 := zI_ic0 (zIv_I h)
  exact zCl_gen hn h [p0, p1] (Nat.le_of_ble_eq_true rfl) zXk_c14 zXm_c14 rfl rfl (Rl := zRl l D cy z0 sp G 469 14 [("java/lang/IllegalStateException", 15), ("java/lang/IllegalArgumentException", 14)] [.ref 0, .int p0, .int p1] w) (List.forall_mem_cons.mpr ⟨zPP_px (zPX_14_x0 hG hP hW hsp0 hWk hTX) rfl (by decide) (by decide +kernel) rfl rfl hw, (fun _ h => absurd h List.not_mem_nil)⟩)
theorem zHk_14 {l : Launch} {D : va_G} {cy : Nat → ClassId} {z0 : Nat} {sp : Nat → Nat} {G : State → Prop} (H : zHy l D cy z0 sp G) {n : Nat} (hn : n ≤ 511) {w : zz_W} (h : zIv zQI n 0 w) (p0 : Int32) (p1 : Int32) : ∃ r w', zz_MH l zTs D zcl zFK cy z0 sp (zTys cy) G zy_812 method_15_code 5 (some .int) [(0, 10, 13, 25), (0, 10, 17, 13)] 470 [.ref 0, .int p0, .int p1, .ref 328] w [.int r] w' ∧ zIv zQM n 1 w' := by
  have h0 := zI_ic0 (zIv_I h)
  obtain ⟨rv, w', hR, hI⟩ := zCm_14 H hn h p0 p1
  obtain ⟨hG, hP, -, -, -, -, -, hE⟩ := H
  rcases hR with ⟨a, rfl, hM⟩ | ⟨rfl, x, hx, hM⟩
  · obtain ⟨N, hN⟩ := zI_328 (zIv_I hI)
    exact ⟨_, _, zHr_812 hG hP (zIv_I hI).1 hN h0 hM, zIv_1 (zIv_up zQM_w9 hI (by omega))⟩
  · rcases List.mem_cons.mp hx with e | hx
    · subst e
      exact ⟨_, _, zHx_812_0 hG hP hE h0 hM, zIv_pu zQM_ok hI (by omega)⟩
    · skip
      rcases List.mem_cons.mp hx with e | hx
      · subst e
        exact ⟨_, _, zHx_812_1 hG hP hE h0 hM, zIv_pu zQM_ok hI (by omega)⟩
      · skip
        exact absurd hx List.not_mem_nil
theorem zCm_15 {l : Launch} {D : va_G} {cy : Nat → ClassId} {z0 : Nat} {sp : Nat → Nat} {G : State → Prop} (H : zHy l D cy z0 sp G) {n : Nat} (hn : n ≤ 511) {w : zz_W} (h : zIv zQI n 0 w) (p0 : Int32) : ∃ rv w', zRl l D cy z0 sp G 469 15 [("java/lang/IllegalStateException", 15), ("java/lang/IllegalArgumentException", 14)] [.ref 0, .int p0] w rv w' ∧ zIv zQM n 0 w' := by
  obtain ⟨hG, hP, hW, hsp0, hWk, hTX, hl, hE⟩ := H
  have hw : w.1 < 16 * 64 := by have := h.2.2.1; omega
  have h0 := zI_ic0 (zIv_I h)
  exact zCl_gen hn h [p0] (Nat.le_of_ble_eq_true rfl) zXk_c15 zXm_c15 rfl rfl (Rl := zRl l D cy z0 sp G 469 15 [("java/lang/IllegalStateException", 15), ("java/lang/IllegalArgumentException", 14)] [.ref 0, .int p0] w) (List.forall_mem_cons.mpr ⟨zPP_px (zk_liftP zHX_ok (by decide +kernel) (zPX_15_x0 hG hP hW hTX)) rfl (by decide) (by decide +kernel) rfl rfl hw, (fun _ h => absurd h List.not_mem_nil)⟩)
theorem zHk_15 {l : Launch} {D : va_G} {cy : Nat → ClassId} {z0 : Nat} {sp : Nat → Nat} {G : State → Prop} (H : zHy l D cy z0 sp G) {n : Nat} (hn : n ≤ 511) {w : zz_W} (h : zIv zQI n 0 w) (p0 : Int32) : ∃ r w', zz_MH l zTs D zcl zFK cy z0 sp (zTys cy) G zy_813 method_16_code 4 (some .int) [(0, 9, 12, 25), (0, 9, 15, 13)] 470 [.ref 0, .int p0, .ref 328] w [.int r] w' ∧ zIv zQM n 1 w' := by
  have h0 := zI_ic0 (zIv_I h)
  obtain ⟨rv, w', hR, hI⟩ := zCm_15 H hn h p0
  obtain ⟨hG, hP, -, -, -, -, -, hE⟩ := H
  rcases hR with ⟨a, rfl, hM⟩ | ⟨rfl, x, hx, hM⟩
  · obtain ⟨N, hN⟩ := zI_328 (zIv_I hI)
    exact ⟨_, _, zHr_813 hG hP (zIv_I hI).1 hN h0 hM, zIv_1 (zIv_up zQM_w9 hI (by omega))⟩
  · rcases List.mem_cons.mp hx with e | hx
    · subst e
      exact ⟨_, _, zHx_813_0 hG hP hE h0 hM, zIv_pu zQM_ok hI (by omega)⟩
    · skip
      rcases List.mem_cons.mp hx with e | hx
      · subst e
        exact ⟨_, _, zHx_813_1 hG hP hE h0 hM, zIv_pu zQM_ok hI (by omega)⟩
      · skip
        exact absurd hx List.not_mem_nil
theorem zMx_16_69 {l : Launch} {D : va_G} {cy : Nat → ClassId} {z0 : Nat} {sp : Nat → Nat} {G : State → Prop} (hG : zz_GF z0 G) (hP : ∀ U, G U → zz_GD zS zS2 zLg z0 sp U) {w : zz_W} (h0 : zz_ic w 0 1 = true) {p0 : Int32} (E : String) (w' : zz_W) (hM : zz_MX l zTs D zcl zFK cy z0 sp (zTys cy) G zYN zCN zMQ zRT 468 69 ([.ref 0, .int p0].take 1) w E w') : zz_MX l zTs D zcl zFK cy z0 sp (zTys cy) G zYN zCN zMQ zRT 469 16 [.ref 0, .int p0] w E w' := by
  have T : zz_TO l zTs D zcl zFK cy z0 sp (zTys cy) G "ToolMill" "state" 2 prog_1_method_17_code 468 zz_k0 zP_16 := zP_s zz_k0_KS hG hP 16 (by decide) (Or.inl (by decide))
  have b := zz_B_rf (l := l) (Ts := zTs) (D := D) (cl := zcl) (fk := zFK) (cy := cy) (z0 := z0) (sp := sp) (tys := zTys cy) (G := G) (own := "ToolMill") (mn := "state") (nL := 2) (cc := prog_1_method_17_code) (d := 468) ((0, lv_args 0 [.ref 0, .int p0], [], w) : zz_F)
  replace b := zz_fw b T (rfl : zz_ent zP_16 0 = (0, za_aload 0 1)) (ze_aload rfl)
  exact zz_MX_B rfl rfl rfl rfl (by decide +kernel) (zz_lb rfl) (zz_TX_B b (zxc_16_1 (as := []) (r := []) hG hM rfl h0 (zz_lb rfl)))
theorem zCm_16 {l : Launch} {D : va_G} {cy : Nat → ClassId} {z0 : Nat} {sp : Nat → Nat} {G : State → Prop} (H : zHy l D cy z0 sp G) {n : Nat} (hn : n ≤ 511) {w : zz_W} (h : zIv zQI n 0 w) (p0 : Int32) : ∃ rv w', zRl l D cy z0 sp G 469 16 [("java/lang/IllegalArgumentException", 14), ("java/lang/IllegalStateException", 15)] [.ref 0, .int p0] w rv w' ∧ zIv zQM n 0 w' := by
  obtain ⟨hG, hP, hW, hsp0, hWk, hTX, hl, hE⟩ := H
  have hw : w.1 < 16 * 64 := by have := h.2.2.1; omega
  have h0 := zI_ic0 (zIv_I h)
  exact zCl_gen hn h [p0] (Nat.le_of_ble_eq_true rfl) zXk_c16 zXm_c16 rfl rfl (Rl := zRl l D cy z0 sp G 469 16 [("java/lang/IllegalArgumentException", 14), ("java/lang/IllegalStateException", 15)] [.ref 0, .int p0] w) (List.forall_mem_cons.mpr ⟨zPP_px (zk_liftP zHX_ok (by decide +kernel) (zPX_16_x0 hG hP hW hTX)) rfl (by decide) (by decide +kernel) rfl rfl hw, List.forall_mem_cons.mpr ⟨zPP_th (zk_liftP zHX_ok (by decide +kernel) (zPX_69_x0 hG hP hW hTX)) rfl (by decide) (by decide +kernel) hw (zMx_16_69 hG hP h0), (fun _ h => absurd h List.not_mem_nil)⟩⟩)
theorem zHk_16 {l : Launch} {D : va_G} {cy : Nat → ClassId} {z0 : Nat} {sp : Nat → Nat} {G : State → Prop} (H : zHy l D cy z0 sp G) {n : Nat} (hn : n ≤ 511) {w : zz_W} (h : zIv zQI n 0 w) (p0 : Int32) : ∃ r w', zz_MH l zTs D zcl zFK cy z0 sp (zTys cy) G zy_814 method_17_code 4 (some .int) [(0, 9, 12, 25), (0, 9, 15, 13)] 470 [.ref 0, .int p0, .ref 328] w [.int r] w' ∧ zIv zQM n 1 w' := by
  have h0 := zI_ic0 (zIv_I h)
  obtain ⟨rv, w', hR, hI⟩ := zCm_16 H hn h p0
  obtain ⟨hG, hP, -, -, -, -, -, hE⟩ := H
  rcases hR with ⟨a, rfl, hM⟩ | ⟨rfl, x, hx, hM⟩
  · obtain ⟨N, hN⟩ := zI_328 (zIv_I hI)
    exact ⟨_, _, zHr_814 hG hP (zIv_I hI).1 hN h0 hM, zIv_1 (zIv_up zQM_w9 hI (by omega))⟩
  · rcases List.mem_cons.mp hx with e | hx
    · subst e
      exact ⟨_, _, zHx_814_1 hG hP hE h0 hM, zIv_pu zQM_ok hI (by omega)⟩
    · skip
      rcases List.mem_cons.mp hx with e | hx
      · subst e
        exact ⟨_, _, zHx_814_0 hG hP hE h0 hM, zIv_pu zQM_ok hI (by omega)⟩
      · skip
        exact absurd hx List.not_mem_nil
theorem zMx_17_69 {l : Launch} {D : va_G} {cy : Nat → ClassId} {z0 : Nat} {sp : Nat → Nat} {G : State → Prop} (hG : zz_GF z0 G) (hP : ∀ U, G U → zz_GD zS zS2 zLg z0 sp U) {w : zz_W} (h0 : zz_ic w 0 1 = true) {p0 : Int32} (E : String) (w' : zz_W) (hM : zz_MX l zTs D zcl zFK cy z0 sp (zTys cy) G zYN zCN zMQ zRT 468 69 ([.ref 0, .int p0].take 1) w E w') : zz_MX l zTs D zcl zFK cy z0 sp (zTys cy) G zYN zCN zMQ zRT 469 17 [.ref 0, .int p0] w E w' := by
  have T : zz_TO l zTs D zcl zFK cy z0 sp (zTys cy) G "ToolMill" "register" 2 prog_1_method_18_code 468 zz_k0 zP_17 := zP_s zz_k0_KS hG hP 17 (by decide) (Or.inl (by decide))
  have b := zz_B_rf (l := l) (Ts := zTs) (D := D) (cl := zcl) (fk := zFK) (cy := cy) (z0 := z0) (sp := sp) (tys := zTys cy) (G := G) (own := "ToolMill") (mn := "register") (nL := 2) (cc := prog_1_method_18_code) (d := 468) ((0, lv_args 0 [.ref 0, .int p0], [], w) : zz_F)
  replace b := zz_fw b T (rfl : zz_ent zP_17 0 = (0, za_aload 0 1)) (ze_aload rfl)
  exact zz_MX_B rfl rfl rfl rfl (by decide +kernel) (zz_lb rfl) (zz_TX_B b (zxc_17_1 (as := []) (r := []) hG hM rfl h0 (zz_lb rfl)))
theorem zCm_17 {l : Launch} {D : va_G} {cy : Nat → ClassId} {z0 : Nat} {sp : Nat → Nat} {G : State → Prop} (H : zHy l D cy z0 sp G) {n : Nat} (hn : n ≤ 511) {w : zz_W} (h : zIv zQI n 0 w) (p0 : Int32) : ∃ rv w', zRl l D cy z0 sp G 469 17 [("java/lang/IllegalArgumentException", 14), ("java/lang/IllegalStateException", 15)] [.ref 0, .int p0] w rv w' ∧ zIv zQM n 0 w' := by
  obtain ⟨hG, hP, hW, hsp0, hWk, hTX, hl, hE⟩ := H
  have hw : w.1 < 16 * 64 := by have := h.2.2.1; omega
  have h0 := zI_ic0 (zIv_I h)
  exact zCl_gen hn h [p0] (Nat.le_of_ble_eq_true rfl) zXk_c17 zXm_c17 rfl rfl (Rl := zRl l D cy z0 sp G 469 17 [("java/lang/IllegalArgumentException", 14), ("java/lang/IllegalStateException", 15)] [.ref 0, .int p0] w) (List.forall_mem_cons.mpr ⟨zPP_px (zk_liftP zHX_ok (by decide +kernel) (zPX_17_x0 hG hP hW hTX)) rfl (by decide) (by decide +kernel) rfl rfl hw, List.forall_mem_cons.mpr ⟨zPP_th (zk_liftP zHX_ok (by decide +kernel) (zPX_69_x0 hG hP hW hTX)) rfl (by decide) (by decide +kernel) hw (zMx_17_69 hG hP h0), (fun _ h => absurd h List.not_mem_nil)⟩⟩)
theorem zHk_17 {l : Launch} {D : va_G} {cy : Nat → ClassId} {z0 : Nat} {sp : Nat → Nat} {G : State → Prop} (H : zHy l D cy z0 sp G) {n : Nat} (hn : n ≤ 511) {w : zz_W} (h : zIv zQI n 0 w) (p0 : Int32) : ∃ r w', zz_MH l zTs D zcl zFK cy z0 sp (zTys cy) G zy_815 method_18_code 4 (some .int) [(0, 9, 12, 25), (0, 9, 15, 13)] 470 [.ref 0, .int p0, .ref 328] w [.int r] w' ∧ zIv zQM n 1 w' := by
  have h0 := zI_ic0 (zIv_I h)
  obtain ⟨rv, w', hR, hI⟩ := zCm_17 H hn h p0
  obtain ⟨hG, hP, -, -, -, -, -, hE⟩ := H
  rcases hR with ⟨a, rfl, hM⟩ | ⟨rfl, x, hx, hM⟩
  · obtain ⟨N, hN⟩ := zI_328 (zIv_I hI)
    exact ⟨_, _, zHr_815 hG hP (zIv_I hI).1 hN h0 hM, zIv_1 (zIv_up zQM_w9 hI (by omega))⟩
  · rcases List.mem_cons.mp hx with e | hx
    · subst e
      exact ⟨_, _, zHx_815_1 hG hP hE h0 hM, zIv_pu zQM_ok hI (by omega)⟩
    · skip
      rcases List.mem_cons.mp hx with e | hx
      · subst e
        exact ⟨_, _, zHx_815_0 hG hP hE h0 hM, zIv_pu zQM_ok hI (by omega)⟩
      · skip
        exact absurd hx List.not_mem_nil
theorem zMx_18_69 {l : Launch} {D : va_G} {cy : Nat → ClassId} {z0 : Nat} {sp : Nat → Nat} {G : State → Prop} (hG : zz_GF z0 G) (hP : ∀ U, G U → zz_GD zS zS2 zLg z0 sp U) {w : zz_W} (h0 : zz_ic w 0 1 = true) {p0 : Int32} (E : String) (w' : zz_W) (hM : zz_MX l zTs D zcl zFK cy z0 sp (zTys cy) G zYN zCN zMQ zRT 468 69 ([.ref 0, .int p0].take 1) w E w') : zz_MX l zTs D zcl zFK cy z0 sp (zTys cy) G zYN zCN zMQ zRT 469 18 [.ref 0, .int p0] w E w' := by
  have T : zz_TO l zTs D zcl zFK cy z0 sp (zTys cy) G "ToolMill" "word" 2 prog_1_method_19_code 468 zz_k0 zP_18 := zP_s zz_k0_KS hG hP 18 (by decide) (Or.inl (by decide))
  have b := zz_B_rf (l := l) (Ts := zTs) (D := D) (cl := zcl) (fk := zFK) (cy := cy) (z0 := z0) (sp := sp) (tys := zTys cy) (G := G) (own := "ToolMill") (mn := "word") (nL := 2) (cc := prog_1_method_19_code) (d := 468) ((0, lv_args 0 [.ref 0, .int p0], [], w) : zz_F)
  replace b := zz_fw b T (rfl : zz_ent zP_18 0 = (0, za_aload 0 1)) (ze_aload rfl)
  exact zz_MX_B rfl rfl rfl rfl (by decide +kernel) (zz_lb rfl) (zz_TX_B b (zxc_18_1 (as := []) (r := []) hG hM rfl h0 (zz_lb rfl)))
theorem zCm_18 {l : Launch} {D : va_G} {cy : Nat → ClassId} {z0 : Nat} {sp : Nat → Nat} {G : State → Prop} (H : zHy l D cy z0 sp G) {n : Nat} (hn : n ≤ 511) {w : zz_W} (h : zIv zQI n 0 w) (p0 : Int32) : ∃ rv w', zRl l D cy z0 sp G 469 18 [("java/lang/IndexOutOfBoundsException", 17), ("java/lang/IllegalStateException", 15)] [.ref 0, .int p0] w rv w' ∧ zIv zQM n 0 w' := by
  obtain ⟨hG, hP, hW, hsp0, hWk, hTX, hl, hE⟩ := H
  have hw : w.1 < 16 * 64 := by have := h.2.2.1; omega
  have h0 := zI_ic0 (zIv_I h)
  exact zCl_gen hn h [p0] (Nat.le_of_ble_eq_true rfl) zXk_c18 zXm_c18 rfl rfl (Rl := zRl l D cy z0 sp G 469 18 [("java/lang/IndexOutOfBoundsException", 17), ("java/lang/IllegalStateException", 15)] [.ref 0, .int p0] w) (List.forall_mem_cons.mpr ⟨zPP_px (zk_liftP zHX_ok (by decide +kernel) (zPX_18_x0 hG hP hW hTX)) rfl (by decide) (by decide +kernel) rfl rfl hw, List.forall_mem_cons.mpr ⟨zPP_th (zk_liftP zHX_ok (by decide +kernel) (zPX_69_x0 hG hP hW hTX)) rfl (by decide) (by decide +kernel) hw (zMx_18_69 hG hP h0), (fun _ h => absurd h List.not_mem_nil)⟩⟩)
theorem zHk_18 {l : Launch} {D : va_G} {cy : Nat → ClassId} {z0 : Nat} {sp : Nat → Nat} {G : State → Prop} (H : zHy l D cy z0 sp G) {n : Nat} (hn : n ≤ 511) {w : zz_W} (h : zIv zQI n 0 w) (p0 : Int32) : ∃ r w', zz_MH l zTs D zcl zFK cy z0 sp (zTys cy) G zy_816 method_19_code 4 (some .int) [(0, 9, 12, 25), (0, 9, 15, 73)] 470 [.ref 0, .int p0, .ref 328] w [.int r] w' ∧ zIv zQM n 1 w' := by
  have h0 := zI_ic0 (zIv_I h)
  obtain ⟨rv, w', hR, hI⟩ := zCm_18 H hn h p0
  obtain ⟨hG, hP, -, -, -, -, -, hE⟩ := H
  rcases hR with ⟨a, rfl, hM⟩ | ⟨rfl, x, hx, hM⟩
  · obtain ⟨N, hN⟩ := zI_328 (zIv_I hI)
    exact ⟨_, _, zHr_816 hG hP (zIv_I hI).1 hN h0 hM, zIv_1 (zIv_up zQM_w9 hI (by omega))⟩
  · rcases List.mem_cons.mp hx with e | hx
    · subst e
      exact ⟨_, _, zHx_816_1 hG hP hE h0 hM, zIv_pu zQM_ok hI (by omega)⟩
    · skip
      rcases List.mem_cons.mp hx with e | hx
      · subst e
        exact ⟨_, _, zHx_816_0 hG hP hE h0 hM, zIv_pu zQM_ok hI (by omega)⟩
      · skip
        exact absurd hx List.not_mem_nil
theorem zMx_19_69 {l : Launch} {D : va_G} {cy : Nat → ClassId} {z0 : Nat} {sp : Nat → Nat} {G : State → Prop} (hG : zz_GF z0 G) (hP : ∀ U, G U → zz_GD zS zS2 zLg z0 sp U) {w : zz_W} (h0 : zz_ic w 0 1 = true) {p0 : Int32} (E : String) (w' : zz_W) (hM : zz_MX l zTs D zcl zFK cy z0 sp (zTys cy) G zYN zCN zMQ zRT 468 69 ([.ref 0, .int p0].take 1) w E w') : zz_MX l zTs D zcl zFK cy z0 sp (zTys cy) G zYN zCN zMQ zRT 469 19 [.ref 0, .int p0] w E w' := by
  have T : zz_TO l zTs D zcl zFK cy z0 sp (zTys cy) G "ToolMill" "output" 2 prog_1_method_20_code 468 zz_k0 zP_19 := zP_s zz_k0_KS hG hP 19 (by decide) (Or.inl (by decide))
  have b := zz_B_rf (l := l) (Ts := zTs) (D := D) (cl := zcl) (fk := zFK) (cy := cy) (z0 := z0) (sp := sp) (tys := zTys cy) (G := G) (own := "ToolMill") (mn := "output") (nL := 2) (cc := prog_1_method_20_code) (d := 468) ((0, lv_args 0 [.ref 0, .int p0], [], w) : zz_F)
  replace b := zz_fw b T (rfl : zz_ent zP_19 0 = (0, za_aload 0 1)) (ze_aload rfl)
  exact zz_MX_B rfl rfl rfl rfl (by decide +kernel) (zz_lb rfl) (zz_TX_B b (zxc_19_1 (as := []) (r := []) hG hM rfl h0 (zz_lb rfl)))
theorem zCm_19 {l : Launch} {D : va_G} {cy : Nat → ClassId} {z0 : Nat} {sp : Nat → Nat} {G : State → Prop} (H : zHy l D cy z0 sp G) {n : Nat} (hn : n ≤ 511) {w : zz_W} (h : zIv zQI n 0 w) (p0 : Int32) : ∃ rv w', zRl l D cy z0 sp G 469 19 [("java/lang/IndexOutOfBoundsException", 17), ("java/lang/IllegalStateException", 15)] [.ref 0, .int p0] w rv w' ∧ zIv zQM n 0 w' := by
  obtain ⟨hG, hP, hW, hsp0, hWk, hTX, hl, hE⟩ := H
  have hw : w.1 < 16 * 64 := by have := h.2.2.1; omega
  have h0 := zI_ic0 (zIv_I h)
  exact zCl_gen hn h [p0] (Nat.le_of_ble_eq_true rfl) zXk_c19 zXm_c19 rfl rfl (Rl := zRl l D cy z0 sp G 469 19 [("java/lang/IndexOutOfBoundsException", 17), ("java/lang/IllegalStateException", 15)] [.ref 0, .int p0] w) (List.forall_mem_cons.mpr ⟨zPP_px (zk_liftP zHX_ok (by decide +kernel) (zPX_19_x0 hG hP hW hTX)) rfl (by decide) (by decide +kernel) rfl rfl hw, List.forall_mem_cons.mpr ⟨zPP_th (zk_liftP zHX_ok (by decide +kernel) (zPX_69_x0 hG hP hW hTX)) rfl (by decide) (by decide +kernel) hw (zMx_19_69 hG hP h0), (fun _ h => absurd h List.not_mem_nil)⟩⟩)
theorem zHk_19 {l : Launch} {D : va_G} {cy : Nat → ClassId} {z0 : Nat} {sp : Nat → Nat} {G : State → Prop} (H : zHy l D cy z0 sp G) {n : Nat} (hn : n ≤ 511) {w : zz_W} (h : zIv zQI n 0 w) (p0 : Int32) : ∃ r w', zz_MH l zTs D zcl zFK cy z0 sp (zTys cy) G zy_817 method_20_code 4 (some .int) [(0, 9, 12, 25), (0, 9, 15, 73)] 470 [.ref 0, .int p0, .ref 328] w [.int r] w' ∧ zIv zQM n 1 w' := by
  have h0 := zI_ic0 (zIv_I h)
  obtain ⟨rv, w', hR, hI⟩ := zCm_19 H hn h p0
  obtain ⟨hG, hP, -, -, -, -, -, hE⟩ := H
  rcases hR with ⟨a, rfl, hM⟩ | ⟨rfl, x, hx, hM⟩
  · obtain ⟨N, hN⟩ := zI_328 (zIv_I hI)
    exact ⟨_, _, zHr_817 hG hP (zIv_I hI).1 hN h0 hM, zIv_1 (zIv_up zQM_w9 hI (by omega))⟩
  · rcases List.mem_cons.mp hx with e | hx
    · subst e
      exact ⟨_, _, zHx_817_1 hG hP hE h0 hM, zIv_pu zQM_ok hI (by omega)⟩
    · skip
      rcases List.mem_cons.mp hx with e | hx
      · subst e
        exact ⟨_, _, zHx_817_0 hG hP hE h0 hM, zIv_pu zQM_ok hI (by omega)⟩
      · skip
        exact absurd hx List.not_mem_nil
theorem zCm_21 {l : Launch} {D : va_G} {cy : Nat → ClassId} {z0 : Nat} {sp : Nat → Nat} {G : State → Prop} (H : zHy l D cy z0 sp G) {n : Nat} (hn : n ≤ 511) {w : zz_W} (h : zIv zQI n 0 w) (p0 : Int32) : ∃ rv w', zRl l D cy z0 sp G 469 21 [("java/lang/IllegalStateException", 15), ("java/lang/IllegalArgumentException", 14)] [.ref 0, .int p0] w rv w' ∧ zIv zQM n 0 w' := by
  obtain ⟨hG, hP, hW, hsp0, hWk, hTX, hl, hE⟩ := H
  have hw : w.1 < 16 * 64 := by have := h.2.2.1; omega
  have h0 := zI_ic0 (zIv_I h)
  exact zCl_gen hn h [p0] (Nat.le_of_ble_eq_true rfl) zXk_c21 zXm_c21 rfl rfl (Rl := zRl l D cy z0 sp G 469 21 [("java/lang/IllegalStateException", 15), ("java/lang/IllegalArgumentException", 14)] [.ref 0, .int p0] w) (List.forall_mem_cons.mpr ⟨zPP_px (zPX_21_x0 hG hP hW hsp0 hWk hTX) rfl (by decide) (by decide +kernel) rfl rfl hw, (fun _ h => absurd h List.not_mem_nil)⟩)
theorem zHk_21 {l : Launch} {D : va_G} {cy : Nat → ClassId} {z0 : Nat} {sp : Nat → Nat} {G : State → Prop} (H : zHy l D cy z0 sp G) {n : Nat} (hn : n ≤ 511) {w : zz_W} (h : zIv zQI n 0 w) (p0 : Int32) : ∃ r w', zz_MH l zTs D zcl zFK cy z0 sp (zTys cy) G zy_819 method_22_code 4 (some .int) [(0, 9, 12, 25), (0, 9, 15, 13)] 470 [.ref 0, .int p0, .ref 328] w [.int r] w' ∧ zIv zQM n 1 w' := by
  have h0 := zI_ic0 (zIv_I h)
  obtain ⟨rv, w', hR, hI⟩ := zCm_21 H hn h p0
  obtain ⟨hG, hP, -, -, -, -, -, hE⟩ := H
  rcases hR with ⟨a, rfl, hM⟩ | ⟨rfl, x, hx, hM⟩
  · obtain ⟨N, hN⟩ := zI_328 (zIv_I hI)
    exact ⟨_, _, zHr_819 hG hP (zIv_I hI).1 hN h0 hM, zIv_1 (zIv_up zQM_w9 hI (by omega))⟩
  · rcases List.mem_cons.mp hx with e | hx
    · subst e
      exact ⟨_, _, zHx_819_0 hG hP hE h0 hM, zIv_pu zQM_ok hI (by omega)⟩
    · skip
      rcases List.mem_cons.mp hx with e | hx
      · subst e
        exact ⟨_, _, zHx_819_1 hG hP hE h0 hM, zIv_pu zQM_ok hI (by omega)⟩
      · skip
        exact absurd hx List.not_mem_nil
theorem zMx_22_75 {l : Launch} {D : va_G} {cy : Nat → ClassId} {z0 : Nat} {sp : Nat → Nat} {G : State → Prop} (hG : zz_GF z0 G) (hP : ∀ U, G U → zz_GD zS zS2 zLg z0 sp U) {w : zz_W} (h0 : zz_ic w 0 1 = true) {p0 : Int32} (E : String) (w' : zz_W) (hM : zz_MX l zTs D zcl zFK cy z0 sp (zTys cy) G zYN zCN zMQ zRT 468 75 ([.ref 0, .int p0].take 1) w E w') : zz_MX l zTs D zcl zFK cy z0 sp (zTys cy) G zYN zCN zMQ zRT 469 22 [.ref 0, .int p0] w E w' := by
  have T : zz_TO l zTs D zcl zFK cy z0 sp (zTys cy) G "ToolMill" "meant" 2 prog_1_method_23_code 468 zz_k0 zP_22 := zP_s zz_k0_KS hG hP 22 (by decide) (Or.inl (by decide))
  have b := zz_B_rf (l := l) (Ts := zTs) (D := D) (cl := zcl) (fk := zFK) (cy := cy) (z0 := z0) (sp := sp) (tys := zTys cy) (G := G) (own := "ToolMill") (mn := "meant") (nL := 2) (cc := prog_1_method_23_code) (d := 468) ((0, lv_args 0 [.ref 0, .int p0], [], w) : zz_F)
  replace b := zz_fw b T (rfl : zz_ent zP_22 0 = (0, za_aload 0 1)) (ze_aload rfl)
  exact zz_MX_B rfl rfl rfl rfl (by decide +kernel) (zz_lb rfl) (zz_TX_B b (zxc_22_1 (as := []) (r := []) hG hM rfl h0 (zz_lb rfl)))
theorem zCm_22 {l : Launch} {D : va_G} {cy : Nat → ClassId} {z0 : Nat} {sp : Nat → Nat} {G : State → Prop} (H : zHy l D cy z0 sp G) {n : Nat} (hn : n ≤ 511) {w : zz_W} (h : zIv zQI n 0 w) (p0 : Int32) : ∃ rv w', zRl l D cy z0 sp G 469 22 [("java/lang/IllegalArgumentException", 14), ("java/lang/IllegalStateException", 15)] [.ref 0, .int p0] w rv w' ∧ zIv zQM n 0 w' := by
  obtain ⟨hG, hP, hW, hsp0, hWk, hTX, hl, hE⟩ := H
  have hw : w.1 < 16 * 64 := by have := h.2.2.1; omega
  have h0 := zI_ic0 (zIv_I h)
  exact zCl_gen hn h [p0] (Nat.le_of_ble_eq_true rfl) zXk_c22 zXm_c22 rfl rfl (Rl := zRl l D cy z0 sp G 469 22 [("java/lang/IllegalArgumentException", 14), ("java/lang/IllegalStateException", 15)] [.ref 0, .int p0] w) (List.forall_mem_cons.mpr ⟨zPP_px (zk_liftP zHX_ok (by decide +kernel) (zPX_22_x0 hG hP hW hTX)) rfl (by decide) (by decide +kernel) rfl rfl hw, List.forall_mem_cons.mpr ⟨zPP_th (zk_liftP zHX_ok (by decide +kernel) (zPX_75_x0 hG hP hW hTX)) rfl (by decide) (by decide +kernel) hw (zMx_22_75 hG hP h0), (fun _ h => absurd h List.not_mem_nil)⟩⟩)
theorem zHk_22 {l : Launch} {D : va_G} {cy : Nat → ClassId} {z0 : Nat} {sp : Nat → Nat} {G : State → Prop} (H : zHy l D cy z0 sp G) {n : Nat} (hn : n ≤ 511) {w : zz_W} (h : zIv zQI n 0 w) (p0 : Int32) : ∃ r w', zz_MH l zTs D zcl zFK cy z0 sp (zTys cy) G zy_820 method_23_code 4 (some .int) [(0, 9, 12, 25), (0, 9, 15, 13)] 470 [.ref 0, .int p0, .ref 328] w [.int r] w' ∧ zIv zQM n 1 w' := by
  have h0 := zI_ic0 (zIv_I h)
  obtain ⟨rv, w', hR, hI⟩ := zCm_22 H hn h p0
  obtain ⟨hG, hP, -, -, -, -, -, hE⟩ := H
  rcases hR with ⟨a, rfl, hM⟩ | ⟨rfl, x, hx, hM⟩
  · obtain ⟨N, hN⟩ := zI_328 (zIv_I hI)
    exact ⟨_, _, zHr_820 hG hP (zIv_I hI).1 hN h0 hM, zIv_1 (zIv_up zQM_w9 hI (by omega))⟩
  · rcases List.mem_cons.mp hx with e | hx
    · subst e
      exact ⟨_, _, zHx_820_1 hG hP hE h0 hM, zIv_pu zQM_ok hI (by omega)⟩
    · skip
      rcases List.mem_cons.mp hx with e | hx
      · subst e
        exact ⟨_, _, zHx_820_0 hG hP hE h0 hM, zIv_pu zQM_ok hI (by omega)⟩
      · skip
        exact absurd hx List.not_mem_nil
theorem zMx_23_75 {l : Launch} {D : va_G} {cy : Nat → ClassId} {z0 : Nat} {sp : Nat → Nat} {G : State → Prop} (hG : zz_GF z0 G) (hP : ∀ U, G U → zz_GD zS zS2 zLg z0 sp U) {w : zz_W} (h0 : zz_ic w 0 1 = true) {p0 : Int32} (E : String) (w' : zz_W) (hM : zz_MX l zTs D zcl zFK cy z0 sp (zTys cy) G zYN zCN zMQ zRT 468 75 ([.ref 0, .int p0].take 1) w E w') : zz_MX l zTs D zcl zFK cy z0 sp (zTys cy) G zYN zCN zMQ zRT 469 23 [.ref 0, .int p0] w E w' := by
  have T : zz_TO l zTs D zcl zFK cy z0 sp (zTys cy) G "ToolMill" "said" 2 prog_1_method_24_code 468 zz_k0 zP_23 := zP_s zz_k0_KS hG hP 23 (by decide) (Or.inl (by decide))
  have b := zz_B_rf (l := l) (Ts := zTs) (D := D) (cl := zcl) (fk := zFK) (cy := cy) (z0 := z0) (sp := sp) (tys := zTys cy) (G := G) (own := "ToolMill") (mn := "said") (nL := 2) (cc := prog_1_method_24_code) (d := 468) ((0, lv_args 0 [.ref 0, .int p0], [], w) : zz_F)
  replace b := zz_fw b T (rfl : zz_ent zP_23 0 = (0, za_aload 0 1)) (ze_aload rfl)
  exact zz_MX_B rfl rfl rfl rfl (by decide +kernel) (zz_lb rfl) (zz_TX_B b (zxc_23_1 (as := []) (r := []) hG hM rfl h0 (zz_lb rfl)))
theorem zCm_23 {l : Launch} {D : va_G} {cy : Nat → ClassId} {z0 : Nat} {sp : Nat → Nat} {G : State → Prop} (H : zHy l D cy z0 sp G) {n : Nat} (hn : n ≤ 511) {w : zz_W} (h : zIv zQI n 0 w) (p0 : Int32) : ∃ rv w', zRl l D cy z0 sp G 469 23 [("java/lang/IndexOutOfBoundsException", 17), ("java/lang/IllegalStateException", 15)] [.ref 0, .int p0] w rv w' ∧ zIv zQM n 0 w' := by
  obtain ⟨hG, hP, hW, hsp0, hWk, hTX, hl, hE⟩ := H
  have hw : w.1 < 16 * 64 := by have := h.2.2.1; omega
  have h0 := zI_ic0 (zIv_I h)
  exact zCl_gen hn h [p0] (Nat.le_of_ble_eq_true rfl) zXk_c23 zXm_c23 rfl rfl (Rl := zRl l D cy z0 sp G 469 23 [("java/lang/IndexOutOfBoundsException", 17), ("java/lang/IllegalStateException", 15)] [.ref 0, .int p0] w) (List.forall_mem_cons.mpr ⟨zPP_px (zk_liftP zHX_ok (by decide +kernel) (zPX_23_x0 hG hP hW hTX)) rfl (by decide) (by decide +kernel) rfl rfl hw, List.forall_mem_cons.mpr ⟨zPP_th (zk_liftP zHX_ok (by decide +kernel) (zPX_75_x0 hG hP hW hTX)) rfl (by decide) (by decide +kernel) hw (zMx_23_75 hG hP h0), (fun _ h => absurd h List.not_mem_nil)⟩⟩)
theorem zHk_23 {l : Launch} {D : va_G} {cy : Nat → ClassId} {z0 : Nat} {sp : Nat → Nat} {G : State → Prop} (H : zHy l D cy z0 sp G) {n : Nat} (hn : n ≤ 511) {w : zz_W} (h : zIv zQI n 0 w) (p0 : Int32) : ∃ r w', zz_MH l zTs D zcl zFK cy z0 sp (zTys cy) G zy_821 method_24_code 4 (some .int) [(0, 9, 12, 25), (0, 9, 15, 73)] 470 [.ref 0, .int p0, .ref 328] w [.int r] w' ∧ zIv zQM n 1 w' := by
  have h0 := zI_ic0 (zIv_I h)
  obtain ⟨rv, w', hR, hI⟩ := zCm_23 H hn h p0
  obtain ⟨hG, hP, -, -, -, -, -, hE⟩ := H
  rcases hR with ⟨a, rfl, hM⟩ | ⟨rfl, x, hx, hM⟩
  · obtain ⟨N, hN⟩ := zI_328 (zIv_I hI)
    exact ⟨_, _, zHr_821 hG hP (zIv_I hI).1 hN h0 hM, zIv_1 (zIv_up zQM_w9 hI (by omega))⟩
  · rcases List.mem_cons.mp hx with e | hx
    · subst e
      exact ⟨_, _, zHx_821_1 hG hP hE h0 hM, zIv_pu zQM_ok hI (by omega)⟩
    · skip
      rcases List.mem_cons.mp hx with e | hx
      · subst e
        exact ⟨_, _, zHx_821_0 hG hP hE h0 hM, zIv_pu zQM_ok hI (by omega)⟩
      · skip
        exact absurd hx List.not_mem_nil
theorem zRm_27 {l : Launch} {D : va_G} {cy : Nat → ClassId} {z0 : Nat} {sp : Nat → Nat} {G : State → Prop} (H : zHy l D cy z0 sp G) {n : Nat} (hn : n ≤ 511) {w : zz_W} (h : zIv zQM n 1 w)  : ∃ a w', zz_M l zTs D zcl zFK cy z0 sp (zTys cy) G zYN zCN zMQ zRT 470 27 [.ref 171] w [.int a] w' ∧ zIv zQI (n + 1) 0 w' := by
  obtain ⟨hG, hP, hW, hsp0, hWk, hTX, hl, hE⟩ := H
  exact zRf_gen hn h [] (Nat.le_of_ble_eq_true rfl) zXk_r27 zXm_r27 rfl rfl (Rl := fun rv w' => zz_M l zTs D zcl zFK cy z0 sp (zTys cy) G zYN zCN zMQ zRT 470 27 [.ref 171] w rv w') (List.forall_mem_cons.mpr ⟨zPP_cm (zk_liftC zHX_ok (by decide +kernel) (zCon_27 hG hP hW)) rfl rfl, (fun _ h => absurd h List.not_mem_nil)⟩)
theorem zRm_28 {l : Launch} {D : va_G} {cy : Nat → ClassId} {z0 : Nat} {sp : Nat → Nat} {G : State → Prop} (H : zHy l D cy z0 sp G) {n : Nat} (hn : n ≤ 511) {w : zz_W} (h : zIv zQM n 1 w)  : ∃ a w', zz_M l zTs D zcl zFK cy z0 sp (zTys cy) G zYN zCN zMQ zRT 470 28 [.ref 171] w [.int a] w' ∧ zIv zQI (n + 1) 0 w' := by
  obtain ⟨hG, hP, hW, hsp0, hWk, hTX, hl, hE⟩ := H
  exact zRf_gen hn h [] (Nat.le_of_ble_eq_true rfl) zXk_r28 zXm_r28 rfl rfl (Rl := fun rv w' => zz_M l zTs D zcl zFK cy z0 sp (zTys cy) G zYN zCN zMQ zRT 470 28 [.ref 171] w rv w') (List.forall_mem_cons.mpr ⟨zPP_cm (zk_liftC zHX_ok (by decide +kernel) (zCon_28 hG hP hW)) rfl rfl, (fun _ h => absurd h List.not_mem_nil)⟩)
theorem zRm_30 {l : Launch} {D : va_G} {cy : Nat → ClassId} {z0 : Nat} {sp : Nat → Nat} {G : State → Prop} (H : zHy l D cy z0 sp G) {n : Nat} (hn : n ≤ 511) {w : zz_W} (h : zIv zQM n 1 w) (p0 : Int32) : ∃ a w', zz_M l zTs D zcl zFK cy z0 sp (zTys cy) G zYN zCN zMQ zRT 470 30 [.ref 171, .int p0] w [.int a] w' ∧ zIv zQI (n + 1) 0 w' := by
  obtain ⟨hG, hP, hW, hsp0, hWk, hTX, hl, hE⟩ := H
  exact zRf_gen hn h [p0] (Nat.le_of_ble_eq_true rfl) zXk_r30 zXm_r30 rfl rfl (Rl := fun rv w' => zz_M l zTs D zcl zFK cy z0 sp (zTys cy) G zYN zCN zMQ zRT 470 30 [.ref 171, .int p0] w rv w') (List.forall_mem_cons.mpr ⟨zPP_cm (zk_liftC zHX_ok (by decide +kernel) (zCon_30 hG hP hW)) rfl rfl, (fun _ h => absurd h List.not_mem_nil)⟩)
theorem zRm_31 {l : Launch} {D : va_G} {cy : Nat → ClassId} {z0 : Nat} {sp : Nat → Nat} {G : State → Prop} (H : zHy l D cy z0 sp G) {n : Nat} (hn : n ≤ 511) {w : zz_W} (h : zIv zQM n 1 w) (p0 : Int32) (p1 : Int32) : ∃ a w', zz_M l zTs D zcl zFK cy z0 sp (zTys cy) G zYN zCN zMQ zRT 470 31 [.ref 171, .int p0, .int p1] w [.int a] w' ∧ zIv zQI (n + 1) 0 w' := by
  obtain ⟨hG, hP, hW, hsp0, hWk, hTX, hl, hE⟩ := H
  exact zRf_gen hn h [p0, p1] (Nat.le_of_ble_eq_true rfl) zXk_r31 zXm_r31 rfl rfl (Rl := fun rv w' => zz_M l zTs D zcl zFK cy z0 sp (zTys cy) G zYN zCN zMQ zRT 470 31 [.ref 171, .int p0, .int p1] w rv w') (List.forall_mem_cons.mpr ⟨zPP_cm (zk_liftC zHX_ok (by decide +kernel) (zCon_31 hG hP hW)) rfl rfl, (fun _ h => absurd h List.not_mem_nil)⟩)
theorem zRm_32 {l : Launch} {D : va_G} {cy : Nat → ClassId} {z0 : Nat} {sp : Nat → Nat} {G : State → Prop} (H : zHy l D cy z0 sp G) {n : Nat} (hn : n ≤ 511) {w : zz_W} (h : zIv zQM n 1 w) (p0 : Int32) (p1 : Int32) : ∃ a w', zz_M l zTs D zcl zFK cy z0 sp (zTys cy) G zYN zCN zMQ zRT 470 32 [.ref 171, .int p0, .int p1] w [.int a] w' ∧ zIv zQI (n + 1) 0 w' := by
  obtain ⟨hG, hP, hW, hsp0, hWk, hTX, hl, hE⟩ := H
  exact zRf_gen hn h [p0, p1] (Nat.le_of_ble_eq_true rfl) zXk_r32 zXm_r32 rfl rfl (Rl := fun rv w' => zz_M l zTs D zcl zFK cy z0 sp (zTys cy) G zYN zCN zMQ zRT 470 32 [.ref 171, .int p0, .int p1] w rv w') (List.forall_mem_cons.mpr ⟨zPP_cm (zk_liftC zHX_ok (by decide +kernel) (zCon_32 hG hP hW)) rfl rfl, (fun _ h => absurd h List.not_mem_nil)⟩)
theorem zRm_33 {l : Launch} {D : va_G} {cy : Nat → ClassId} {z0 : Nat} {sp : Nat → Nat} {G : State → Prop} (H : zHy l D cy z0 sp G) {n : Nat} (hn : n ≤ 511) {w : zz_W} (h : zIv zQM n 1 w) (p0 : Int32) (p1 : Int32) (p2 : Int32) : ∃ a w', zz_M l zTs D zcl zFK cy z0 sp (zTys cy) G zYN zCN zMQ zRT 470 33 [.ref 171, .int p0, .int p1, .int p2] w [.int a] w' ∧ zIv zQI (n + 1) 0 w' := by
  obtain ⟨hG, hP, hW, hsp0, hWk, hTX, hl, hE⟩ := H
  exact zRf_gen hn h [p0, p1, p2] (Nat.le_of_ble_eq_true rfl) zXk_r33 zXm_r33 rfl rfl (Rl := fun rv w' => zz_M l zTs D zcl zFK cy z0 sp (zTys cy) G zYN zCN zMQ zRT 470 33 [.ref 171, .int p0, .int p1, .int p2] w rv w') (List.forall_mem_cons.mpr ⟨zPP_cm (zk_liftC zHX_ok (by decide +kernel) (zCon_33 hG hP hW)) rfl rfl, (fun _ h => absurd h List.not_mem_nil)⟩)
theorem zRm_34 {l : Launch} {D : va_G} {cy : Nat → ClassId} {z0 : Nat} {sp : Nat → Nat} {G : State → Prop} (H : zHy l D cy z0 sp G) {n : Nat} (hn : n ≤ 511) {w : zz_W} (h : zIv zQM n 1 w) (p0 : Int32) (p1 : Int32) (p2 : Int32) : ∃ a w', zz_M l zTs D zcl zFK cy z0 sp (zTys cy) G zYN zCN zMQ zRT 470 34 [.ref 171, .int p0, .int p1, .int p2] w [.int a] w' ∧ zIv zQI (n + 1) 0 w' := by
  obtain ⟨hG, hP, hW, hsp0, hWk, hTX, hl, hE⟩ := H
  exact zRf_gen hn h [p0, p1, p2] (Nat.le_of_ble_eq_true rfl) zXk_r34 zXm_r34 rfl rfl (Rl := fun rv w' => zz_M l zTs D zcl zFK cy z0 sp (zTys cy) G zYN zCN zMQ zRT 470 34 [.ref 171, .int p0, .int p1, .int p2] w rv w') (List.forall_mem_cons.mpr ⟨zPP_cm (zk_liftC zHX_ok (by decide +kernel) (zCon_34 hG hP hW)) rfl rfl, (fun _ h => absurd h List.not_mem_nil)⟩)
theorem zRm_35 {l : Launch} {D : va_G} {cy : Nat → ClassId} {z0 : Nat} {sp : Nat → Nat} {G : State → Prop} (H : zHy l D cy z0 sp G) {n : Nat} (hn : n ≤ 511) {w : zz_W} (h : zIv zQM n 1 w) (p0 : Int32) (p1 : Int32) (p2 : Int32) : ∃ a w', zz_M l zTs D zcl zFK cy z0 sp (zTys cy) G zYN zCN zMQ zRT 470 35 [.ref 171, .int p0, .int p1, .int p2] w [.int a] w' ∧ zIv zQI (n + 1) 0 w' := by
  obtain ⟨hG, hP, hW, hsp0, hWk, hTX, hl, hE⟩ := H
  exact zRf_gen hn h [p0, p1, p2] (Nat.le_of_ble_eq_true rfl) zXk_r35 zXm_r35 rfl rfl (Rl := fun rv w' => zz_M l zTs D zcl zFK cy z0 sp (zTys cy) G zYN zCN zMQ zRT 470 35 [.ref 171, .int p0, .int p1, .int p2] w rv w') (List.forall_mem_cons.mpr ⟨zPP_cm (zk_liftC zHX_ok (by decide +kernel) (zCon_35 hG hP hW)) rfl rfl, (fun _ h => absurd h List.not_mem_nil)⟩)
theorem zRm_36 {l : Launch} {D : va_G} {cy : Nat → ClassId} {z0 : Nat} {sp : Nat → Nat} {G : State → Prop} (H : zHy l D cy z0 sp G) {n : Nat} (hn : n ≤ 511) {w : zz_W} (h : zIv zQM n 1 w) (p0 : Int32) (p1 : Int32) (p2 : Int32) : ∃ a w', zz_M l zTs D zcl zFK cy z0 sp (zTys cy) G zYN zCN zMQ zRT 470 36 [.ref 171, .int p0, .int p1, .int p2] w [.int a] w' ∧ zIv zQI (n + 1) 0 w' := by
  obtain ⟨hG, hP, hW, hsp0, hWk, hTX, hl, hE⟩ := H
  exact zRf_gen hn h [p0, p1, p2] (Nat.le_of_ble_eq_true rfl) zXk_r36 zXm_r36 rfl rfl (Rl := fun rv w' => zz_M l zTs D zcl zFK cy z0 sp (zTys cy) G zYN zCN zMQ zRT 470 36 [.ref 171, .int p0, .int p1, .int p2] w rv w') (List.forall_mem_cons.mpr ⟨zPP_cm (zk_liftC zHX_ok (by decide +kernel) (zCon_36 hG hP hW)) rfl rfl, (fun _ h => absurd h List.not_mem_nil)⟩)
theorem zRm_37 {l : Launch} {D : va_G} {cy : Nat → ClassId} {z0 : Nat} {sp : Nat → Nat} {G : State → Prop} (H : zHy l D cy z0 sp G) {n : Nat} (hn : n ≤ 511) {w : zz_W} (h : zIv zQM n 1 w) (p0 : Int32) : ∃ a w', zz_M l zTs D zcl zFK cy z0 sp (zTys cy) G zYN zCN zMQ zRT 470 37 [.ref 171, .int p0] w [.int a] w' ∧ zIv zQI (n + 1) 0 w' := by
  obtain ⟨hG, hP, hW, hsp0, hWk, hTX, hl, hE⟩ := H
  exact zRf_gen hn h [p0] (Nat.le_of_ble_eq_true rfl) zXk_r37 zXm_r37 rfl rfl (Rl := fun rv w' => zz_M l zTs D zcl zFK cy z0 sp (zTys cy) G zYN zCN zMQ zRT 470 37 [.ref 171, .int p0] w rv w') (List.forall_mem_cons.mpr ⟨zPP_cm (zk_liftC zHX_ok (by decide +kernel) (zCon_37 hG hP hW)) rfl rfl, (fun _ h => absurd h List.not_mem_nil)⟩)
theorem zRm_38 {l : Launch} {D : va_G} {cy : Nat → ClassId} {z0 : Nat} {sp : Nat → Nat} {G : State → Prop} (H : zHy l D cy z0 sp G) {n : Nat} (hn : n ≤ 511) {w : zz_W} (h : zIv zQM n 1 w) (p0 : Int32) (p1 : Int32) : ∃ a w', zz_M l zTs D zcl zFK cy z0 sp (zTys cy) G zYN zCN zMQ zRT 470 38 [.ref 171, .int p0, .int p1] w [.int a] w' ∧ zIv zQI (n + 1) 0 w' := by
  obtain ⟨hG, hP, hW, hsp0, hWk, hTX, hl, hE⟩ := H
  exact zRf_gen hn h [p0, p1] (Nat.le_of_ble_eq_true rfl) zXk_r38 zXm_r38 rfl rfl (Rl := fun rv w' => zz_M l zTs D zcl zFK cy z0 sp (zTys cy) G zYN zCN zMQ zRT 470 38 [.ref 171, .int p0, .int p1] w rv w') (List.forall_mem_cons.mpr ⟨zPP_cm (zk_liftC zHX_ok (by decide +kernel) (zCon_38 hG hP hW)) rfl rfl, (fun _ h => absurd h List.not_mem_nil)⟩)
theorem zRm_39 {l : Launch} {D : va_G} {cy : Nat → ClassId} {z0 : Nat} {sp : Nat → Nat} {G : State → Prop} (H : zHy l D cy z0 sp G) {n : Nat} (hn : n ≤ 511) {w : zz_W} (h : zIv zQM n 1 w) (p0 : Int32) : ∃ a w', zz_M l zTs D zcl zFK cy z0 sp (zTys cy) G zYN zCN zMQ zRT 470 39 [.ref 171, .int p0] w [.int a] w' ∧ zIv zQI (n + 1) 0 w' := by
  obtain ⟨hG, hP, hW, hsp0, hWk, hTX, hl, hE⟩ := H
  exact zRf_gen hn h [p0] (Nat.le_of_ble_eq_true rfl) zXk_r39 zXm_r39 rfl rfl (Rl := fun rv w' => zz_M l zTs D zcl zFK cy z0 sp (zTys cy) G zYN zCN zMQ zRT 470 39 [.ref 171, .int p0] w rv w') (List.forall_mem_cons.mpr ⟨zPP_cm (zk_liftC zHX_ok (by decide +kernel) (zCon_39 hG hP hW)) rfl rfl, (fun _ h => absurd h List.not_mem_nil)⟩)
theorem zRm_40 {l : Launch} {D : va_G} {cy : Nat → ClassId} {z0 : Nat} {sp : Nat → Nat} {G : State → Prop} (H : zHy l D cy z0 sp G) {n : Nat} (hn : n ≤ 511) {w : zz_W} (h : zIv zQM n 1 w) (p0 : Int32) : ∃ a w', zz_M l zTs D zcl zFK cy z0 sp (zTys cy) G zYN zCN zMQ zRT 470 40 [.ref 171, .int p0] w [.int a] w' ∧ zIv zQI (n + 1) 0 w' := by
  obtain ⟨hG, hP, hW, hsp0, hWk, hTX, hl, hE⟩ := H
  exact zRf_gen hn h [p0] (Nat.le_of_ble_eq_true rfl) zXk_r40 zXm_r40 rfl rfl (Rl := fun rv w' => zz_M l zTs D zcl zFK cy z0 sp (zTys cy) G zYN zCN zMQ zRT 470 40 [.ref 171, .int p0] w rv w') (List.forall_mem_cons.mpr ⟨zPP_cm (zk_liftC zHX_ok (by decide +kernel) (zCon_40 hG hP hW)) rfl rfl, (fun _ h => absurd h List.not_mem_nil)⟩)
theorem zRm_41 {l : Launch} {D : va_G} {cy : Nat → ClassId} {z0 : Nat} {sp : Nat → Nat} {G : State → Prop} (H : zHy l D cy z0 sp G) {n : Nat} (hn : n ≤ 511) {w : zz_W} (h : zIv zQM n 1 w) (p0 : Int32) : ∃ a w', zz_M l zTs D zcl zFK cy z0 sp (zTys cy) G zYN zCN zMQ zRT 470 41 [.ref 171, .int p0] w [.int a] w' ∧ zIv zQI (n + 1) 0 w' := by
  obtain ⟨hG, hP, hW, hsp0, hWk, hTX, hl, hE⟩ := H
  exact zRf_gen hn h [p0] (Nat.le_of_ble_eq_true rfl) zXk_r41 zXm_r41 rfl rfl (Rl := fun rv w' => zz_M l zTs D zcl zFK cy z0 sp (zTys cy) G zYN zCN zMQ zRT 470 41 [.ref 171, .int p0] w rv w') (List.forall_mem_cons.mpr ⟨zPP_cm (zk_liftC zHX_ok (by decide +kernel) (zCon_41 hG hP hW)) rfl rfl, (fun _ h => absurd h List.not_mem_nil)⟩)
theorem zRm_42 {l : Launch} {D : va_G} {cy : Nat → ClassId} {z0 : Nat} {sp : Nat → Nat} {G : State → Prop} (H : zHy l D cy z0 sp G) {n : Nat} (hn : n ≤ 511) {w : zz_W} (h : zIv zQM n 1 w) (p0 : Int32) : ∃ a w', zz_M l zTs D zcl zFK cy z0 sp (zTys cy) G zYN zCN zMQ zRT 470 42 [.ref 171, .int p0] w [.int a] w' ∧ zIv zQI (n + 1) 0 w' := by
  obtain ⟨hG, hP, hW, hsp0, hWk, hTX, hl, hE⟩ := H
  exact zRf_gen hn h [p0] (Nat.le_of_ble_eq_true rfl) zXk_r42 zXm_r42 rfl rfl (Rl := fun rv w' => zz_M l zTs D zcl zFK cy z0 sp (zTys cy) G zYN zCN zMQ zRT 470 42 [.ref 171, .int p0] w rv w') (List.forall_mem_cons.mpr ⟨zPP_cm (zk_liftC zHX_ok (by decide +kernel) (zCon_42 hG hP hW)) rfl rfl, (fun _ h => absurd h List.not_mem_nil)⟩)
theorem zRm_43 {l : Launch} {D : va_G} {cy : Nat → ClassId} {z0 : Nat} {sp : Nat → Nat} {G : State → Prop} (H : zHy l D cy z0 sp G) {n : Nat} (hn : n ≤ 511) {w : zz_W} (h : zIv zQM n 1 w) (p0 : Int32) : ∃ a w', zz_M l zTs D zcl zFK cy z0 sp (zTys cy) G zYN zCN zMQ zRT 470 43 [.ref 171, .int p0] w [.int a] w' ∧ zIv zQI (n + 1) 0 w' := by
  obtain ⟨hG, hP, hW, hsp0, hWk, hTX, hl, hE⟩ := H
  exact zRf_gen hn h [p0] (Nat.le_of_ble_eq_true rfl) zXk_r43 zXm_r43 rfl rfl (Rl := fun rv w' => zz_M l zTs D zcl zFK cy z0 sp (zTys cy) G zYN zCN zMQ zRT 470 43 [.ref 171, .int p0] w rv w') (List.forall_mem_cons.mpr ⟨zPP_cm (zk_liftC zHX_ok (by decide +kernel) (zCon_43 hG hP hW)) rfl rfl, (fun _ h => absurd h List.not_mem_nil)⟩)
theorem zRm_44 {l : Launch} {D : va_G} {cy : Nat → ClassId} {z0 : Nat} {sp : Nat → Nat} {G : State → Prop} (H : zHy l D cy z0 sp G) {n : Nat} (hn : n ≤ 511) {w : zz_W} (h : zIv zQM n 1 w) (p0 : Int32) (p1 : Int32) : ∃ a w', zz_M l zTs D zcl zFK cy z0 sp (zTys cy) G zYN zCN zMQ zRT 470 44 [.ref 171, .int p0, .int p1] w [.int a] w' ∧ zIv zQI (n + 1) 0 w' := by
  obtain ⟨hG, hP, hW, hsp0, hWk, hTX, hl, hE⟩ := H
  exact zRf_gen hn h [p0, p1] (Nat.le_of_ble_eq_true rfl) zXk_r44 zXm_r44 rfl rfl (Rl := fun rv w' => zz_M l zTs D zcl zFK cy z0 sp (zTys cy) G zYN zCN zMQ zRT 470 44 [.ref 171, .int p0, .int p1] w rv w') (List.forall_mem_cons.mpr ⟨zPP_cm (zk_liftC zHX_ok (by decide +kernel) (zCon_44 hG hP hW)) rfl rfl, (fun _ h => absurd h List.not_mem_nil)⟩)
theorem zRm_45 {l : Launch} {D : va_G} {cy : Nat → ClassId} {z0 : Nat} {sp : Nat → Nat} {G : State → Prop} (H : zHy l D cy z0 sp G) {n : Nat} (hn : n ≤ 511) {w : zz_W} (h : zIv zQM n 1 w) (p0 : Int32) : ∃ a w', zz_M l zTs D zcl zFK cy z0 sp (zTys cy) G zYN zCN zMQ zRT 470 45 [.ref 171, .int p0] w [.int a] w' ∧ zIv zQI (n + 1) 0 w' := by
  obtain ⟨hG, hP, hW, hsp0, hWk, hTX, hl, hE⟩ := H
  exact zRf_gen hn h [p0] (Nat.le_of_ble_eq_true rfl) zXk_r45 zXm_r45 rfl rfl (Rl := fun rv w' => zz_M l zTs D zcl zFK cy z0 sp (zTys cy) G zYN zCN zMQ zRT 470 45 [.ref 171, .int p0] w rv w') (List.forall_mem_cons.mpr ⟨zPP_cm (zk_liftC zHX_ok (by decide +kernel) (zCon_45 hG hP hW)) rfl rfl, (fun _ h => absurd h List.not_mem_nil)⟩)
theorem zRm_46 {l : Launch} {D : va_G} {cy : Nat → ClassId} {z0 : Nat} {sp : Nat → Nat} {G : State → Prop} (H : zHy l D cy z0 sp G) {n : Nat} (hn : n ≤ 511) {w : zz_W} (h : zIv zQM n 1 w) (p0 : Int32) : ∃ a w', zz_M l zTs D zcl zFK cy z0 sp (zTys cy) G zYN zCN zMQ zRT 470 46 [.ref 171, .int p0] w [.int a] w' ∧ zIv zQI (n + 1) 0 w' := by
  obtain ⟨hG, hP, hW, hsp0, hWk, hTX, hl, hE⟩ := H
  exact zRf_gen hn h [p0] (Nat.le_of_ble_eq_true rfl) zXk_r46 zXm_r46 rfl rfl (Rl := fun rv w' => zz_M l zTs D zcl zFK cy z0 sp (zTys cy) G zYN zCN zMQ zRT 470 46 [.ref 171, .int p0] w rv w') (List.forall_mem_cons.mpr ⟨zPP_cm (zk_liftC zHX_ok (by decide +kernel) (zCon_46 hG hP hW)) rfl rfl, (fun _ h => absurd h List.not_mem_nil)⟩)
theorem zRm_47 {l : Launch} {D : va_G} {cy : Nat → ClassId} {z0 : Nat} {sp : Nat → Nat} {G : State → Prop} (H : zHy l D cy z0 sp G) {n : Nat} (hn : n ≤ 511) {w : zz_W} (h : zIv zQM n 1 w) (p0 : Int32) : ∃ a w', zz_M l zTs D zcl zFK cy z0 sp (zTys cy) G zYN zCN zMQ zRT 470 47 [.ref 171, .int p0] w [.int a] w' ∧ zIv zQI (n + 1) 0 w' := by
  obtain ⟨hG, hP, hW, hsp0, hWk, hTX, hl, hE⟩ := H
  exact zRf_gen hn h [p0] (Nat.le_of_ble_eq_true rfl) zXk_r47 zXm_r47 rfl rfl (Rl := fun rv w' => zz_M l zTs D zcl zFK cy z0 sp (zTys cy) G zYN zCN zMQ zRT 470 47 [.ref 171, .int p0] w rv w') (List.forall_mem_cons.mpr ⟨zPP_cm (zk_liftC zHX_ok (by decide +kernel) (zCon_47 hG hP hW)) rfl rfl, (fun _ h => absurd h List.not_mem_nil)⟩)
theorem zIv_IX {X : zk_St} {n e : Nat} {w : zz_W} (h : zIv X n e w) : zk_I 64 zHX w := zIv_I h
theorem zQPr_w9 : zl_w9 zQPr = true := by decide +kernel
theorem zQPx_w9 : zl_w9 zQPx = true := by decide +kernel
theorem zQPx_ok : zkt_ok zHX (zk_sux zTL zTM zXS) zQPx = true := by decide +kernel
theorem zQPn_ok : zkt_ok zHX (zk_sux zTL zTM zXS) zQPn = true := by decide +kernel
theorem zQPm_ok : zkt_ok zHX (zk_sux zTL zTM zXS) zQPm = true := by decide +kernel
theorem zQM_wB : zl_wB zQM = true := by decide +kernel
theorem zQPr_ok : zkt_ok zHX (zk_sux zTL zTM zXS) zQPr = true := by decide +kernel
theorem zCm_1 {l : Launch} {D : va_G} {cy : Nat → ClassId} {z0 : Nat} {sp : Nat → Nat} {G : State → Prop} (H : zHy l D cy z0 sp G) {n : Nat} (hn : n ≤ 511) {w : zz_W} (h : zIv zQI n 0 w) (p0 : Int32) : ∃ rv w', zRl l D cy z0 sp G 469 1 [("java/lang/IllegalArgumentException", 14), ("java/lang/UnsupportedOperationException", 18)] [.ref 0, .int p0] w rv w' ∧ (zJv zQPr n 0 p0 w' ∨ zJv zQPx n 0 p0 w') := by
  obtain ⟨hG, hP, hW, hsp0, hWk, hTX, hl, hE⟩ := H
  have hw : w.1 < 16 * 64 := by have := h.2.2.1; omega
  obtain ⟨t, t0, tp, g⟩ := zG_arg1 hn h p0
  obtain ⟨rv, w', r1, ⟨s', Q, q1, q2, q3⟩, hb, d1, d2⟩ := zG_call (n := n) (e := 0) g h.2.1 h.2.2.1 h.2.2.2 (by omega) (pre := [zl_sym 0, zl_sym zNQ]) (by decide +kernel) zXk_c1 zXm_c1 rfl (Rl := zRl l D cy z0 sp G 469 1 [("java/lang/IllegalArgumentException", 14), ("java/lang/UnsupportedOperationException", 18)] [.ref 0, .int p0] w) (List.forall_mem_cons.mpr ⟨zPP_px (zk_liftP zHX_ok (by decide +kernel) (zPX_1_x0 hG hP hW hTX)) rfl (by decide) (by decide +kernel) rfl rfl hw, List.forall_mem_cons.mpr ⟨zPP_px (zk_liftP zHX_ok (by decide +kernel) (zPX_1_x1 hG hP hW hTX)) rfl (by decide) (by decide +kernel) rfl rfl hw, (fun _ h => absurd h List.not_mem_nil)⟩⟩)
  have c1 := h.2.2.1
  have c2 := h.2.2.2
  refine ⟨rv, w', r1, ?_⟩
  rcases List.mem_cons.mp q1 with e | q1
  · subst e
    exact Or.inl ⟨⟨s', ⟨(q3 0 _ rfl).trans (by rw [zl_sym_ev, t0]), (q3 1 _ rfl).trans (by rw [zl_sym_ev, tp])⟩, zG2_drop (L := zQPr.1.1) (T := zQPr.1.2.1 ++ [(0, 0, zl_sym zQPr.1.2.2.2.1.length)]) (F := zQPr.1.2.2.1) (B := zQPr.1.2.2.2.1) (X := [(-2147483648, 2147483647)]) (C := zQPr.1.2.2.2.2) (E := zQPr.2.1) (K := zQPr.2.2) q2⟩, hb, by omega, by omega⟩
  · have e := List.mem_singleton.mp q1
    subst e
    exact Or.inr ⟨⟨s', ⟨(q3 0 _ rfl).trans (by rw [zl_sym_ev, t0]), (q3 1 _ rfl).trans (by rw [zl_sym_ev, tp])⟩, zG2_no (L := zQPx.1.1) (T := zQPx.1.2.1) (F := zQPx.1.2.2.1) (B := zQPx.1.2.2.2.1) (C := zQPx.1.2.2.2.2) (E := zQPx.2.1) (K := zQPx.2.2) q2⟩, hb, by omega, by omega⟩
theorem zHk_1 {l : Launch} {D : va_G} {cy : Nat → ClassId} {z0 : Nat} {sp : Nat → Nat} {G : State → Prop} (H : zHy l D cy z0 sp G) {n : Nat} (hn : n ≤ 511) {w : zz_W} (h : zIv zQI n 0 w) (p0 : Int32) : ∃ r w', zz_MH l zTs D zcl zFK cy z0 sp (zTys cy) G zy_800 method_3_code 4 (some .int) [(0, 9, 12, 13), (0, 9, 15, 15)] 470 [.ref 0, .int p0, .ref 328] w [.int r] w' ∧ (zJv zQPr n 1 p0 w' ∨ zJv zQPx n 1 p0 w') := by
  have h0 := zI_ic0 (zIv_I h)
  obtain ⟨rv, w', hR, hI⟩ := zCm_1 H hn h p0
  obtain ⟨hG, hP, -, -, -, -, -, hE⟩ := H
  have hI0 : zk_I 64 zHX w' := by rcases hI with hI | hI <;> exact zJv_I hI
  rcases hR with ⟨a, rfl, hM⟩ | ⟨rfl, x, hx, hM⟩
  · obtain ⟨N, hN⟩ := zI_328 hI0
    refine ⟨_, _, zHr_800 hG hP hI0.1 hN h0 hM, ?_⟩
    rcases hI with hI | hI
    · exact Or.inl (zJv_1 (zJv_up zQPr_w9 hI (by omega)))
    · exact Or.inr (zJv_1 (zJv_up zQPx_w9 hI (by omega)))
  · have hJ : ∀ ci, zJv zQPr n 1 p0 (zz_pu w' (3, ci, 0, 0) 6) ∨ zJv zQPx n 1 p0 (zz_pu w' (3, ci, 0, 0) 6) := fun ci => by
      rcases hI with hI | hI
      · exact Or.inl (zJv_pu zQPr_ok hI (by omega))
      · exact Or.inr (zJv_pu zQPx_ok hI (by omega))
    rcases List.mem_cons.mp hx with e | hx
    · subst e
      exact ⟨_, _, zHx_800_0 hG hP hE h0 hM, hJ _⟩
    · skip
      rcases List.mem_cons.mp hx with e | hx
      · subst e
        exact ⟨_, _, zHx_800_1 hG hP hE h0 hM, hJ _⟩
      · skip
        exact absurd hx List.not_mem_nil
theorem zRm_25 {l : Launch} {D : va_G} {cy : Nat → ClassId} {z0 : Nat} {sp : Nat → Nat} {G : State → Prop} (H : zHy l D cy z0 sp G) {n : Nat} (hn : n ≤ 511) {w : zz_W} (p0 : Int32) (h : zJv zQPr n 1 p0 w ∨ zJv zQPx n 1 p0 w) : ∃ a w', zz_M l zTs D zcl zFK cy z0 sp (zTys cy) G zYN zCN zMQ zRT 470 25 [.ref 171, .int p0] w [.int a] w' ∧ zIv zQI (n + 1) 0 w' := by
  obtain ⟨hG, hP, hW, hsp0, hWk, hTX, hl, hE⟩ := H
  rcases h with h | h
  · exact zRf_put hn h rfl (by decide +kernel) zXk_r25r zXm_r25r (Rl := fun rv w' => zz_M l zTs D zcl zFK cy z0 sp (zTys cy) G zYN zCN zMQ zRT 470 25 [.ref 171, .int p0] w rv w') (List.forall_mem_cons.mpr ⟨zPP_cm (zk_liftC zHX_ok (by decide +kernel) (zCon_25 hG hP hW)) rfl rfl, (fun _ h => absurd h List.not_mem_nil)⟩)
  · exact zRf_put hn h rfl (by decide +kernel) zXk_r25x zXm_r25x (Rl := fun rv w' => zz_M l zTs D zcl zFK cy z0 sp (zTys cy) G zYN zCN zMQ zRT 470 25 [.ref 171, .int p0] w rv w') (List.forall_mem_cons.mpr ⟨zPP_cm (zk_liftC zHX_ok (by decide +kernel) (zCon_25 hG hP hW)) rfl rfl, (fun _ h => absurd h List.not_mem_nil)⟩)
theorem zHk_2 {l : Launch} {D : va_G} {cy : Nat → ClassId} {z0 : Nat} {sp : Nat → Nat} {G : State → Prop} (H : zHy l D cy z0 sp G) {n : Nat} (hn : n ≤ 511) {w : zz_W} (h : zIv zQI n 0 w) (p0 : Int32) : ∃ r w', zz_MH l zTs D zcl zFK cy z0 sp (zTys cy) G zy_801 method_4_code 3 (some .int) [(0, 5, 8, 13)] 470 [.ref 0, .int p0] w [.int r] w' ∧ ((r = Int32.ofNat 0 ∧ zJv zQPe n 1 p0 w') ∨ (r = Int32.ofNat 1 ∧ (zJv zQPn n 1 p0 w' ∨ zJv zQPm n 1 p0 w'))) := by
  have h0 := zI_ic0 (zIv_I h)
  have hw : w.1 < 16 * 64 := by have := h.2.2.1; omega
  obtain ⟨t, t0, tp, g⟩ := zG_arg1 hn h p0
  obtain ⟨hG, hP, hW, hsp0, hWk, hTX, hl, hE⟩ := H
  have c1 := h.2.2.1
  have c2 := h.2.2.2
  by_cases kn : p0.toInt < 0
  · skip
    obtain ⟨rv, w', r1, ⟨s', Q, q1, q2, q3⟩, hb, d1, d2⟩ := zG_call (n := n) (e := 0) (zG2_C (C := [zl_sub (zl_con (-1)) (zl_sym zNQ)]) g (List.forall_mem_cons.mpr ⟨by rw [zl_sub_ev, zl_con_ev, zl_sym_ev, tp]; omega, (fun _ h => absurd h List.not_mem_nil)⟩)) h.2.1 h.2.2.1 h.2.2.2 (by omega) (pre := [zl_sym 0, zl_sym zNQ]) (by decide +kernel) zXk_c2n zXm_c2n rfl (Rl := fun rv w' => rv = [] ∧ ∃ x ∈ ([("java/lang/IllegalArgumentException", 14)] : List (String × Nat)), zz_MX l zTs D zcl zFK cy z0 sp (zTys cy) G zYN zCN zMQ zRT 469 2 [.ref 0, .int p0] w x.1 (zz_pu w' (3, x.2, 0, 0) 6)) (List.forall_mem_cons.mpr ⟨zPP_nx (zk_liftP zHX_ok (by decide +kernel) (zPX_2_x0 hG hP hW hTX)) rfl (by decide) (by decide +kernel) rfl hw, (fun _ h => absurd h List.not_mem_nil)⟩)
    have e := List.mem_singleton.mp q1
    subst e
    obtain ⟨-, x, hx, hM⟩ := r1
    have e := List.mem_singleton.mp hx
    subst e
    exact ⟨_, _, zHx_801_0 hG hP hE h0 hM, Or.inr ⟨rfl, Or.inl (zJv_pu zQPn_ok ⟨⟨s', ⟨(q3 0 _ rfl).trans (by rw [zl_sym_ev, t0]), (q3 1 _ rfl).trans (by rw [zl_sym_ev, tp])⟩, zG2_no (L := zQPn.1.1) (T := zQPn.1.2.1) (F := zQPn.1.2.2.1) (B := zQPn.1.2.2.2.1) (C := zQPn.1.2.2.2.2) (E := zQPn.2.1) (K := zQPn.2.2) q2⟩, hb, by omega, by omega⟩ (by omega))⟩⟩
  by_cases km : t 1 < p0.toInt
  · skip
    obtain ⟨rv, w', r1, ⟨s', Q, q1, q2, q3⟩, hb, d1, d2⟩ := zG_call (n := n) (e := 0) (zG2_C (C := [zl_sub (zl_sub (zl_sym zNQ) (zl_sym 1)) (zl_con 1)]) g (List.forall_mem_cons.mpr ⟨by rw [zl_sub_ev, zl_sub_ev, zl_con_ev, zl_sym_ev, zl_sym_ev, tp]; omega, (fun _ h => absurd h List.not_mem_nil)⟩)) h.2.1 h.2.2.1 h.2.2.2 (by omega) (pre := [zl_sym 0, zl_sym zNQ]) (by decide +kernel) zXk_c2m zXm_c2m rfl (Rl := fun rv w' => rv = [] ∧ ∃ x ∈ ([("java/lang/IllegalArgumentException", 14)] : List (String × Nat)), zz_MX l zTs D zcl zFK cy z0 sp (zTys cy) G zYN zCN zMQ zRT 469 2 [.ref 0, .int p0] w x.1 (zz_pu w' (3, x.2, 0, 0) 6)) (List.forall_mem_cons.mpr ⟨zPP_nx (zk_liftP zHX_ok (by decide +kernel) (zPX_2_x1 hG hP hW hTX)) rfl (by decide) (by decide +kernel) rfl hw, (fun _ h => absurd h List.not_mem_nil)⟩)
    have e := List.mem_singleton.mp q1
    subst e
    obtain ⟨-, x, hx, hM⟩ := r1
    have e := List.mem_singleton.mp hx
    subst e
    exact ⟨_, _, zHx_801_0 hG hP hE h0 hM, Or.inr ⟨rfl, Or.inr (zJv_pu zQPm_ok ⟨⟨s', ⟨(q3 0 _ rfl).trans (by rw [zl_sym_ev, t0]), (q3 1 _ rfl).trans (by rw [zl_sym_ev, tp])⟩, zG2_no (L := zQPm.1.1) (T := zQPm.1.2.1) (F := zQPm.1.2.2.1) (B := zQPm.1.2.2.2.1) (C := zQPm.1.2.2.2.2) (E := zQPm.2.1) (K := zQPm.2.2) q2⟩, hb, by omega, by omega⟩ (by omega))⟩⟩
  obtain ⟨rv, w', r1, ⟨s', Q, q1, q2, q3⟩, hb, d1, d2⟩ := zG_call (n := n) (e := 0) (zG2_C (C := [zl_sym zNQ, zl_sub (zl_sym 1) (zl_sym zNQ)]) g (List.forall_mem_cons.mpr ⟨by rw [zl_sym_ev, tp]; omega, List.forall_mem_cons.mpr ⟨by rw [zl_sub_ev, zl_sym_ev, zl_sym_ev, tp]; omega, (fun _ h => absurd h List.not_mem_nil)⟩⟩)) h.2.1 h.2.2.1 h.2.2.2 (by omega) (pre := [zl_sym 0, zl_sym zNQ]) (by decide +kernel) zXk_c2e zXm_c2e rfl (Rl := fun rv w' => zz_M l zTs D zcl zFK cy z0 sp (zTys cy) G zYN zCN zMQ zRT 469 2 [.ref 0, .int p0] w rv w') (List.forall_mem_cons.mpr ⟨zPP_cm (zk_liftC zHX_ok (by decide +kernel) (zCon_2 hG hP hW)) rfl rfl, (fun _ h => absurd h List.not_mem_nil)⟩)
  have e := List.mem_singleton.mp q1
  subst e
  have e := zG2_t0 q2 rfl
  subst e
  exact ⟨_, _, zHr_801 hG hP h0 r1, Or.inl ⟨rfl, zJv_1 ⟨⟨s', ⟨(q3 0 _ rfl).trans (by rw [zl_sym_ev, t0]), (q3 1 _ rfl).trans (by rw [zl_sym_ev, tp])⟩, zG2_no (L := zQPe.1.1) (T := zQPe.1.2.1) (F := zQPe.1.2.2.1) (B := zQPe.1.2.2.2.1) (C := zQPe.1.2.2.2.2) (E := zQPe.2.1) (K := zQPe.2.2) q2⟩, hb, by omega, by omega⟩⟩⟩
theorem zRm_26 {l : Launch} {D : va_G} {cy : Nat → ClassId} {z0 : Nat} {sp : Nat → Nat} {G : State → Prop} (H : zHy l D cy z0 sp G) {n : Nat} (hn : n ≤ 511) {w : zz_W} (p0 k : Int32) (h : (k = Int32.ofNat 0 ∧ zJv zQPe n 1 p0 w) ∨ (k = Int32.ofNat 1 ∧ (zJv zQPn n 1 p0 w ∨ zJv zQPm n 1 p0 w))) : ∃ w1 w2, zz_M l zTs D zcl zFK cy z0 sp (zTys cy) G zYN zCN zMQ zRT 470 26 [.ref 171, .int p0] w [] w1 ∧ zz_ic w1 171 0 = true ∧ zz_M l zTs D zcl zFK cy z0 sp (zTys cy) G zYN zCN zMQ zRT 470 48 [.ref 171] w1 [.int k] w2 ∧ zIv zQI (n + 1) 0 w2 := by
  obtain ⟨hG, hP, hW, hsp0, hWk, hTX, hl, hE⟩ := H
  rcases h with ⟨ek, h⟩ | ⟨ek, h | h⟩
  · obtain ⟨w1, w2, a, r1, r2, r3, r4, r5⟩ := zRf_end hn h rfl (by decide +kernel) (v := 0) zXk_r26e zXm_r26e zXk_r480 zXm_r480 (Rl := fun rv w' => zz_M l zTs D zcl zFK cy z0 sp (zTys cy) G zYN zCN zMQ zRT 470 26 [.ref 171, .int p0] w rv w') (List.forall_mem_cons.mpr ⟨zPP_cm (zk_liftC zHX_ok (by decide +kernel) (zCon_26 hG hP hW)) rfl rfl, (fun _ h => absurd h List.not_mem_nil)⟩) (Rl2 := fun w1 rv w' => zz_M l zTs D zcl zFK cy z0 sp (zTys cy) G zYN zCN zMQ zRT 470 48 [.ref 171] w1 rv w') (fun w1 => List.forall_mem_cons.mpr ⟨zPP_cm (zk_liftC zHX_ok (by decide +kernel) (zCon_48 hG hP hW)) rfl rfl, (fun _ h => absurd h List.not_mem_nil)⟩)
    have e : a = k := Int32.toInt_inj.mp (by rw [r4, ek]; rfl)
    subst e
    exact ⟨w1, w2, r1, r2, r3, r5⟩
  · obtain ⟨w1, w2, a, r1, r2, r3, r4, r5⟩ := zRf_end hn h rfl (by decide +kernel) (v := 1) zXk_r26n zXm_r26n zXk_r481 zXm_r481 (Rl := fun rv w' => zz_M l zTs D zcl zFK cy z0 sp (zTys cy) G zYN zCN zMQ zRT 470 26 [.ref 171, .int p0] w rv w') (List.forall_mem_cons.mpr ⟨zPP_cm (zk_liftC zHX_ok (by decide +kernel) (zCon_26 hG hP hW)) rfl rfl, (fun _ h => absurd h List.not_mem_nil)⟩) (Rl2 := fun w1 rv w' => zz_M l zTs D zcl zFK cy z0 sp (zTys cy) G zYN zCN zMQ zRT 470 48 [.ref 171] w1 rv w') (fun w1 => List.forall_mem_cons.mpr ⟨zPP_cm (zk_liftC zHX_ok (by decide +kernel) (zCon_48 hG hP hW)) rfl rfl, (fun _ h => absurd h List.not_mem_nil)⟩)
    have e : a = k := Int32.toInt_inj.mp (by rw [r4, ek]; rfl)
    subst e
    exact ⟨w1, w2, r1, r2, r3, r5⟩
  · obtain ⟨w1, w2, a, r1, r2, r3, r4, r5⟩ := zRf_end hn h rfl (by decide +kernel) (v := 1) zXk_r26m zXm_r26m zXk_r481 zXm_r481 (Rl := fun rv w' => zz_M l zTs D zcl zFK cy z0 sp (zTys cy) G zYN zCN zMQ zRT 470 26 [.ref 171, .int p0] w rv w') (List.forall_mem_cons.mpr ⟨zPP_cm (zk_liftC zHX_ok (by decide +kernel) (zCon_26 hG hP hW)) rfl rfl, (fun _ h => absurd h List.not_mem_nil)⟩) (Rl2 := fun w1 rv w' => zz_M l zTs D zcl zFK cy z0 sp (zTys cy) G zYN zCN zMQ zRT 470 48 [.ref 171] w1 rv w') (fun w1 => List.forall_mem_cons.mpr ⟨zPP_cm (zk_liftC zHX_ok (by decide +kernel) (zCon_48 hG hP hW)) rfl rfl, (fun _ h => absurd h List.not_mem_nil)⟩)
    have e : a = k := Int32.toInt_inj.mp (by rw [r4, ek]; rfl)
    subst e
    exact ⟨w1, w2, r1, r2, r3, r5⟩
theorem zCm_5 {l : Launch} {D : va_G} {cy : Nat → ClassId} {z0 : Nat} {sp : Nat → Nat} {G : State → Prop} (H : zHy l D cy z0 sp G) {n : Nat} (hn : n ≤ 511) {w : zz_W} (h : zIv zQI n 0 w) : ∃ w', zz_M l zTs D zcl zFK cy z0 sp (zTys cy) G zYN zCN zMQ zRT 470 5 [.ref 0] w [] w' ∧ zIv zQM n 1 w' := by
  obtain ⟨hG, hP, hW, hsp0, hWk, hTX, hl, hE⟩ := H
  obtain ⟨w', h1, h2⟩ := zCl_v hn h zXk_c5 zXm_c5 (Rl := fun rv w' => zz_M l zTs D zcl zFK cy z0 sp (zTys cy) G zYN zCN zMQ zRT 470 5 [.ref 0] w rv w') (List.forall_mem_cons.mpr ⟨zPP_cm (zk_liftC zHX_ok (by decide +kernel) (zCon_5 hG hP hW)) rfl rfl, (fun _ h => absurd h List.not_mem_nil)⟩)
  exact ⟨w', h1, zIv_1 h2⟩
theorem zRm_29 {l : Launch} {D : va_G} {cy : Nat → ClassId} {z0 : Nat} {sp : Nat → Nat} {G : State → Prop} (H : zHy l D cy z0 sp G) {n : Nat} (hn : n ≤ 511) {w : zz_W} (h : zIv zQM n 1 w) : ∃ w', zz_M l zTs D zcl zFK cy z0 sp (zTys cy) G zYN zCN zMQ zRT 470 29 [.ref 171] w [] w' ∧ zIv zQI (n + 1) 0 w' := by
  obtain ⟨hG, hP, hW, hsp0, hWk, hTX, hl, hE⟩ := H
  exact zRf_v hn h zXk_r29 zXm_r29 (Rl := fun rv w' => zz_M l zTs D zcl zFK cy z0 sp (zTys cy) G zYN zCN zMQ zRT 470 29 [.ref 171] w rv w') (List.forall_mem_cons.mpr ⟨zPP_cm (zk_liftC zHX_ok (by decide +kernel) (zCon_29 hG hP hW)) rfl rfl, (fun _ h => absurd h List.not_mem_nil)⟩)
theorem zHk_20 {l : Launch} {D : va_G} {cy : Nat → ClassId} {z0 : Nat} {sp : Nat → Nat} {G : State → Prop} (H : zHy l D cy z0 sp G) {n : Nat} (hn : n ≤ 511) {w : zz_W} (h : zIv zQI n 0 w) (p0 p1 : Int32) : ∃ r w', zz_MH l zTs D zcl zFK cy z0 sp (zTys cy) G zy_818 method_21_code 5 (some .int) [(0, 10, 13, 73)] 470 [.ref 0, .int p0, .int p1, .ref 328] w [.int r] w' ∧ zIv zQM n 1 w' := by
  have hI := zIv_I h
  have h0 := zI_ic0 hI
  have hw : w.1 < 16 * 64 := by have := h.2.2.1; omega
  have hm := zIv_M hn h
  obtain ⟨hG, hP, hW, hsp0, hWk, hTX, hl, hE⟩ := H
  by_cases hp : p1 < 0
  · have hX : zz_MX l zTs D zcl zFK cy z0 sp (zTys cy) G zYN zCN zMQ zRT 469 20 [.ref 0, .int p0, .int p1] w "java/lang/IndexOutOfBoundsException" (zz_pu w (3, 17, 0, 0) 6) := by
      have T := zt_20 (l := l) (D := D) (cy := cy) (z0 := z0) (sp := sp) (G := G) (d := 468) zz_k0_KS hG hP
      have b := zz_B_rf (l := l) (Ts := zTs) (D := D) (cl := zcl) (fk := zFK) (cy := cy) (z0 := z0) (sp := sp) (tys := zTys cy) (G := G) (own := "ToolMill") (mn := "listing") (nL := 3) (cc := prog_1_method_21_code) (d := 468) ((0, lv_args 0 [.ref 0, .int p0, .int p1], [], w) : zz_F)
      replace b := zz_fw b T (rfl : zz_ent zP_20 0 = (0, za_iload 2 1)) (ze_iload rfl)
      replace b := zz_fw b T (rfl : zz_ent zP_20 1 = (0, za_if_ge 14 4)) (ze_if_ge_f (fun q => Int32.not_lt.mpr q hp))
      exact zz_MX_B rfl rfl rfl rfl (by decide +kernel) (zz_lb rfl) (zz_TX_B b (zth_20_4 hl hP hE (by decide) (zz_lb rfl) hsp0 hI.1 hw))
    exact ⟨_, _, zHx_818_0 hG hP hE h0 hX, zIv_pu zQM_ok hm (by omega)⟩
  · obtain ⟨k, hk, rfl⟩ := zl_i32 p1 hp
    obtain ⟨v, N, M, c, r0, h64⟩ := h.2.1
    obtain ⟨l0, k1, k2, k3, -, -, k4, -⟩ := hI.2.2.2 0 (by show (3 : Nat) ≠ 9; decide)
    have k1 : (zz_g w 0).1 = 3 := k1
    have k2 : (zz_g w 0).2.1 = 1 := k2
    have k3 : (zz_g w 0).2.2.1 = 17 := k3
    have g0 : zz_has w 0 (3, 1, (zz_g w 0).2.2.1, (zz_g w 0).2.2.2) := ⟨l0, by decide, zvk_3 (a := 3) (b := 1) (n := (zz_g w 0).2.2.1) (M := 0) (by show ((zz_g w 0).1, (zz_g w 0).2.1, (zz_g w 0).2.2.1) = (3, 1, (zz_g w 0).2.2.1); rw [k1, k2])⟩
    have h11 : zz_at 64 (zz_g w 0).2.2.2 11 = 13 := (k4 rfl 11 _ rfl).2 rfl
    have hF : ∃ a w', zz_M l zTs D zcl zFK cy z0 sp (zTys cy) G zYN zCN zMQ zRT 469 20 [.ref 0, .int p0, .int (Int32.ofNat k)] w [.int a] w' ∧ ∃ T, zB w T w' := by
      by_cases hf : ∃ f, zcK p0 f
      · obtain ⟨f, hf⟩ := hf
        obtain ⟨w', m, hB⟩ := zMcL_y (C0 := zz_g w 0) hG hP hsp0 r0 rfl h64 g0 (by rw [k3]; decide) h11 hf hk
        exact ⟨_, w', m, _, hB⟩
      · obtain ⟨w', m, hB⟩ := zMcL_n (C0 := zz_g w 0) hG hP hsp0 r0 rfl h64 g0 (by rw [k3]; decide) h11 (fun f q => hf ⟨f, q⟩) hk
        exact ⟨_, w', m, _, hB⟩
    obtain ⟨a, w', hM, T, hB⟩ := hF
    have hJ := zIv_B zQM_wB hn hm hB
    obtain ⟨N', hN⟩ := zI_328 (zIv_I hJ)
    exact ⟨_, _, zHr_818 hG hP (zIv_I hJ).1 hN h0 hM, zIv_up zQM_w9 hJ (by omega)⟩
end
section
/-! the law's cases -/
section ZGV
variable {l : Launch} {Ts : List Cond} {D : va_G} {cl : List vw_C} {fk : Nat → Nat → Nat} {cy : Nat → ClassId} {z0 : Nat} {sp : Nat → Nat} {tys : List (ClassId × FieldType)} {G : State → Prop} {own mn : String} {nL : Nat} {cc : ByteArray} {d : Nat} {pc : Nat}
variable {yn : Nat → MethodName} {cn : Nat → ByteArray} {ml : Nat → Nat} {rt : Nat → Option FieldType} {f : zz_F}
theorem zz_gVi {ci y na n r0 : Nat} {lv : List (Nat × Value)} {st as r : List Value} {v : Value} {w w' : zz_W} (b : zz_B l Ts D cl fk cy z0 sp tys G own mn nL cc d f (pc, lv, st, w)) (hO : ∀ K, zz_KS l D cl fk cy z0 sp tys G yn (fun y => Cond.code (yn y) (cn y) (ml y) (rt y) :: Ts) d K → zz_O l Ts D cl fk cy z0 sp tys G own mn nL cc d K pc (za_callV ci y na n))
    (hM : zz_M l Ts D cl fk cy z0 sp tys G yn cn ml rt d y (.ref r0 :: as) w [v] w') (hst : st = as.reverse ++ .ref r0 :: r) (hna : as.length = na) (hb : zz_ic w r0 ci = true) (hr : zz_cs r ≤ 8) : zz_B l Ts D cl fk cy z0 sp tys G own mn nL cc d f (n, lv, v :: r, w') :=
  zz_B_tr b (zz_O_B (hO _ (zz_k1_KS hM)) rfl (ze_callV hst hna hb hr hM.2.1 zz_k1_at))
theorem zz_gVv {ci y na n r0 : Nat} {lv : List (Nat × Value)} {st as r : List Value} {w w' : zz_W} (b : zz_B l Ts D cl fk cy z0 sp tys G own mn nL cc d f (pc, lv, st, w)) (hO : ∀ K, zz_KS l D cl fk cy z0 sp tys G yn (fun y => Cond.code (yn y) (cn y) (ml y) (rt y) :: Ts) d K → zz_O l Ts D cl fk cy z0 sp tys G own mn nL cc d K pc (za_callV ci y na n))
    (hM : zz_M l Ts D cl fk cy z0 sp tys G yn cn ml rt d y (.ref r0 :: as) w [] w') (hst : st = as.reverse ++ .ref r0 :: r) (hna : as.length = na) (hb : zz_ic w r0 ci = true) (hr : zz_cs r ≤ 8) : zz_B l Ts D cl fk cy z0 sp tys G own mn nL cc d f (n, lv, r, w') :=
  zz_B_tr b (zz_O_B (hO _ (zz_k1_KS hM)) rfl (ze_callV hst hna hb hr hM.2.1 zz_k1_at))
theorem zz_gH {n : Nat} {lv : List (Nat × Value)} {st r : List Value} {v : Value} {w w' : zz_W} (b : zz_B l Ts D cl fk cy z0 sp tys G own mn nL cc d f (pc, lv, st, w)) (h : zz_B l Ts D cl fk cy z0 sp tys G own mn nL cc d (pc, lv, st, w) (n, lv, [v] ++ r, w')) : zz_B l Ts D cl fk cy z0 sp tys G own mn nL cc d f (n, lv, v :: r, w') := zz_B_tr b h
end ZGV
theorem zl_kl {L : Nat} (xs : Nat → Int32) {j : Nat} (h : j < L) (hL : L ≤ 2048) : zg_el L xs 1999999 (zz_nI (Int32.ofNat j)) = some (zz_nI (xs j)) := by
  rw [zz_nI_ofNat (by omega)]
  exact if_pos ⟨rfl, h⟩
theorem zl_ij (a j : Nat) : Int32.ofNat a + Int32.ofNat j = Int32.ofNat (a + j) := (Int32.ofNat_add a j).symm
def zLv (i : Int32) : List (Nat × Value) := [(4, .int i), (3, .ref 328), (2, .ref 171), (1, .ref 0), (0, .ref 1999999)]
theorem zLc_0 {l : Launch} {D : va_G} {cy : Nat → ClassId} {z0 : Nat} {sp : Nat → Nat} {G : State → Prop} (H : zHy l D cy z0 sp G) {mn : String} {L n m : Nat} {xs : Nat → Int32} (hX : ∀ U, G U → va_T .int (sp 999999) L (fun j => .int (xs j)) (fun q : Nat => z0 ≤ q) U U.heap) (hL : L ≤ 2048) (hnm : n ≤ m) (hn4 : 4 * m + 4 ≤ L) {w : zz_W} (h : zIv zQI n 0 w) : ∃ w', zz_B l zTs D zcl zFK cy z0 sp (zTys cy) G "ToolMillLaw" mn 7 code 470 (39, zLv (Int32.ofNat (4 * m)), [.int (Int32.ofNat 0)], w) (899, zLv (Int32.ofNat (4 * m)), [], w') ∧ zIv zQI (n + 1) 0 w' := by
  have hn : n ≤ 511 := by omega
  have hL2 : L ≤ 2147483648 := by omega
  have h0 := zI_ic0 (zIv_I h)
  obtain ⟨k, w1, hH, h1⟩ := zHk_1 H hn h (xs (4 * m + 1))
  have h2 : zz_ic w1 171 0 = true := by rcases h1 with h1 | h1 <;> exact zI_ic171 (zJv_I h1)
  obtain ⟨v, w2, hR, hI⟩ := zRm_25 H hn (xs (4 * m + 1)) h1
  obtain ⟨hG, hP, -, hsp0, -, -, -, -⟩ := H
  refine ⟨w2, ?_, hI⟩
  have b := zz_B_rf (l := l) (Ts := zTs) (D := D) (cl := zcl) (fk := zFK) (cy := cy) (z0 := z0) (sp := sp) (tys := zTys cy) (G := G) (own := "ToolMillLaw") (mn := mn) (nL := 7) (cc := code) (d := 470) ((39, [(4, .int (Int32.ofNat (4 * m))), (3, .ref 328), (2, .ref 171), (1, .ref 0), (0, .ref 1999999)], [.int (Int32.ofNat 0)], w) : zz_F)
  replace b := zz_fo b (zlw_39 (K := zz_k0) zz_k0_KS hsp0 hG hP) (ze_tsw_k (t := 144) (by decide) (by decide))
  replace b := zz_fo b (zlw_144 (K := zz_k0) zz_k0_KS hsp0 hG hP) (ze_aload rfl)
  replace b := zz_fo b (zlw_145 (K := zz_k0) zz_k0_KS hsp0 hG hP) (ze_aload rfl)
  replace b := zz_fo b (zlw_146 (K := zz_k0) zz_k0_KS hsp0 hG hP) (ze_iload rfl)
  replace b := zz_fo b (zlw_148 (K := zz_k0) zz_k0_KS hsp0 hG hP) ze_const
  replace b := zz_fo b (zlw_149 (K := zz_k0) zz_k0_KS hsp0 hG hP) (ze_iadd (zl_ij (4 * m) 1))
  replace b := zz_fo b (zlw_150 (K := zz_k0) hX hL2) (ze_kl (zl_kl xs (j := 4 * m + 1) (by omega) hL) (zz_nI_of _))
  replace b := zz_fo b (zlw_151 (K := zz_k0) zz_k0_KS hsp0 hG hP) (ze_aload rfl)
  replace b := zz_gH b (zlh_152 (rv := [.int k]) (r := []) hG hH rfl rfl (zz_lb rfl))
  replace b := zz_fo b (zlw_155 (K := zz_k0) zz_k0_KS hsp0 hG hP) (ze_istore (lv' := [(4, _), (3, _), (2, _), (1, _), (0, _)]) rfl)
  replace b := zz_fo b (zlw_157 (K := zz_k0) zz_k0_KS hsp0 hG hP) (ze_aload rfl)
  replace b := zz_fo b (zlw_158 (K := zz_k0) zz_k0_KS hsp0 hG hP) (ze_aload rfl)
  replace b := zz_fo b (zlw_159 (K := zz_k0) zz_k0_KS hsp0 hG hP) (ze_iload rfl)
  replace b := zz_fo b (zlw_161 (K := zz_k0) zz_k0_KS hsp0 hG hP) ze_const
  replace b := zz_fo b (zlw_162 (K := zz_k0) zz_k0_KS hsp0 hG hP) (ze_iadd (zl_ij (4 * m) 1))
  replace b := zz_fo b (zlw_163 (K := zz_k0) hX hL2) (ze_kl (zl_kl xs (j := 4 * m + 1) (by omega) hL) (zz_nI_of _))
  replace b := zz_gVi b (fun K h => zlw_164 h hsp0 hG hP) hR rfl rfl h2 (zz_lb rfl)
  replace b := zz_fo b (zlw_167 (K := zz_k0) zz_k0_KS hsp0 hG hP) (ze_istore (lv' := [(5, _), (4, _), (3, _), (2, _), (1, _), (0, _)]) rfl)
  replace b := zz_fo b (zlw_169 (K := zz_k0) zz_k0_KS hsp0 hG hP) ze_goto
  exact zz_fl (lv' := [(4, .int (Int32.ofNat (4 * m))), (3, .ref 328), (2, .ref 171), (1, .ref 0), (0, .ref 1999999)]) b (zz_mc (List.mem_cons_of_mem _ (List.mem_cons_of_mem _ List.mem_cons_self)) (zz_mc (List.mem_cons_of_mem _ (List.mem_cons_of_mem _ (List.mem_cons_of_mem _ List.mem_cons_self))) (zz_mc (List.mem_cons_of_mem _ (List.mem_cons_of_mem _ (List.mem_cons_of_mem _ (List.mem_cons_of_mem _ List.mem_cons_self)))) (zz_mc (List.mem_cons_of_mem _ (List.mem_cons_of_mem _ (List.mem_cons_of_mem _ (List.mem_cons_of_mem _ (List.mem_cons_of_mem _ List.mem_cons_self))))) (zz_mc (List.mem_cons_of_mem _ (List.mem_cons_of_mem _ (List.mem_cons_of_mem _ (List.mem_cons_of_mem _ (List.mem_cons_of_mem _ (List.mem_cons_of_mem _ List.mem_cons_self)))))) zz_mn)))))
theorem zLc_1 {l : Launch} {D : va_G} {cy : Nat → ClassId} {z0 : Nat} {sp : Nat → Nat} {G : State → Prop} (H : zHy l D cy z0 sp G) {mn : String} {L n m : Nat} {xs : Nat → Int32} (hX : ∀ U, G U → va_T .int (sp 999999) L (fun j => .int (xs j)) (fun q : Nat => z0 ≤ q) U U.heap) (hL : L ≤ 2048) (hnm : n ≤ m) (hn4 : 4 * m + 4 ≤ L) {w : zz_W} (h : zIv zQI n 0 w) : ∃ w', zz_B l zTs D zcl zFK cy z0 sp (zTys cy) G "ToolMillLaw" mn 7 code 470 (39, zLv (Int32.ofNat (4 * m)), [.int (Int32.ofNat 1)], w) (899, zLv (Int32.ofNat (4 * m)), [], w') ∧ zIv zQI (n + 1) 0 w' := by
  have hn : n ≤ 511 := by omega
  have hL2 : L ≤ 2147483648 := by omega
  have h0 := zI_ic0 (zIv_I h)
  obtain ⟨k, w1, hH, h1⟩ := zHk_2 H hn h (xs (4 * m + 1))
  have h2 : zz_ic w1 171 0 = true := by rcases h1 with ⟨-, h1⟩ | ⟨-, h1 | h1⟩ <;> exact zI_ic171 (zJv_I h1)
  obtain ⟨w3, w2, hR, h3, hT, hI⟩ := zRm_26 H hn (xs (4 * m + 1)) k h1
  obtain ⟨hG, hP, -, hsp0, -, -, -, -⟩ := H
  refine ⟨w2, ?_, hI⟩
  have b := zz_B_rf (l := l) (Ts := zTs) (D := D) (cl := zcl) (fk := zFK) (cy := cy) (z0 := z0) (sp := sp) (tys := zTys cy) (G := G) (own := "ToolMillLaw") (mn := mn) (nL := 7) (cc := code) (d := 470) ((39, [(4, .int (Int32.ofNat (4 * m))), (3, .ref 328), (2, .ref 171), (1, .ref 0), (0, .ref 1999999)], [.int (Int32.ofNat 1)], w) : zz_F)
  replace b := zz_fo b (zlw_39 (K := zz_k0) zz_k0_KS hsp0 hG hP) (ze_tsw_k (t := 172) (by decide) (by decide))
  replace b := zz_fo b (zlw_172 (K := zz_k0) zz_k0_KS hsp0 hG hP) (ze_aload rfl)
  replace b := zz_fo b (zlw_173 (K := zz_k0) zz_k0_KS hsp0 hG hP) (ze_aload rfl)
  replace b := zz_fo b (zlw_174 (K := zz_k0) zz_k0_KS hsp0 hG hP) (ze_iload rfl)
  replace b := zz_fo b (zlw_176 (K := zz_k0) zz_k0_KS hsp0 hG hP) ze_const
  replace b := zz_fo b (zlw_177 (K := zz_k0) zz_k0_KS hsp0 hG hP) (ze_iadd (zl_ij (4 * m) 1))
  replace b := zz_fo b (zlw_178 (K := zz_k0) hX hL2) (ze_kl (zl_kl xs (j := 4 * m + 1) (by omega) hL) (zz_nI_of _))
  replace b := zz_gH b (zlh_179 (rv := [.int k]) (r := []) hG hH rfl rfl (zz_lb rfl))
  replace b := zz_fo b (zlw_182 (K := zz_k0) zz_k0_KS hsp0 hG hP) (ze_istore (lv' := [(4, _), (3, _), (2, _), (1, _), (0, _)]) rfl)
  replace b := zz_fo b (zlw_184 (K := zz_k0) zz_k0_KS hsp0 hG hP) (ze_aload rfl)
  replace b := zz_fo b (zlw_185 (K := zz_k0) zz_k0_KS hsp0 hG hP) (ze_aload rfl)
  replace b := zz_fo b (zlw_186 (K := zz_k0) zz_k0_KS hsp0 hG hP) (ze_iload rfl)
  replace b := zz_fo b (zlw_188 (K := zz_k0) zz_k0_KS hsp0 hG hP) ze_const
  replace b := zz_fo b (zlw_189 (K := zz_k0) zz_k0_KS hsp0 hG hP) (ze_iadd (zl_ij (4 * m) 1))
  replace b := zz_fo b (zlw_190 (K := zz_k0) hX hL2) (ze_kl (zl_kl xs (j := 4 * m + 1) (by omega) hL) (zz_nI_of _))
  replace b := zz_gVv b (fun K h => zlw_191 h hsp0 hG hP) hR rfl rfl h2 (zz_lb rfl)
  replace b := zz_fo b (zlw_194 (K := zz_k0) zz_k0_KS hsp0 hG hP) (ze_aload rfl)
  replace b := zz_gVi b (fun K h => zlw_195 h hsp0 hG hP) hT rfl rfl h3 (zz_lb rfl)
  replace b := zz_fo b (zlw_198 (K := zz_k0) zz_k0_KS hsp0 hG hP) (ze_iload rfl)
  replace b := zz_fo b (zlw_200 (K := zz_k0) zz_k0_KS hsp0 hG hP) (ze_icmp_eq_t rfl)
  replace b := zz_fo b (zlw_205 (K := zz_k0) zz_k0_KS hsp0 hG hP) ze_goto
  exact zz_fl (lv' := [(4, .int (Int32.ofNat (4 * m))), (3, .ref 328), (2, .ref 171), (1, .ref 0), (0, .ref 1999999)]) b (zz_mc (List.mem_cons_of_mem _ List.mem_cons_self) (zz_mc (List.mem_cons_of_mem _ (List.mem_cons_of_mem _ List.mem_cons_self)) (zz_mc (List.mem_cons_of_mem _ (List.mem_cons_of_mem _ (List.mem_cons_of_mem _ List.mem_cons_self))) (zz_mc (List.mem_cons_of_mem _ (List.mem_cons_of_mem _ (List.mem_cons_of_mem _ (List.mem_cons_of_mem _ List.mem_cons_self)))) (zz_mc (List.mem_cons_of_mem _ (List.mem_cons_of_mem _ (List.mem_cons_of_mem _ (List.mem_cons_of_mem _ (List.mem_cons_of_mem _ List.mem_cons_self))))) zz_mn)))))
theorem zLc_2 {l : Launch} {D : va_G} {cy : Nat → ClassId} {z0 : Nat} {sp : Nat → Nat} {G : State → Prop} (H : zHy l D cy z0 sp G) {mn : String} {L n m : Nat} {xs : Nat → Int32} (hX : ∀ U, G U → va_T .int (sp 999999) L (fun j => .int (xs j)) (fun q : Nat => z0 ≤ q) U U.heap) (hL : L ≤ 2048) (hnm : n ≤ m) (hn4 : 4 * m + 4 ≤ L) {w : zz_W} (h : zIv zQI n 0 w) : ∃ w', zz_B l zTs D zcl zFK cy z0 sp (zTys cy) G "ToolMillLaw" mn 7 code 470 (39, zLv (Int32.ofNat (4 * m)), [.int (Int32.ofNat 2)], w) (899, zLv (Int32.ofNat (4 * m)), [], w') ∧ zIv zQI (n + 1) 0 w' := by
  have hn : n ≤ 511 := by omega
  have hL2 : L ≤ 2147483648 := by omega
  have h0 := zI_ic0 (zIv_I h)
  obtain ⟨k, w1, hH, h1⟩ := zHk_3 H hn h 
  have h2 := zI_ic171 (zIv_I h1)
  obtain ⟨v, w2, hR, hI⟩ := zRm_27 H hn h1 
  obtain ⟨hG, hP, -, hsp0, -, -, -, -⟩ := H
  refine ⟨w2, ?_, hI⟩
  have b := zz_B_rf (l := l) (Ts := zTs) (D := D) (cl := zcl) (fk := zFK) (cy := cy) (z0 := z0) (sp := sp) (tys := zTys cy) (G := G) (own := "ToolMillLaw") (mn := mn) (nL := 7) (cc := code) (d := 470) ((39, [(4, .int (Int32.ofNat (4 * m))), (3, .ref 328), (2, .ref 171), (1, .ref 0), (0, .ref 1999999)], [.int (Int32.ofNat 2)], w) : zz_F)
  replace b := zz_fo b (zlw_39 (K := zz_k0) zz_k0_KS hsp0 hG hP) (ze_tsw_k (t := 208) (by decide) (by decide))
  replace b := zz_fo b (zlw_208 (K := zz_k0) zz_k0_KS hsp0 hG hP) (ze_aload rfl)
  replace b := zz_fo b (zlw_209 (K := zz_k0) zz_k0_KS hsp0 hG hP) (ze_aload rfl)
  replace b := zz_gH b (zlh_210 (rv := [.int k]) (r := []) hG hH rfl rfl (zz_lb rfl))
  replace b := zz_fo b (zlw_213 (K := zz_k0) zz_k0_KS hsp0 hG hP) (ze_istore (lv' := [(4, _), (3, _), (2, _), (1, _), (0, _)]) rfl)
  replace b := zz_fo b (zlw_215 (K := zz_k0) zz_k0_KS hsp0 hG hP) (ze_aload rfl)
  replace b := zz_gVi b (fun K h => zlw_216 h hsp0 hG hP) hR rfl rfl h2 (zz_lb rfl)
  replace b := zz_fo b (zlw_219 (K := zz_k0) zz_k0_KS hsp0 hG hP) (ze_istore (lv' := [(5, _), (4, _), (3, _), (2, _), (1, _), (0, _)]) rfl)
  replace b := zz_fo b (zlw_221 (K := zz_k0) zz_k0_KS hsp0 hG hP) ze_goto
  exact zz_fl (lv' := [(4, .int (Int32.ofNat (4 * m))), (3, .ref 328), (2, .ref 171), (1, .ref 0), (0, .ref 1999999)]) b (zz_mc (List.mem_cons_of_mem _ (List.mem_cons_of_mem _ List.mem_cons_self)) (zz_mc (List.mem_cons_of_mem _ (List.mem_cons_of_mem _ (List.mem_cons_of_mem _ List.mem_cons_self))) (zz_mc (List.mem_cons_of_mem _ (List.mem_cons_of_mem _ (List.mem_cons_of_mem _ (List.mem_cons_of_mem _ List.mem_cons_self)))) (zz_mc (List.mem_cons_of_mem _ (List.mem_cons_of_mem _ (List.mem_cons_of_mem _ (List.mem_cons_of_mem _ (List.mem_cons_of_mem _ List.mem_cons_self))))) (zz_mc (List.mem_cons_of_mem _ (List.mem_cons_of_mem _ (List.mem_cons_of_mem _ (List.mem_cons_of_mem _ (List.mem_cons_of_mem _ (List.mem_cons_of_mem _ List.mem_cons_self)))))) zz_mn)))))
theorem zLc_3 {l : Launch} {D : va_G} {cy : Nat → ClassId} {z0 : Nat} {sp : Nat → Nat} {G : State → Prop} (H : zHy l D cy z0 sp G) {mn : String} {L n m : Nat} {xs : Nat → Int32} (hX : ∀ U, G U → va_T .int (sp 999999) L (fun j => .int (xs j)) (fun q : Nat => z0 ≤ q) U U.heap) (hL : L ≤ 2048) (hnm : n ≤ m) (hn4 : 4 * m + 4 ≤ L) {w : zz_W} (h : zIv zQI n 0 w) : ∃ w', zz_B l zTs D zcl zFK cy z0 sp (zTys cy) G "ToolMillLaw" mn 7 code 470 (39, zLv (Int32.ofNat (4 * m)), [.int (Int32.ofNat 3)], w) (899, zLv (Int32.ofNat (4 * m)), [], w') ∧ zIv zQI (n + 1) 0 w' := by
  have hn : n ≤ 511 := by omega
  have hL2 : L ≤ 2147483648 := by omega
  have h0 := zI_ic0 (zIv_I h)
  obtain ⟨k, w1, hH, h1⟩ := zHk_4 H hn h 
  have h2 := zI_ic171 (zIv_I h1)
  obtain ⟨v, w2, hR, hI⟩ := zRm_28 H hn h1 
  obtain ⟨hG, hP, -, hsp0, -, -, -, -⟩ := H
  refine ⟨w2, ?_, hI⟩
  have b := zz_B_rf (l := l) (Ts := zTs) (D := D) (cl := zcl) (fk := zFK) (cy := cy) (z0 := z0) (sp := sp) (tys := zTys cy) (G := G) (own := "ToolMillLaw") (mn := mn) (nL := 7) (cc := code) (d := 470) ((39, [(4, .int (Int32.ofNat (4 * m))), (3, .ref 328), (2, .ref 171), (1, .ref 0), (0, .ref 1999999)], [.int (Int32.ofNat 3)], w) : zz_F)
  replace b := zz_fo b (zlw_39 (K := zz_k0) zz_k0_KS hsp0 hG hP) (ze_tsw_k (t := 224) (by decide) (by decide))
  replace b := zz_fo b (zlw_224 (K := zz_k0) zz_k0_KS hsp0 hG hP) (ze_aload rfl)
  replace b := zz_fo b (zlw_225 (K := zz_k0) zz_k0_KS hsp0 hG hP) (ze_aload rfl)
  replace b := zz_gH b (zlh_226 (rv := [.int k]) (r := []) hG hH rfl rfl (zz_lb rfl))
  replace b := zz_fo b (zlw_229 (K := zz_k0) zz_k0_KS hsp0 hG hP) (ze_istore (lv' := [(4, _), (3, _), (2, _), (1, _), (0, _)]) rfl)
  replace b := zz_fo b (zlw_231 (K := zz_k0) zz_k0_KS hsp0 hG hP) (ze_aload rfl)
  replace b := zz_gVi b (fun K h => zlw_232 h hsp0 hG hP) hR rfl rfl h2 (zz_lb rfl)
  replace b := zz_fo b (zlw_235 (K := zz_k0) zz_k0_KS hsp0 hG hP) (ze_istore (lv' := [(5, _), (4, _), (3, _), (2, _), (1, _), (0, _)]) rfl)
  replace b := zz_fo b (zlw_237 (K := zz_k0) zz_k0_KS hsp0 hG hP) ze_goto
  exact zz_fl (lv' := [(4, .int (Int32.ofNat (4 * m))), (3, .ref 328), (2, .ref 171), (1, .ref 0), (0, .ref 1999999)]) b (zz_mc (List.mem_cons_of_mem _ (List.mem_cons_of_mem _ List.mem_cons_self)) (zz_mc (List.mem_cons_of_mem _ (List.mem_cons_of_mem _ (List.mem_cons_of_mem _ List.mem_cons_self))) (zz_mc (List.mem_cons_of_mem _ (List.mem_cons_of_mem _ (List.mem_cons_of_mem _ (List.mem_cons_of_mem _ List.mem_cons_self)))) (zz_mc (List.mem_cons_of_mem _ (List.mem_cons_of_mem _ (List.mem_cons_of_mem _ (List.mem_cons_of_mem _ (List.mem_cons_of_mem _ List.mem_cons_self))))) (zz_mc (List.mem_cons_of_mem _ (List.mem_cons_of_mem _ (List.mem_cons_of_mem _ (List.mem_cons_of_mem _ (List.mem_cons_of_mem _ (List.mem_cons_of_mem _ List.mem_cons_self)))))) zz_mn)))))
theorem zLc_4 {l : Launch} {D : va_G} {cy : Nat → ClassId} {z0 : Nat} {sp : Nat → Nat} {G : State → Prop} (H : zHy l D cy z0 sp G) {mn : String} {L n m : Nat} {xs : Nat → Int32} (hX : ∀ U, G U → va_T .int (sp 999999) L (fun j => .int (xs j)) (fun q : Nat => z0 ≤ q) U U.heap) (hL : L ≤ 2048) (hnm : n ≤ m) (hn4 : 4 * m + 4 ≤ L) {w : zz_W} (h : zIv zQI n 0 w) : ∃ w', zz_B l zTs D zcl zFK cy z0 sp (zTys cy) G "ToolMillLaw" mn 7 code 470 (39, zLv (Int32.ofNat (4 * m)), [.int (Int32.ofNat 4)], w) (899, zLv (Int32.ofNat (4 * m)), [], w') ∧ zIv zQI (n + 1) 0 w' := by
  have hn : n ≤ 511 := by omega
  have hL2 : L ≤ 2147483648 := by omega
  have h0 := zI_ic0 (zIv_I h)
  obtain ⟨w1, hC, h1⟩ := zCm_5 H hn h
  have h2 := zI_ic171 (zIv_I h1)
  obtain ⟨w2, hR, hI⟩ := zRm_29 H hn h1
  obtain ⟨hG, hP, -, hsp0, -, -, -, -⟩ := H
  refine ⟨w2, ?_, hI⟩
  have b := zz_B_rf (l := l) (Ts := zTs) (D := D) (cl := zcl) (fk := zFK) (cy := cy) (z0 := z0) (sp := sp) (tys := zTys cy) (G := G) (own := "ToolMillLaw") (mn := mn) (nL := 7) (cc := code) (d := 470) ((39, [(4, .int (Int32.ofNat (4 * m))), (3, .ref 328), (2, .ref 171), (1, .ref 0), (0, .ref 1999999)], [.int (Int32.ofNat 4)], w) : zz_F)
  replace b := zz_fo b (zlw_39 (K := zz_k0) zz_k0_KS hsp0 hG hP) (ze_tsw_k (t := 240) (by decide) (by decide))
  replace b := zz_fo b (zlw_240 (K := zz_k0) zz_k0_KS hsp0 hG hP) (ze_aload rfl)
  replace b := zz_gVv b (fun K h => zlw_241 h hsp0 hG hP) hC rfl rfl h0 (zz_lb rfl)
  replace b := zz_fo b (zlw_244 (K := zz_k0) zz_k0_KS hsp0 hG hP) (ze_aload rfl)
  replace b := zz_gVv b (fun K h => zlw_245 h hsp0 hG hP) hR rfl rfl h2 (zz_lb rfl)
  replace b := zz_fo b (zlw_248 (K := zz_k0) zz_k0_KS hsp0 hG hP) ze_goto
  exact zz_fl (lv' := [(4, .int (Int32.ofNat (4 * m))), (3, .ref 328), (2, .ref 171), (1, .ref 0), (0, .ref 1999999)]) b (zz_mc List.mem_cons_self (zz_mc (List.mem_cons_of_mem _ List.mem_cons_self) (zz_mc (List.mem_cons_of_mem _ (List.mem_cons_of_mem _ List.mem_cons_self)) (zz_mc (List.mem_cons_of_mem _ (List.mem_cons_of_mem _ (List.mem_cons_of_mem _ List.mem_cons_self))) (zz_mc (List.mem_cons_of_mem _ (List.mem_cons_of_mem _ (List.mem_cons_of_mem _ (List.mem_cons_of_mem _ List.mem_cons_self)))) zz_mn)))))
theorem zLc_5 {l : Launch} {D : va_G} {cy : Nat → ClassId} {z0 : Nat} {sp : Nat → Nat} {G : State → Prop} (H : zHy l D cy z0 sp G) {mn : String} {L n m : Nat} {xs : Nat → Int32} (hX : ∀ U, G U → va_T .int (sp 999999) L (fun j => .int (xs j)) (fun q : Nat => z0 ≤ q) U U.heap) (hL : L ≤ 2048) (hnm : n ≤ m) (hn4 : 4 * m + 4 ≤ L) {w : zz_W} (h : zIv zQI n 0 w) : ∃ w', zz_B l zTs D zcl zFK cy z0 sp (zTys cy) G "ToolMillLaw" mn 7 code 470 (39, zLv (Int32.ofNat (4 * m)), [.int (Int32.ofNat 5)], w) (899, zLv (Int32.ofNat (4 * m)), [], w') ∧ zIv zQI (n + 1) 0 w' := by
  have hn : n ≤ 511 := by omega
  have hL2 : L ≤ 2147483648 := by omega
  have h0 := zI_ic0 (zIv_I h)
  obtain ⟨k, w1, hH, h1⟩ := zHk_6 H hn h (xs (4 * m + 1))
  have h2 := zI_ic171 (zIv_I h1)
  obtain ⟨v, w2, hR, hI⟩ := zRm_30 H hn h1 (xs (4 * m + 1))
  obtain ⟨hG, hP, -, hsp0, -, -, -, -⟩ := H
  refine ⟨w2, ?_, hI⟩
  have b := zz_B_rf (l := l) (Ts := zTs) (D := D) (cl := zcl) (fk := zFK) (cy := cy) (z0 := z0) (sp := sp) (tys := zTys cy) (G := G) (own := "ToolMillLaw") (mn := mn) (nL := 7) (cc := code) (d := 470) ((39, [(4, .int (Int32.ofNat (4 * m))), (3, .ref 328), (2, .ref 171), (1, .ref 0), (0, .ref 1999999)], [.int (Int32.ofNat 5)], w) : zz_F)
  replace b := zz_fo b (zlw_39 (K := zz_k0) zz_k0_KS hsp0 hG hP) (ze_tsw_k (t := 251) (by decide) (by decide))
  replace b := zz_fo b (zlw_251 (K := zz_k0) zz_k0_KS hsp0 hG hP) (ze_aload rfl)
  replace b := zz_fo b (zlw_252 (K := zz_k0) zz_k0_KS hsp0 hG hP) (ze_aload rfl)
  replace b := zz_fo b (zlw_253 (K := zz_k0) zz_k0_KS hsp0 hG hP) (ze_iload rfl)
  replace b := zz_fo b (zlw_255 (K := zz_k0) zz_k0_KS hsp0 hG hP) ze_const
  replace b := zz_fo b (zlw_256 (K := zz_k0) zz_k0_KS hsp0 hG hP) (ze_iadd (zl_ij (4 * m) 1))
  replace b := zz_fo b (zlw_257 (K := zz_k0) hX hL2) (ze_kl (zl_kl xs (j := 4 * m + 1) (by omega) hL) (zz_nI_of _))
  replace b := zz_fo b (zlw_258 (K := zz_k0) zz_k0_KS hsp0 hG hP) (ze_aload rfl)
  replace b := zz_gH b (zlh_259 (rv := [.int k]) (r := []) hG hH rfl rfl (zz_lb rfl))
  replace b := zz_fo b (zlw_262 (K := zz_k0) zz_k0_KS hsp0 hG hP) (ze_istore (lv' := [(4, _), (3, _), (2, _), (1, _), (0, _)]) rfl)
  replace b := zz_fo b (zlw_264 (K := zz_k0) zz_k0_KS hsp0 hG hP) (ze_aload rfl)
  replace b := zz_fo b (zlw_265 (K := zz_k0) zz_k0_KS hsp0 hG hP) (ze_aload rfl)
  replace b := zz_fo b (zlw_266 (K := zz_k0) zz_k0_KS hsp0 hG hP) (ze_iload rfl)
  replace b := zz_fo b (zlw_268 (K := zz_k0) zz_k0_KS hsp0 hG hP) ze_const
  replace b := zz_fo b (zlw_269 (K := zz_k0) zz_k0_KS hsp0 hG hP) (ze_iadd (zl_ij (4 * m) 1))
  replace b := zz_fo b (zlw_270 (K := zz_k0) hX hL2) (ze_kl (zl_kl xs (j := 4 * m + 1) (by omega) hL) (zz_nI_of _))
  replace b := zz_gVi b (fun K h => zlw_271 h hsp0 hG hP) hR rfl rfl h2 (zz_lb rfl)
  replace b := zz_fo b (zlw_274 (K := zz_k0) zz_k0_KS hsp0 hG hP) (ze_istore (lv' := [(5, _), (4, _), (3, _), (2, _), (1, _), (0, _)]) rfl)
  replace b := zz_fo b (zlw_276 (K := zz_k0) zz_k0_KS hsp0 hG hP) ze_goto
  exact zz_fl (lv' := [(4, .int (Int32.ofNat (4 * m))), (3, .ref 328), (2, .ref 171), (1, .ref 0), (0, .ref 1999999)]) b (zz_mc (List.mem_cons_of_mem _ (List.mem_cons_of_mem _ List.mem_cons_self)) (zz_mc (List.mem_cons_of_mem _ (List.mem_cons_of_mem _ (List.mem_cons_of_mem _ List.mem_cons_self))) (zz_mc (List.mem_cons_of_mem _ (List.mem_cons_of_mem _ (List.mem_cons_of_mem _ (List.mem_cons_of_mem _ List.mem_cons_self)))) (zz_mc (List.mem_cons_of_mem _ (List.mem_cons_of_mem _ (List.mem_cons_of_mem _ (List.mem_cons_of_mem _ (List.mem_cons_of_mem _ List.mem_cons_self))))) (zz_mc (List.mem_cons_of_mem _ (List.mem_cons_of_mem _ (List.mem_cons_of_mem _ (List.mem_cons_of_mem _ (List.mem_cons_of_mem _ (List.mem_cons_of_mem _ List.mem_cons_self)))))) zz_mn)))))
theorem zLc_6 {l : Launch} {D : va_G} {cy : Nat → ClassId} {z0 : Nat} {sp : Nat → Nat} {G : State → Prop} (H : zHy l D cy z0 sp G) {mn : String} {L n m : Nat} {xs : Nat → Int32} (hX : ∀ U, G U → va_T .int (sp 999999) L (fun j => .int (xs j)) (fun q : Nat => z0 ≤ q) U U.heap) (hL : L ≤ 2048) (hnm : n ≤ m) (hn4 : 4 * m + 4 ≤ L) {w : zz_W} (h : zIv zQI n 0 w) : ∃ w', zz_B l zTs D zcl zFK cy z0 sp (zTys cy) G "ToolMillLaw" mn 7 code 470 (39, zLv (Int32.ofNat (4 * m)), [.int (Int32.ofNat 6)], w) (899, zLv (Int32.ofNat (4 * m)), [], w') ∧ zIv zQI (n + 1) 0 w' := by
  have hn : n ≤ 511 := by omega
  have hL2 : L ≤ 2147483648 := by omega
  have h0 := zI_ic0 (zIv_I h)
  obtain ⟨k, w1, hH, h1⟩ := zHk_7 H hn h (xs (4 * m + 1)) (xs (4 * m + 2))
  have h2 := zI_ic171 (zIv_I h1)
  obtain ⟨v, w2, hR, hI⟩ := zRm_31 H hn h1 (xs (4 * m + 1)) (xs (4 * m + 2))
  obtain ⟨hG, hP, -, hsp0, -, -, -, -⟩ := H
  refine ⟨w2, ?_, hI⟩
  have b := zz_B_rf (l := l) (Ts := zTs) (D := D) (cl := zcl) (fk := zFK) (cy := cy) (z0 := z0) (sp := sp) (tys := zTys cy) (G := G) (own := "ToolMillLaw") (mn := mn) (nL := 7) (cc := code) (d := 470) ((39, [(4, .int (Int32.ofNat (4 * m))), (3, .ref 328), (2, .ref 171), (1, .ref 0), (0, .ref 1999999)], [.int (Int32.ofNat 6)], w) : zz_F)
  replace b := zz_fo b (zlw_39 (K := zz_k0) zz_k0_KS hsp0 hG hP) (ze_tsw_k (t := 279) (by decide) (by decide))
  replace b := zz_fo b (zlw_279 (K := zz_k0) zz_k0_KS hsp0 hG hP) (ze_aload rfl)
  replace b := zz_fo b (zlw_280 (K := zz_k0) zz_k0_KS hsp0 hG hP) (ze_aload rfl)
  replace b := zz_fo b (zlw_281 (K := zz_k0) zz_k0_KS hsp0 hG hP) (ze_iload rfl)
  replace b := zz_fo b (zlw_283 (K := zz_k0) zz_k0_KS hsp0 hG hP) ze_const
  replace b := zz_fo b (zlw_284 (K := zz_k0) zz_k0_KS hsp0 hG hP) (ze_iadd (zl_ij (4 * m) 1))
  replace b := zz_fo b (zlw_285 (K := zz_k0) hX hL2) (ze_kl (zl_kl xs (j := 4 * m + 1) (by omega) hL) (zz_nI_of _))
  replace b := zz_fo b (zlw_286 (K := zz_k0) zz_k0_KS hsp0 hG hP) (ze_aload rfl)
  replace b := zz_fo b (zlw_287 (K := zz_k0) zz_k0_KS hsp0 hG hP) (ze_iload rfl)
  replace b := zz_fo b (zlw_289 (K := zz_k0) zz_k0_KS hsp0 hG hP) ze_const
  replace b := zz_fo b (zlw_290 (K := zz_k0) zz_k0_KS hsp0 hG hP) (ze_iadd (zl_ij (4 * m) 2))
  replace b := zz_fo b (zlw_291 (K := zz_k0) hX hL2) (ze_kl (zl_kl xs (j := 4 * m + 2) (by omega) hL) (zz_nI_of _))
  replace b := zz_fo b (zlw_292 (K := zz_k0) zz_k0_KS hsp0 hG hP) (ze_aload rfl)
  replace b := zz_gH b (zlh_293 (rv := [.int k]) (r := []) hG hH rfl rfl (zz_lb rfl))
  replace b := zz_fo b (zlw_296 (K := zz_k0) zz_k0_KS hsp0 hG hP) (ze_istore (lv' := [(4, _), (3, _), (2, _), (1, _), (0, _)]) rfl)
  replace b := zz_fo b (zlw_298 (K := zz_k0) zz_k0_KS hsp0 hG hP) (ze_aload rfl)
  replace b := zz_fo b (zlw_299 (K := zz_k0) zz_k0_KS hsp0 hG hP) (ze_aload rfl)
  replace b := zz_fo b (zlw_300 (K := zz_k0) zz_k0_KS hsp0 hG hP) (ze_iload rfl)
  replace b := zz_fo b (zlw_302 (K := zz_k0) zz_k0_KS hsp0 hG hP) ze_const
  replace b := zz_fo b (zlw_303 (K := zz_k0) zz_k0_KS hsp0 hG hP) (ze_iadd (zl_ij (4 * m) 1))
  replace b := zz_fo b (zlw_304 (K := zz_k0) hX hL2) (ze_kl (zl_kl xs (j := 4 * m + 1) (by omega) hL) (zz_nI_of _))
  replace b := zz_fo b (zlw_305 (K := zz_k0) zz_k0_KS hsp0 hG hP) (ze_aload rfl)
  replace b := zz_fo b (zlw_306 (K := zz_k0) zz_k0_KS hsp0 hG hP) (ze_iload rfl)
  replace b := zz_fo b (zlw_308 (K := zz_k0) zz_k0_KS hsp0 hG hP) ze_const
  replace b := zz_fo b (zlw_309 (K := zz_k0) zz_k0_KS hsp0 hG hP) (ze_iadd (zl_ij (4 * m) 2))
  replace b := zz_fo b (zlw_310 (K := zz_k0) hX hL2) (ze_kl (zl_kl xs (j := 4 * m + 2) (by omega) hL) (zz_nI_of _))
  replace b := zz_gVi b (fun K h => zlw_311 h hsp0 hG hP) hR rfl rfl h2 (zz_lb rfl)
  replace b := zz_fo b (zlw_314 (K := zz_k0) zz_k0_KS hsp0 hG hP) (ze_istore (lv' := [(5, _), (4, _), (3, _), (2, _), (1, _), (0, _)]) rfl)
  replace b := zz_fo b (zlw_316 (K := zz_k0) zz_k0_KS hsp0 hG hP) ze_goto
  exact zz_fl (lv' := [(4, .int (Int32.ofNat (4 * m))), (3, .ref 328), (2, .ref 171), (1, .ref 0), (0, .ref 1999999)]) b (zz_mc (List.mem_cons_of_mem _ (List.mem_cons_of_mem _ List.mem_cons_self)) (zz_mc (List.mem_cons_of_mem _ (List.mem_cons_of_mem _ (List.mem_cons_of_mem _ List.mem_cons_self))) (zz_mc (List.mem_cons_of_mem _ (List.mem_cons_of_mem _ (List.mem_cons_of_mem _ (List.mem_cons_of_mem _ List.mem_cons_self)))) (zz_mc (List.mem_cons_of_mem _ (List.mem_cons_of_mem _ (List.mem_cons_of_mem _ (List.mem_cons_of_mem _ (List.mem_cons_of_mem _ List.mem_cons_self))))) (zz_mc (List.mem_cons_of_mem _ (List.mem_cons_of_mem _ (List.mem_cons_of_mem _ (List.mem_cons_of_mem _ (List.mem_cons_of_mem _ (List.mem_cons_of_mem _ List.mem_cons_self)))))) zz_mn)))))
theorem zLc_7 {l : Launch} {D : va_G} {cy : Nat → ClassId} {z0 : Nat} {sp : Nat → Nat} {G : State → Prop} (H : zHy l D cy z0 sp G) {mn : String} {L n m : Nat} {xs : Nat → Int32} (hX : ∀ U, G U → va_T .int (sp 999999) L (fun j => .int (xs j)) (fun q : Nat => z0 ≤ q) U U.heap) (hL : L ≤ 2048) (hnm : n ≤ m) (hn4 : 4 * m + 4 ≤ L) {w : zz_W} (h : zIv zQI n 0 w) : ∃ w', zz_B l zTs D zcl zFK cy z0 sp (zTys cy) G "ToolMillLaw" mn 7 code 470 (39, zLv (Int32.ofNat (4 * m)), [.int (Int32.ofNat 7)], w) (899, zLv (Int32.ofNat (4 * m)), [], w') ∧ zIv zQI (n + 1) 0 w' := by
  have hn : n ≤ 511 := by omega
  have hL2 : L ≤ 2147483648 := by omega
  have h0 := zI_ic0 (zIv_I h)
  obtain ⟨k, w1, hH, h1⟩ := zHk_8 H hn h (xs (4 * m + 1)) (xs (4 * m + 2))
  have h2 := zI_ic171 (zIv_I h1)
  obtain ⟨v, w2, hR, hI⟩ := zRm_32 H hn h1 (xs (4 * m + 1)) (xs (4 * m + 2))
  obtain ⟨hG, hP, -, hsp0, -, -, -, -⟩ := H
  refine ⟨w2, ?_, hI⟩
  have b := zz_B_rf (l := l) (Ts := zTs) (D := D) (cl := zcl) (fk := zFK) (cy := cy) (z0 := z0) (sp := sp) (tys := zTys cy) (G := G) (own := "ToolMillLaw") (mn := mn) (nL := 7) (cc := code) (d := 470) ((39, [(4, .int (Int32.ofNat (4 * m))), (3, .ref 328), (2, .ref 171), (1, .ref 0), (0, .ref 1999999)], [.int (Int32.ofNat 7)], w) : zz_F)
  replace b := zz_fo b (zlw_39 (K := zz_k0) zz_k0_KS hsp0 hG hP) (ze_tsw_k (t := 319) (by decide) (by decide))
  replace b := zz_fo b (zlw_319 (K := zz_k0) zz_k0_KS hsp0 hG hP) (ze_aload rfl)
  replace b := zz_fo b (zlw_320 (K := zz_k0) zz_k0_KS hsp0 hG hP) (ze_aload rfl)
  replace b := zz_fo b (zlw_321 (K := zz_k0) zz_k0_KS hsp0 hG hP) (ze_iload rfl)
  replace b := zz_fo b (zlw_323 (K := zz_k0) zz_k0_KS hsp0 hG hP) ze_const
  replace b := zz_fo b (zlw_324 (K := zz_k0) zz_k0_KS hsp0 hG hP) (ze_iadd (zl_ij (4 * m) 1))
  replace b := zz_fo b (zlw_325 (K := zz_k0) hX hL2) (ze_kl (zl_kl xs (j := 4 * m + 1) (by omega) hL) (zz_nI_of _))
  replace b := zz_fo b (zlw_326 (K := zz_k0) zz_k0_KS hsp0 hG hP) (ze_aload rfl)
  replace b := zz_fo b (zlw_327 (K := zz_k0) zz_k0_KS hsp0 hG hP) (ze_iload rfl)
  replace b := zz_fo b (zlw_329 (K := zz_k0) zz_k0_KS hsp0 hG hP) ze_const
  replace b := zz_fo b (zlw_330 (K := zz_k0) zz_k0_KS hsp0 hG hP) (ze_iadd (zl_ij (4 * m) 2))
  replace b := zz_fo b (zlw_331 (K := zz_k0) hX hL2) (ze_kl (zl_kl xs (j := 4 * m + 2) (by omega) hL) (zz_nI_of _))
  replace b := zz_fo b (zlw_332 (K := zz_k0) zz_k0_KS hsp0 hG hP) (ze_aload rfl)
  replace b := zz_gH b (zlh_333 (rv := [.int k]) (r := []) hG hH rfl rfl (zz_lb rfl))
  replace b := zz_fo b (zlw_336 (K := zz_k0) zz_k0_KS hsp0 hG hP) (ze_istore (lv' := [(4, _), (3, _), (2, _), (1, _), (0, _)]) rfl)
  replace b := zz_fo b (zlw_338 (K := zz_k0) zz_k0_KS hsp0 hG hP) (ze_aload rfl)
  replace b := zz_fo b (zlw_339 (K := zz_k0) zz_k0_KS hsp0 hG hP) (ze_aload rfl)
  replace b := zz_fo b (zlw_340 (K := zz_k0) zz_k0_KS hsp0 hG hP) (ze_iload rfl)
  replace b := zz_fo b (zlw_342 (K := zz_k0) zz_k0_KS hsp0 hG hP) ze_const
  replace b := zz_fo b (zlw_343 (K := zz_k0) zz_k0_KS hsp0 hG hP) (ze_iadd (zl_ij (4 * m) 1))
  replace b := zz_fo b (zlw_344 (K := zz_k0) hX hL2) (ze_kl (zl_kl xs (j := 4 * m + 1) (by omega) hL) (zz_nI_of _))
  replace b := zz_fo b (zlw_345 (K := zz_k0) zz_k0_KS hsp0 hG hP) (ze_aload rfl)
  replace b := zz_fo b (zlw_346 (K := zz_k0) zz_k0_KS hsp0 hG hP) (ze_iload rfl)
  replace b := zz_fo b (zlw_348 (K := zz_k0) zz_k0_KS hsp0 hG hP) ze_const
  replace b := zz_fo b (zlw_349 (K := zz_k0) zz_k0_KS hsp0 hG hP) (ze_iadd (zl_ij (4 * m) 2))
  replace b := zz_fo b (zlw_350 (K := zz_k0) hX hL2) (ze_kl (zl_kl xs (j := 4 * m + 2) (by omega) hL) (zz_nI_of _))
  replace b := zz_gVi b (fun K h => zlw_351 h hsp0 hG hP) hR rfl rfl h2 (zz_lb rfl)
  replace b := zz_fo b (zlw_354 (K := zz_k0) zz_k0_KS hsp0 hG hP) (ze_istore (lv' := [(5, _), (4, _), (3, _), (2, _), (1, _), (0, _)]) rfl)
  replace b := zz_fo b (zlw_356 (K := zz_k0) zz_k0_KS hsp0 hG hP) ze_goto
  exact zz_fl (lv' := [(4, .int (Int32.ofNat (4 * m))), (3, .ref 328), (2, .ref 171), (1, .ref 0), (0, .ref 1999999)]) b (zz_mc (List.mem_cons_of_mem _ (List.mem_cons_of_mem _ List.mem_cons_self)) (zz_mc (List.mem_cons_of_mem _ (List.mem_cons_of_mem _ (List.mem_cons_of_mem _ List.mem_cons_self))) (zz_mc (List.mem_cons_of_mem _ (List.mem_cons_of_mem _ (List.mem_cons_of_mem _ (List.mem_cons_of_mem _ List.mem_cons_self)))) (zz_mc (List.mem_cons_of_mem _ (List.mem_cons_of_mem _ (List.mem_cons_of_mem _ (List.mem_cons_of_mem _ (List.mem_cons_of_mem _ List.mem_cons_self))))) (zz_mc (List.mem_cons_of_mem _ (List.mem_cons_of_mem _ (List.mem_cons_of_mem _ (List.mem_cons_of_mem _ (List.mem_cons_of_mem _ (List.mem_cons_of_mem _ List.mem_cons_self)))))) zz_mn)))))
theorem zLc_8 {l : Launch} {D : va_G} {cy : Nat → ClassId} {z0 : Nat} {sp : Nat → Nat} {G : State → Prop} (H : zHy l D cy z0 sp G) {mn : String} {L n m : Nat} {xs : Nat → Int32} (hX : ∀ U, G U → va_T .int (sp 999999) L (fun j => .int (xs j)) (fun q : Nat => z0 ≤ q) U U.heap) (hL : L ≤ 2048) (hnm : n ≤ m) (hn4 : 4 * m + 4 ≤ L) {w : zz_W} (h : zIv zQI n 0 w) : ∃ w', zz_B l zTs D zcl zFK cy z0 sp (zTys cy) G "ToolMillLaw" mn 7 code 470 (39, zLv (Int32.ofNat (4 * m)), [.int (Int32.ofNat 8)], w) (899, zLv (Int32.ofNat (4 * m)), [], w') ∧ zIv zQI (n + 1) 0 w' := by
  have hn : n ≤ 511 := by omega
  have hL2 : L ≤ 2147483648 := by omega
  have h0 := zI_ic0 (zIv_I h)
  obtain ⟨k, w1, hH, h1⟩ := zHk_9 H hn h (xs (4 * m + 1)) (xs (4 * m + 2)) (xs (4 * m + 3))
  have h2 := zI_ic171 (zIv_I h1)
  obtain ⟨v, w2, hR, hI⟩ := zRm_33 H hn h1 (xs (4 * m + 1)) (xs (4 * m + 2)) (xs (4 * m + 3))
  obtain ⟨hG, hP, -, hsp0, -, -, -, -⟩ := H
  refine ⟨w2, ?_, hI⟩
  have b := zz_B_rf (l := l) (Ts := zTs) (D := D) (cl := zcl) (fk := zFK) (cy := cy) (z0 := z0) (sp := sp) (tys := zTys cy) (G := G) (own := "ToolMillLaw") (mn := mn) (nL := 7) (cc := code) (d := 470) ((39, [(4, .int (Int32.ofNat (4 * m))), (3, .ref 328), (2, .ref 171), (1, .ref 0), (0, .ref 1999999)], [.int (Int32.ofNat 8)], w) : zz_F)
  replace b := zz_fo b (zlw_39 (K := zz_k0) zz_k0_KS hsp0 hG hP) (ze_tsw_k (t := 359) (by decide) (by decide))
  replace b := zz_fo b (zlw_359 (K := zz_k0) zz_k0_KS hsp0 hG hP) (ze_aload rfl)
  replace b := zz_fo b (zlw_360 (K := zz_k0) zz_k0_KS hsp0 hG hP) (ze_aload rfl)
  replace b := zz_fo b (zlw_361 (K := zz_k0) zz_k0_KS hsp0 hG hP) (ze_iload rfl)
  replace b := zz_fo b (zlw_363 (K := zz_k0) zz_k0_KS hsp0 hG hP) ze_const
  replace b := zz_fo b (zlw_364 (K := zz_k0) zz_k0_KS hsp0 hG hP) (ze_iadd (zl_ij (4 * m) 1))
  replace b := zz_fo b (zlw_365 (K := zz_k0) hX hL2) (ze_kl (zl_kl xs (j := 4 * m + 1) (by omega) hL) (zz_nI_of _))
  replace b := zz_fo b (zlw_366 (K := zz_k0) zz_k0_KS hsp0 hG hP) (ze_aload rfl)
  replace b := zz_fo b (zlw_367 (K := zz_k0) zz_k0_KS hsp0 hG hP) (ze_iload rfl)
  replace b := zz_fo b (zlw_369 (K := zz_k0) zz_k0_KS hsp0 hG hP) ze_const
  replace b := zz_fo b (zlw_370 (K := zz_k0) zz_k0_KS hsp0 hG hP) (ze_iadd (zl_ij (4 * m) 2))
  replace b := zz_fo b (zlw_371 (K := zz_k0) hX hL2) (ze_kl (zl_kl xs (j := 4 * m + 2) (by omega) hL) (zz_nI_of _))
  replace b := zz_fo b (zlw_372 (K := zz_k0) zz_k0_KS hsp0 hG hP) (ze_aload rfl)
  replace b := zz_fo b (zlw_373 (K := zz_k0) zz_k0_KS hsp0 hG hP) (ze_iload rfl)
  replace b := zz_fo b (zlw_375 (K := zz_k0) zz_k0_KS hsp0 hG hP) ze_const
  replace b := zz_fo b (zlw_376 (K := zz_k0) zz_k0_KS hsp0 hG hP) (ze_iadd (zl_ij (4 * m) 3))
  replace b := zz_fo b (zlw_377 (K := zz_k0) hX hL2) (ze_kl (zl_kl xs (j := 4 * m + 3) (by omega) hL) (zz_nI_of _))
  replace b := zz_fo b (zlw_378 (K := zz_k0) zz_k0_KS hsp0 hG hP) (ze_aload rfl)
  replace b := zz_gH b (zlh_379 (rv := [.int k]) (r := []) hG hH rfl rfl (zz_lb rfl))
  replace b := zz_fo b (zlw_382 (K := zz_k0) zz_k0_KS hsp0 hG hP) (ze_istore (lv' := [(4, _), (3, _), (2, _), (1, _), (0, _)]) rfl)
  replace b := zz_fo b (zlw_384 (K := zz_k0) zz_k0_KS hsp0 hG hP) (ze_aload rfl)
  replace b := zz_fo b (zlw_385 (K := zz_k0) zz_k0_KS hsp0 hG hP) (ze_aload rfl)
  replace b := zz_fo b (zlw_386 (K := zz_k0) zz_k0_KS hsp0 hG hP) (ze_iload rfl)
  replace b := zz_fo b (zlw_388 (K := zz_k0) zz_k0_KS hsp0 hG hP) ze_const
  replace b := zz_fo b (zlw_389 (K := zz_k0) zz_k0_KS hsp0 hG hP) (ze_iadd (zl_ij (4 * m) 1))
  replace b := zz_fo b (zlw_390 (K := zz_k0) hX hL2) (ze_kl (zl_kl xs (j := 4 * m + 1) (by omega) hL) (zz_nI_of _))
  replace b := zz_fo b (zlw_391 (K := zz_k0) zz_k0_KS hsp0 hG hP) (ze_aload rfl)
  replace b := zz_fo b (zlw_392 (K := zz_k0) zz_k0_KS hsp0 hG hP) (ze_iload rfl)
  replace b := zz_fo b (zlw_394 (K := zz_k0) zz_k0_KS hsp0 hG hP) ze_const
  replace b := zz_fo b (zlw_395 (K := zz_k0) zz_k0_KS hsp0 hG hP) (ze_iadd (zl_ij (4 * m) 2))
  replace b := zz_fo b (zlw_396 (K := zz_k0) hX hL2) (ze_kl (zl_kl xs (j := 4 * m + 2) (by omega) hL) (zz_nI_of _))
  replace b := zz_fo b (zlw_397 (K := zz_k0) zz_k0_KS hsp0 hG hP) (ze_aload rfl)
  replace b := zz_fo b (zlw_398 (K := zz_k0) zz_k0_KS hsp0 hG hP) (ze_iload rfl)
  replace b := zz_fo b (zlw_400 (K := zz_k0) zz_k0_KS hsp0 hG hP) ze_const
  replace b := zz_fo b (zlw_401 (K := zz_k0) zz_k0_KS hsp0 hG hP) (ze_iadd (zl_ij (4 * m) 3))
  replace b := zz_fo b (zlw_402 (K := zz_k0) hX hL2) (ze_kl (zl_kl xs (j := 4 * m + 3) (by omega) hL) (zz_nI_of _))
  replace b := zz_gVi b (fun K h => zlw_403 h hsp0 hG hP) hR rfl rfl h2 (zz_lb rfl)
  replace b := zz_fo b (zlw_406 (K := zz_k0) zz_k0_KS hsp0 hG hP) (ze_istore (lv' := [(5, _), (4, _), (3, _), (2, _), (1, _), (0, _)]) rfl)
  replace b := zz_fo b (zlw_408 (K := zz_k0) zz_k0_KS hsp0 hG hP) ze_goto
  exact zz_fl (lv' := [(4, .int (Int32.ofNat (4 * m))), (3, .ref 328), (2, .ref 171), (1, .ref 0), (0, .ref 1999999)]) b (zz_mc (List.mem_cons_of_mem _ (List.mem_cons_of_mem _ List.mem_cons_self)) (zz_mc (List.mem_cons_of_mem _ (List.mem_cons_of_mem _ (List.mem_cons_of_mem _ List.mem_cons_self))) (zz_mc (List.mem_cons_of_mem _ (List.mem_cons_of_mem _ (List.mem_cons_of_mem _ (List.mem_cons_of_mem _ List.mem_cons_self)))) (zz_mc (List.mem_cons_of_mem _ (List.mem_cons_of_mem _ (List.mem_cons_of_mem _ (List.mem_cons_of_mem _ (List.mem_cons_of_mem _ List.mem_cons_self))))) (zz_mc (List.mem_cons_of_mem _ (List.mem_cons_of_mem _ (List.mem_cons_of_mem _ (List.mem_cons_of_mem _ (List.mem_cons_of_mem _ (List.mem_cons_of_mem _ List.mem_cons_self)))))) zz_mn)))))
theorem zLc_9 {l : Launch} {D : va_G} {cy : Nat → ClassId} {z0 : Nat} {sp : Nat → Nat} {G : State → Prop} (H : zHy l D cy z0 sp G) {mn : String} {L n m : Nat} {xs : Nat → Int32} (hX : ∀ U, G U → va_T .int (sp 999999) L (fun j => .int (xs j)) (fun q : Nat => z0 ≤ q) U U.heap) (hL : L ≤ 2048) (hnm : n ≤ m) (hn4 : 4 * m + 4 ≤ L) {w : zz_W} (h : zIv zQI n 0 w) : ∃ w', zz_B l zTs D zcl zFK cy z0 sp (zTys cy) G "ToolMillLaw" mn 7 code 470 (39, zLv (Int32.ofNat (4 * m)), [.int (Int32.ofNat 9)], w) (899, zLv (Int32.ofNat (4 * m)), [], w') ∧ zIv zQI (n + 1) 0 w' := by
  have hn : n ≤ 511 := by omega
  have hL2 : L ≤ 2147483648 := by omega
  have h0 := zI_ic0 (zIv_I h)
  obtain ⟨k, w1, hH, h1⟩ := zHk_10 H hn h (xs (4 * m + 1)) (xs (4 * m + 2)) (xs (4 * m + 3))
  have h2 := zI_ic171 (zIv_I h1)
  obtain ⟨v, w2, hR, hI⟩ := zRm_34 H hn h1 (xs (4 * m + 1)) (xs (4 * m + 2)) (xs (4 * m + 3))
  obtain ⟨hG, hP, -, hsp0, -, -, -, -⟩ := H
  refine ⟨w2, ?_, hI⟩
  have b := zz_B_rf (l := l) (Ts := zTs) (D := D) (cl := zcl) (fk := zFK) (cy := cy) (z0 := z0) (sp := sp) (tys := zTys cy) (G := G) (own := "ToolMillLaw") (mn := mn) (nL := 7) (cc := code) (d := 470) ((39, [(4, .int (Int32.ofNat (4 * m))), (3, .ref 328), (2, .ref 171), (1, .ref 0), (0, .ref 1999999)], [.int (Int32.ofNat 9)], w) : zz_F)
  replace b := zz_fo b (zlw_39 (K := zz_k0) zz_k0_KS hsp0 hG hP) (ze_tsw_k (t := 411) (by decide) (by decide))
  replace b := zz_fo b (zlw_411 (K := zz_k0) zz_k0_KS hsp0 hG hP) (ze_aload rfl)
  replace b := zz_fo b (zlw_412 (K := zz_k0) zz_k0_KS hsp0 hG hP) (ze_aload rfl)
  replace b := zz_fo b (zlw_413 (K := zz_k0) zz_k0_KS hsp0 hG hP) (ze_iload rfl)
  replace b := zz_fo b (zlw_415 (K := zz_k0) zz_k0_KS hsp0 hG hP) ze_const
  replace b := zz_fo b (zlw_416 (K := zz_k0) zz_k0_KS hsp0 hG hP) (ze_iadd (zl_ij (4 * m) 1))
  replace b := zz_fo b (zlw_417 (K := zz_k0) hX hL2) (ze_kl (zl_kl xs (j := 4 * m + 1) (by omega) hL) (zz_nI_of _))
  replace b := zz_fo b (zlw_418 (K := zz_k0) zz_k0_KS hsp0 hG hP) (ze_aload rfl)
  replace b := zz_fo b (zlw_419 (K := zz_k0) zz_k0_KS hsp0 hG hP) (ze_iload rfl)
  replace b := zz_fo b (zlw_421 (K := zz_k0) zz_k0_KS hsp0 hG hP) ze_const
  replace b := zz_fo b (zlw_422 (K := zz_k0) zz_k0_KS hsp0 hG hP) (ze_iadd (zl_ij (4 * m) 2))
  replace b := zz_fo b (zlw_423 (K := zz_k0) hX hL2) (ze_kl (zl_kl xs (j := 4 * m + 2) (by omega) hL) (zz_nI_of _))
  replace b := zz_fo b (zlw_424 (K := zz_k0) zz_k0_KS hsp0 hG hP) (ze_aload rfl)
  replace b := zz_fo b (zlw_425 (K := zz_k0) zz_k0_KS hsp0 hG hP) (ze_iload rfl)
  replace b := zz_fo b (zlw_427 (K := zz_k0) zz_k0_KS hsp0 hG hP) ze_const
  replace b := zz_fo b (zlw_428 (K := zz_k0) zz_k0_KS hsp0 hG hP) (ze_iadd (zl_ij (4 * m) 3))
  replace b := zz_fo b (zlw_429 (K := zz_k0) hX hL2) (ze_kl (zl_kl xs (j := 4 * m + 3) (by omega) hL) (zz_nI_of _))
  replace b := zz_fo b (zlw_430 (K := zz_k0) zz_k0_KS hsp0 hG hP) (ze_aload rfl)
  replace b := zz_gH b (zlh_431 (rv := [.int k]) (r := []) hG hH rfl rfl (zz_lb rfl))
  replace b := zz_fo b (zlw_434 (K := zz_k0) zz_k0_KS hsp0 hG hP) (ze_istore (lv' := [(4, _), (3, _), (2, _), (1, _), (0, _)]) rfl)
  replace b := zz_fo b (zlw_436 (K := zz_k0) zz_k0_KS hsp0 hG hP) (ze_aload rfl)
  replace b := zz_fo b (zlw_437 (K := zz_k0) zz_k0_KS hsp0 hG hP) (ze_aload rfl)
  replace b := zz_fo b (zlw_438 (K := zz_k0) zz_k0_KS hsp0 hG hP) (ze_iload rfl)
  replace b := zz_fo b (zlw_440 (K := zz_k0) zz_k0_KS hsp0 hG hP) ze_const
  replace b := zz_fo b (zlw_441 (K := zz_k0) zz_k0_KS hsp0 hG hP) (ze_iadd (zl_ij (4 * m) 1))
  replace b := zz_fo b (zlw_442 (K := zz_k0) hX hL2) (ze_kl (zl_kl xs (j := 4 * m + 1) (by omega) hL) (zz_nI_of _))
  replace b := zz_fo b (zlw_443 (K := zz_k0) zz_k0_KS hsp0 hG hP) (ze_aload rfl)
  replace b := zz_fo b (zlw_444 (K := zz_k0) zz_k0_KS hsp0 hG hP) (ze_iload rfl)
  replace b := zz_fo b (zlw_446 (K := zz_k0) zz_k0_KS hsp0 hG hP) ze_const
  replace b := zz_fo b (zlw_447 (K := zz_k0) zz_k0_KS hsp0 hG hP) (ze_iadd (zl_ij (4 * m) 2))
  replace b := zz_fo b (zlw_448 (K := zz_k0) hX hL2) (ze_kl (zl_kl xs (j := 4 * m + 2) (by omega) hL) (zz_nI_of _))
  replace b := zz_fo b (zlw_449 (K := zz_k0) zz_k0_KS hsp0 hG hP) (ze_aload rfl)
  replace b := zz_fo b (zlw_450 (K := zz_k0) zz_k0_KS hsp0 hG hP) (ze_iload rfl)
  replace b := zz_fo b (zlw_452 (K := zz_k0) zz_k0_KS hsp0 hG hP) ze_const
  replace b := zz_fo b (zlw_453 (K := zz_k0) zz_k0_KS hsp0 hG hP) (ze_iadd (zl_ij (4 * m) 3))
  replace b := zz_fo b (zlw_454 (K := zz_k0) hX hL2) (ze_kl (zl_kl xs (j := 4 * m + 3) (by omega) hL) (zz_nI_of _))
  replace b := zz_gVi b (fun K h => zlw_455 h hsp0 hG hP) hR rfl rfl h2 (zz_lb rfl)
  replace b := zz_fo b (zlw_458 (K := zz_k0) zz_k0_KS hsp0 hG hP) (ze_istore (lv' := [(5, _), (4, _), (3, _), (2, _), (1, _), (0, _)]) rfl)
  replace b := zz_fo b (zlw_460 (K := zz_k0) zz_k0_KS hsp0 hG hP) ze_goto
  exact zz_fl (lv' := [(4, .int (Int32.ofNat (4 * m))), (3, .ref 328), (2, .ref 171), (1, .ref 0), (0, .ref 1999999)]) b (zz_mc (List.mem_cons_of_mem _ (List.mem_cons_of_mem _ List.mem_cons_self)) (zz_mc (List.mem_cons_of_mem _ (List.mem_cons_of_mem _ (List.mem_cons_of_mem _ List.mem_cons_self))) (zz_mc (List.mem_cons_of_mem _ (List.mem_cons_of_mem _ (List.mem_cons_of_mem _ (List.mem_cons_of_mem _ List.mem_cons_self)))) (zz_mc (List.mem_cons_of_mem _ (List.mem_cons_of_mem _ (List.mem_cons_of_mem _ (List.mem_cons_of_mem _ (List.mem_cons_of_mem _ List.mem_cons_self))))) (zz_mc (List.mem_cons_of_mem _ (List.mem_cons_of_mem _ (List.mem_cons_of_mem _ (List.mem_cons_of_mem _ (List.mem_cons_of_mem _ (List.mem_cons_of_mem _ List.mem_cons_self)))))) zz_mn)))))
theorem zLc_10 {l : Launch} {D : va_G} {cy : Nat → ClassId} {z0 : Nat} {sp : Nat → Nat} {G : State → Prop} (H : zHy l D cy z0 sp G) {mn : String} {L n m : Nat} {xs : Nat → Int32} (hX : ∀ U, G U → va_T .int (sp 999999) L (fun j => .int (xs j)) (fun q : Nat => z0 ≤ q) U U.heap) (hL : L ≤ 2048) (hnm : n ≤ m) (hn4 : 4 * m + 4 ≤ L) {w : zz_W} (h : zIv zQI n 0 w) : ∃ w', zz_B l zTs D zcl zFK cy z0 sp (zTys cy) G "ToolMillLaw" mn 7 code 470 (39, zLv (Int32.ofNat (4 * m)), [.int (Int32.ofNat 10)], w) (899, zLv (Int32.ofNat (4 * m)), [], w') ∧ zIv zQI (n + 1) 0 w' := by
  have hn : n ≤ 511 := by omega
  have hL2 : L ≤ 2147483648 := by omega
  have h0 := zI_ic0 (zIv_I h)
  obtain ⟨k, w1, hH, h1⟩ := zHk_11 H hn h (xs (4 * m + 1)) (xs (4 * m + 2)) (xs (4 * m + 3))
  have h2 := zI_ic171 (zIv_I h1)
  obtain ⟨v, w2, hR, hI⟩ := zRm_35 H hn h1 (xs (4 * m + 1)) (xs (4 * m + 2)) (xs (4 * m + 3))
  obtain ⟨hG, hP, -, hsp0, -, -, -, -⟩ := H
  refine ⟨w2, ?_, hI⟩
  have b := zz_B_rf (l := l) (Ts := zTs) (D := D) (cl := zcl) (fk := zFK) (cy := cy) (z0 := z0) (sp := sp) (tys := zTys cy) (G := G) (own := "ToolMillLaw") (mn := mn) (nL := 7) (cc := code) (d := 470) ((39, [(4, .int (Int32.ofNat (4 * m))), (3, .ref 328), (2, .ref 171), (1, .ref 0), (0, .ref 1999999)], [.int (Int32.ofNat 10)], w) : zz_F)
  replace b := zz_fo b (zlw_39 (K := zz_k0) zz_k0_KS hsp0 hG hP) (ze_tsw_k (t := 463) (by decide) (by decide))
  replace b := zz_fo b (zlw_463 (K := zz_k0) zz_k0_KS hsp0 hG hP) (ze_aload rfl)
  replace b := zz_fo b (zlw_464 (K := zz_k0) zz_k0_KS hsp0 hG hP) (ze_aload rfl)
  replace b := zz_fo b (zlw_465 (K := zz_k0) zz_k0_KS hsp0 hG hP) (ze_iload rfl)
  replace b := zz_fo b (zlw_467 (K := zz_k0) zz_k0_KS hsp0 hG hP) ze_const
  replace b := zz_fo b (zlw_468 (K := zz_k0) zz_k0_KS hsp0 hG hP) (ze_iadd (zl_ij (4 * m) 1))
  replace b := zz_fo b (zlw_469 (K := zz_k0) hX hL2) (ze_kl (zl_kl xs (j := 4 * m + 1) (by omega) hL) (zz_nI_of _))
  replace b := zz_fo b (zlw_470 (K := zz_k0) zz_k0_KS hsp0 hG hP) (ze_aload rfl)
  replace b := zz_fo b (zlw_471 (K := zz_k0) zz_k0_KS hsp0 hG hP) (ze_iload rfl)
  replace b := zz_fo b (zlw_473 (K := zz_k0) zz_k0_KS hsp0 hG hP) ze_const
  replace b := zz_fo b (zlw_474 (K := zz_k0) zz_k0_KS hsp0 hG hP) (ze_iadd (zl_ij (4 * m) 2))
  replace b := zz_fo b (zlw_475 (K := zz_k0) hX hL2) (ze_kl (zl_kl xs (j := 4 * m + 2) (by omega) hL) (zz_nI_of _))
  replace b := zz_fo b (zlw_476 (K := zz_k0) zz_k0_KS hsp0 hG hP) (ze_aload rfl)
  replace b := zz_fo b (zlw_477 (K := zz_k0) zz_k0_KS hsp0 hG hP) (ze_iload rfl)
  replace b := zz_fo b (zlw_479 (K := zz_k0) zz_k0_KS hsp0 hG hP) ze_const
  replace b := zz_fo b (zlw_480 (K := zz_k0) zz_k0_KS hsp0 hG hP) (ze_iadd (zl_ij (4 * m) 3))
  replace b := zz_fo b (zlw_481 (K := zz_k0) hX hL2) (ze_kl (zl_kl xs (j := 4 * m + 3) (by omega) hL) (zz_nI_of _))
  replace b := zz_fo b (zlw_482 (K := zz_k0) zz_k0_KS hsp0 hG hP) (ze_aload rfl)
  replace b := zz_gH b (zlh_483 (rv := [.int k]) (r := []) hG hH rfl rfl (zz_lb rfl))
  replace b := zz_fo b (zlw_486 (K := zz_k0) zz_k0_KS hsp0 hG hP) (ze_istore (lv' := [(4, _), (3, _), (2, _), (1, _), (0, _)]) rfl)
  replace b := zz_fo b (zlw_488 (K := zz_k0) zz_k0_KS hsp0 hG hP) (ze_aload rfl)
  replace b := zz_fo b (zlw_489 (K := zz_k0) zz_k0_KS hsp0 hG hP) (ze_aload rfl)
  replace b := zz_fo b (zlw_490 (K := zz_k0) zz_k0_KS hsp0 hG hP) (ze_iload rfl)
  replace b := zz_fo b (zlw_492 (K := zz_k0) zz_k0_KS hsp0 hG hP) ze_const
  replace b := zz_fo b (zlw_493 (K := zz_k0) zz_k0_KS hsp0 hG hP) (ze_iadd (zl_ij (4 * m) 1))
  replace b := zz_fo b (zlw_494 (K := zz_k0) hX hL2) (ze_kl (zl_kl xs (j := 4 * m + 1) (by omega) hL) (zz_nI_of _))
  replace b := zz_fo b (zlw_495 (K := zz_k0) zz_k0_KS hsp0 hG hP) (ze_aload rfl)
  replace b := zz_fo b (zlw_496 (K := zz_k0) zz_k0_KS hsp0 hG hP) (ze_iload rfl)
  replace b := zz_fo b (zlw_498 (K := zz_k0) zz_k0_KS hsp0 hG hP) ze_const
  replace b := zz_fo b (zlw_499 (K := zz_k0) zz_k0_KS hsp0 hG hP) (ze_iadd (zl_ij (4 * m) 2))
  replace b := zz_fo b (zlw_500 (K := zz_k0) hX hL2) (ze_kl (zl_kl xs (j := 4 * m + 2) (by omega) hL) (zz_nI_of _))
  replace b := zz_fo b (zlw_501 (K := zz_k0) zz_k0_KS hsp0 hG hP) (ze_aload rfl)
  replace b := zz_fo b (zlw_502 (K := zz_k0) zz_k0_KS hsp0 hG hP) (ze_iload rfl)
  replace b := zz_fo b (zlw_504 (K := zz_k0) zz_k0_KS hsp0 hG hP) ze_const
  replace b := zz_fo b (zlw_505 (K := zz_k0) zz_k0_KS hsp0 hG hP) (ze_iadd (zl_ij (4 * m) 3))
  replace b := zz_fo b (zlw_506 (K := zz_k0) hX hL2) (ze_kl (zl_kl xs (j := 4 * m + 3) (by omega) hL) (zz_nI_of _))
  replace b := zz_gVi b (fun K h => zlw_507 h hsp0 hG hP) hR rfl rfl h2 (zz_lb rfl)
  replace b := zz_fo b (zlw_510 (K := zz_k0) zz_k0_KS hsp0 hG hP) (ze_istore (lv' := [(5, _), (4, _), (3, _), (2, _), (1, _), (0, _)]) rfl)
  replace b := zz_fo b (zlw_512 (K := zz_k0) zz_k0_KS hsp0 hG hP) ze_goto
  exact zz_fl (lv' := [(4, .int (Int32.ofNat (4 * m))), (3, .ref 328), (2, .ref 171), (1, .ref 0), (0, .ref 1999999)]) b (zz_mc (List.mem_cons_of_mem _ (List.mem_cons_of_mem _ List.mem_cons_self)) (zz_mc (List.mem_cons_of_mem _ (List.mem_cons_of_mem _ (List.mem_cons_of_mem _ List.mem_cons_self))) (zz_mc (List.mem_cons_of_mem _ (List.mem_cons_of_mem _ (List.mem_cons_of_mem _ (List.mem_cons_of_mem _ List.mem_cons_self)))) (zz_mc (List.mem_cons_of_mem _ (List.mem_cons_of_mem _ (List.mem_cons_of_mem _ (List.mem_cons_of_mem _ (List.mem_cons_of_mem _ List.mem_cons_self))))) (zz_mc (List.mem_cons_of_mem _ (List.mem_cons_of_mem _ (List.mem_cons_of_mem _ (List.mem_cons_of_mem _ (List.mem_cons_of_mem _ (List.mem_cons_of_mem _ List.mem_cons_self)))))) zz_mn)))))
theorem zLc_11 {l : Launch} {D : va_G} {cy : Nat → ClassId} {z0 : Nat} {sp : Nat → Nat} {G : State → Prop} (H : zHy l D cy z0 sp G) {mn : String} {L n m : Nat} {xs : Nat → Int32} (hX : ∀ U, G U → va_T .int (sp 999999) L (fun j => .int (xs j)) (fun q : Nat => z0 ≤ q) U U.heap) (hL : L ≤ 2048) (hnm : n ≤ m) (hn4 : 4 * m + 4 ≤ L) {w : zz_W} (h : zIv zQI n 0 w) : ∃ w', zz_B l zTs D zcl zFK cy z0 sp (zTys cy) G "ToolMillLaw" mn 7 code 470 (39, zLv (Int32.ofNat (4 * m)), [.int (Int32.ofNat 11)], w) (899, zLv (Int32.ofNat (4 * m)), [], w') ∧ zIv zQI (n + 1) 0 w' := by
  have hn : n ≤ 511 := by omega
  have hL2 : L ≤ 2147483648 := by omega
  have h0 := zI_ic0 (zIv_I h)
  obtain ⟨k, w1, hH, h1⟩ := zHk_12 H hn h (xs (4 * m + 1)) (xs (4 * m + 2)) (xs (4 * m + 3))
  have h2 := zI_ic171 (zIv_I h1)
  obtain ⟨v, w2, hR, hI⟩ := zRm_36 H hn h1 (xs (4 * m + 1)) (xs (4 * m + 2)) (xs (4 * m + 3))
  obtain ⟨hG, hP, -, hsp0, -, -, -, -⟩ := H
  refine ⟨w2, ?_, hI⟩
  have b := zz_B_rf (l := l) (Ts := zTs) (D := D) (cl := zcl) (fk := zFK) (cy := cy) (z0 := z0) (sp := sp) (tys := zTys cy) (G := G) (own := "ToolMillLaw") (mn := mn) (nL := 7) (cc := code) (d := 470) ((39, [(4, .int (Int32.ofNat (4 * m))), (3, .ref 328), (2, .ref 171), (1, .ref 0), (0, .ref 1999999)], [.int (Int32.ofNat 11)], w) : zz_F)
  replace b := zz_fo b (zlw_39 (K := zz_k0) zz_k0_KS hsp0 hG hP) (ze_tsw_k (t := 515) (by decide) (by decide))
  replace b := zz_fo b (zlw_515 (K := zz_k0) zz_k0_KS hsp0 hG hP) (ze_aload rfl)
  replace b := zz_fo b (zlw_516 (K := zz_k0) zz_k0_KS hsp0 hG hP) (ze_aload rfl)
  replace b := zz_fo b (zlw_517 (K := zz_k0) zz_k0_KS hsp0 hG hP) (ze_iload rfl)
  replace b := zz_fo b (zlw_519 (K := zz_k0) zz_k0_KS hsp0 hG hP) ze_const
  replace b := zz_fo b (zlw_520 (K := zz_k0) zz_k0_KS hsp0 hG hP) (ze_iadd (zl_ij (4 * m) 1))
  replace b := zz_fo b (zlw_521 (K := zz_k0) hX hL2) (ze_kl (zl_kl xs (j := 4 * m + 1) (by omega) hL) (zz_nI_of _))
  replace b := zz_fo b (zlw_522 (K := zz_k0) zz_k0_KS hsp0 hG hP) (ze_aload rfl)
  replace b := zz_fo b (zlw_523 (K := zz_k0) zz_k0_KS hsp0 hG hP) (ze_iload rfl)
  replace b := zz_fo b (zlw_525 (K := zz_k0) zz_k0_KS hsp0 hG hP) ze_const
  replace b := zz_fo b (zlw_526 (K := zz_k0) zz_k0_KS hsp0 hG hP) (ze_iadd (zl_ij (4 * m) 2))
  replace b := zz_fo b (zlw_527 (K := zz_k0) hX hL2) (ze_kl (zl_kl xs (j := 4 * m + 2) (by omega) hL) (zz_nI_of _))
  replace b := zz_fo b (zlw_528 (K := zz_k0) zz_k0_KS hsp0 hG hP) (ze_aload rfl)
  replace b := zz_fo b (zlw_529 (K := zz_k0) zz_k0_KS hsp0 hG hP) (ze_iload rfl)
  replace b := zz_fo b (zlw_531 (K := zz_k0) zz_k0_KS hsp0 hG hP) ze_const
  replace b := zz_fo b (zlw_532 (K := zz_k0) zz_k0_KS hsp0 hG hP) (ze_iadd (zl_ij (4 * m) 3))
  replace b := zz_fo b (zlw_533 (K := zz_k0) hX hL2) (ze_kl (zl_kl xs (j := 4 * m + 3) (by omega) hL) (zz_nI_of _))
  replace b := zz_fo b (zlw_534 (K := zz_k0) zz_k0_KS hsp0 hG hP) (ze_aload rfl)
  replace b := zz_gH b (zlh_535 (rv := [.int k]) (r := []) hG hH rfl rfl (zz_lb rfl))
  replace b := zz_fo b (zlw_538 (K := zz_k0) zz_k0_KS hsp0 hG hP) (ze_istore (lv' := [(4, _), (3, _), (2, _), (1, _), (0, _)]) rfl)
  replace b := zz_fo b (zlw_540 (K := zz_k0) zz_k0_KS hsp0 hG hP) (ze_aload rfl)
  replace b := zz_fo b (zlw_541 (K := zz_k0) zz_k0_KS hsp0 hG hP) (ze_aload rfl)
  replace b := zz_fo b (zlw_542 (K := zz_k0) zz_k0_KS hsp0 hG hP) (ze_iload rfl)
  replace b := zz_fo b (zlw_544 (K := zz_k0) zz_k0_KS hsp0 hG hP) ze_const
  replace b := zz_fo b (zlw_545 (K := zz_k0) zz_k0_KS hsp0 hG hP) (ze_iadd (zl_ij (4 * m) 1))
  replace b := zz_fo b (zlw_546 (K := zz_k0) hX hL2) (ze_kl (zl_kl xs (j := 4 * m + 1) (by omega) hL) (zz_nI_of _))
  replace b := zz_fo b (zlw_547 (K := zz_k0) zz_k0_KS hsp0 hG hP) (ze_aload rfl)
  replace b := zz_fo b (zlw_548 (K := zz_k0) zz_k0_KS hsp0 hG hP) (ze_iload rfl)
  replace b := zz_fo b (zlw_550 (K := zz_k0) zz_k0_KS hsp0 hG hP) ze_const
  replace b := zz_fo b (zlw_551 (K := zz_k0) zz_k0_KS hsp0 hG hP) (ze_iadd (zl_ij (4 * m) 2))
  replace b := zz_fo b (zlw_552 (K := zz_k0) hX hL2) (ze_kl (zl_kl xs (j := 4 * m + 2) (by omega) hL) (zz_nI_of _))
  replace b := zz_fo b (zlw_553 (K := zz_k0) zz_k0_KS hsp0 hG hP) (ze_aload rfl)
  replace b := zz_fo b (zlw_554 (K := zz_k0) zz_k0_KS hsp0 hG hP) (ze_iload rfl)
  replace b := zz_fo b (zlw_556 (K := zz_k0) zz_k0_KS hsp0 hG hP) ze_const
  replace b := zz_fo b (zlw_557 (K := zz_k0) zz_k0_KS hsp0 hG hP) (ze_iadd (zl_ij (4 * m) 3))
  replace b := zz_fo b (zlw_558 (K := zz_k0) hX hL2) (ze_kl (zl_kl xs (j := 4 * m + 3) (by omega) hL) (zz_nI_of _))
  replace b := zz_gVi b (fun K h => zlw_559 h hsp0 hG hP) hR rfl rfl h2 (zz_lb rfl)
  replace b := zz_fo b (zlw_562 (K := zz_k0) zz_k0_KS hsp0 hG hP) (ze_istore (lv' := [(5, _), (4, _), (3, _), (2, _), (1, _), (0, _)]) rfl)
  replace b := zz_fo b (zlw_564 (K := zz_k0) zz_k0_KS hsp0 hG hP) ze_goto
  exact zz_fl (lv' := [(4, .int (Int32.ofNat (4 * m))), (3, .ref 328), (2, .ref 171), (1, .ref 0), (0, .ref 1999999)]) b (zz_mc (List.mem_cons_of_mem _ (List.mem_cons_of_mem _ List.mem_cons_self)) (zz_mc (List.mem_cons_of_mem _ (List.mem_cons_of_mem _ (List.mem_cons_of_mem _ List.mem_cons_self))) (zz_mc (List.mem_cons_of_mem _ (List.mem_cons_of_mem _ (List.mem_cons_of_mem _ (List.mem_cons_of_mem _ List.mem_cons_self)))) (zz_mc (List.mem_cons_of_mem _ (List.mem_cons_of_mem _ (List.mem_cons_of_mem _ (List.mem_cons_of_mem _ (List.mem_cons_of_mem _ List.mem_cons_self))))) (zz_mc (List.mem_cons_of_mem _ (List.mem_cons_of_mem _ (List.mem_cons_of_mem _ (List.mem_cons_of_mem _ (List.mem_cons_of_mem _ (List.mem_cons_of_mem _ List.mem_cons_self)))))) zz_mn)))))
theorem zLc_12 {l : Launch} {D : va_G} {cy : Nat → ClassId} {z0 : Nat} {sp : Nat → Nat} {G : State → Prop} (H : zHy l D cy z0 sp G) {mn : String} {L n m : Nat} {xs : Nat → Int32} (hX : ∀ U, G U → va_T .int (sp 999999) L (fun j => .int (xs j)) (fun q : Nat => z0 ≤ q) U U.heap) (hL : L ≤ 2048) (hnm : n ≤ m) (hn4 : 4 * m + 4 ≤ L) {w : zz_W} (h : zIv zQI n 0 w) : ∃ w', zz_B l zTs D zcl zFK cy z0 sp (zTys cy) G "ToolMillLaw" mn 7 code 470 (39, zLv (Int32.ofNat (4 * m)), [.int (Int32.ofNat 12)], w) (899, zLv (Int32.ofNat (4 * m)), [], w') ∧ zIv zQI (n + 1) 0 w' := by
  have hn : n ≤ 511 := by omega
  have hL2 : L ≤ 2147483648 := by omega
  have h0 := zI_ic0 (zIv_I h)
  obtain ⟨k, w1, hH, h1⟩ := zHk_13 H hn h (xs (4 * m + 1))
  have h2 := zI_ic171 (zIv_I h1)
  obtain ⟨v, w2, hR, hI⟩ := zRm_37 H hn h1 (xs (4 * m + 1))
  obtain ⟨hG, hP, -, hsp0, -, -, -, -⟩ := H
  refine ⟨w2, ?_, hI⟩
  have b := zz_B_rf (l := l) (Ts := zTs) (D := D) (cl := zcl) (fk := zFK) (cy := cy) (z0 := z0) (sp := sp) (tys := zTys cy) (G := G) (own := "ToolMillLaw") (mn := mn) (nL := 7) (cc := code) (d := 470) ((39, [(4, .int (Int32.ofNat (4 * m))), (3, .ref 328), (2, .ref 171), (1, .ref 0), (0, .ref 1999999)], [.int (Int32.ofNat 12)], w) : zz_F)
  replace b := zz_fo b (zlw_39 (K := zz_k0) zz_k0_KS hsp0 hG hP) (ze_tsw_k (t := 567) (by decide) (by decide))
  replace b := zz_fo b (zlw_567 (K := zz_k0) zz_k0_KS hsp0 hG hP) (ze_aload rfl)
  replace b := zz_fo b (zlw_568 (K := zz_k0) zz_k0_KS hsp0 hG hP) (ze_aload rfl)
  replace b := zz_fo b (zlw_569 (K := zz_k0) zz_k0_KS hsp0 hG hP) (ze_iload rfl)
  replace b := zz_fo b (zlw_571 (K := zz_k0) zz_k0_KS hsp0 hG hP) ze_const
  replace b := zz_fo b (zlw_572 (K := zz_k0) zz_k0_KS hsp0 hG hP) (ze_iadd (zl_ij (4 * m) 1))
  replace b := zz_fo b (zlw_573 (K := zz_k0) hX hL2) (ze_kl (zl_kl xs (j := 4 * m + 1) (by omega) hL) (zz_nI_of _))
  replace b := zz_fo b (zlw_574 (K := zz_k0) zz_k0_KS hsp0 hG hP) (ze_aload rfl)
  replace b := zz_gH b (zlh_575 (rv := [.int k]) (r := []) hG hH rfl rfl (zz_lb rfl))
  replace b := zz_fo b (zlw_578 (K := zz_k0) zz_k0_KS hsp0 hG hP) (ze_istore (lv' := [(4, _), (3, _), (2, _), (1, _), (0, _)]) rfl)
  replace b := zz_fo b (zlw_580 (K := zz_k0) zz_k0_KS hsp0 hG hP) (ze_aload rfl)
  replace b := zz_fo b (zlw_581 (K := zz_k0) zz_k0_KS hsp0 hG hP) (ze_aload rfl)
  replace b := zz_fo b (zlw_582 (K := zz_k0) zz_k0_KS hsp0 hG hP) (ze_iload rfl)
  replace b := zz_fo b (zlw_584 (K := zz_k0) zz_k0_KS hsp0 hG hP) ze_const
  replace b := zz_fo b (zlw_585 (K := zz_k0) zz_k0_KS hsp0 hG hP) (ze_iadd (zl_ij (4 * m) 1))
  replace b := zz_fo b (zlw_586 (K := zz_k0) hX hL2) (ze_kl (zl_kl xs (j := 4 * m + 1) (by omega) hL) (zz_nI_of _))
  replace b := zz_gVi b (fun K h => zlw_587 h hsp0 hG hP) hR rfl rfl h2 (zz_lb rfl)
  replace b := zz_fo b (zlw_590 (K := zz_k0) zz_k0_KS hsp0 hG hP) (ze_istore (lv' := [(5, _), (4, _), (3, _), (2, _), (1, _), (0, _)]) rfl)
  replace b := zz_fo b (zlw_592 (K := zz_k0) zz_k0_KS hsp0 hG hP) ze_goto
  exact zz_fl (lv' := [(4, .int (Int32.ofNat (4 * m))), (3, .ref 328), (2, .ref 171), (1, .ref 0), (0, .ref 1999999)]) b (zz_mc (List.mem_cons_of_mem _ (List.mem_cons_of_mem _ List.mem_cons_self)) (zz_mc (List.mem_cons_of_mem _ (List.mem_cons_of_mem _ (List.mem_cons_of_mem _ List.mem_cons_self))) (zz_mc (List.mem_cons_of_mem _ (List.mem_cons_of_mem _ (List.mem_cons_of_mem _ (List.mem_cons_of_mem _ List.mem_cons_self)))) (zz_mc (List.mem_cons_of_mem _ (List.mem_cons_of_mem _ (List.mem_cons_of_mem _ (List.mem_cons_of_mem _ (List.mem_cons_of_mem _ List.mem_cons_self))))) (zz_mc (List.mem_cons_of_mem _ (List.mem_cons_of_mem _ (List.mem_cons_of_mem _ (List.mem_cons_of_mem _ (List.mem_cons_of_mem _ (List.mem_cons_of_mem _ List.mem_cons_self)))))) zz_mn)))))
theorem zLc_13 {l : Launch} {D : va_G} {cy : Nat → ClassId} {z0 : Nat} {sp : Nat → Nat} {G : State → Prop} (H : zHy l D cy z0 sp G) {mn : String} {L n m : Nat} {xs : Nat → Int32} (hX : ∀ U, G U → va_T .int (sp 999999) L (fun j => .int (xs j)) (fun q : Nat => z0 ≤ q) U U.heap) (hL : L ≤ 2048) (hnm : n ≤ m) (hn4 : 4 * m + 4 ≤ L) {w : zz_W} (h : zIv zQI n 0 w) : ∃ w', zz_B l zTs D zcl zFK cy z0 sp (zTys cy) G "ToolMillLaw" mn 7 code 470 (39, zLv (Int32.ofNat (4 * m)), [.int (Int32.ofNat 13)], w) (899, zLv (Int32.ofNat (4 * m)), [], w') ∧ zIv zQI (n + 1) 0 w' := by
  have hn : n ≤ 511 := by omega
  have hL2 : L ≤ 2147483648 := by omega
  have h0 := zI_ic0 (zIv_I h)
  obtain ⟨k, w1, hH, h1⟩ := zHk_14 H hn h (xs (4 * m + 1)) (xs (4 * m + 2))
  have h2 := zI_ic171 (zIv_I h1)
  obtain ⟨v, w2, hR, hI⟩ := zRm_38 H hn h1 (xs (4 * m + 1)) (xs (4 * m + 2))
  obtain ⟨hG, hP, -, hsp0, -, -, -, -⟩ := H
  refine ⟨w2, ?_, hI⟩
  have b := zz_B_rf (l := l) (Ts := zTs) (D := D) (cl := zcl) (fk := zFK) (cy := cy) (z0 := z0) (sp := sp) (tys := zTys cy) (G := G) (own := "ToolMillLaw") (mn := mn) (nL := 7) (cc := code) (d := 470) ((39, [(4, .int (Int32.ofNat (4 * m))), (3, .ref 328), (2, .ref 171), (1, .ref 0), (0, .ref 1999999)], [.int (Int32.ofNat 13)], w) : zz_F)
  replace b := zz_fo b (zlw_39 (K := zz_k0) zz_k0_KS hsp0 hG hP) (ze_tsw_k (t := 595) (by decide) (by decide))
  replace b := zz_fo b (zlw_595 (K := zz_k0) zz_k0_KS hsp0 hG hP) (ze_aload rfl)
  replace b := zz_fo b (zlw_596 (K := zz_k0) zz_k0_KS hsp0 hG hP) (ze_aload rfl)
  replace b := zz_fo b (zlw_597 (K := zz_k0) zz_k0_KS hsp0 hG hP) (ze_iload rfl)
  replace b := zz_fo b (zlw_599 (K := zz_k0) zz_k0_KS hsp0 hG hP) ze_const
  replace b := zz_fo b (zlw_600 (K := zz_k0) zz_k0_KS hsp0 hG hP) (ze_iadd (zl_ij (4 * m) 1))
  replace b := zz_fo b (zlw_601 (K := zz_k0) hX hL2) (ze_kl (zl_kl xs (j := 4 * m + 1) (by omega) hL) (zz_nI_of _))
  replace b := zz_fo b (zlw_602 (K := zz_k0) zz_k0_KS hsp0 hG hP) (ze_aload rfl)
  replace b := zz_fo b (zlw_603 (K := zz_k0) zz_k0_KS hsp0 hG hP) (ze_iload rfl)
  replace b := zz_fo b (zlw_605 (K := zz_k0) zz_k0_KS hsp0 hG hP) ze_const
  replace b := zz_fo b (zlw_606 (K := zz_k0) zz_k0_KS hsp0 hG hP) (ze_iadd (zl_ij (4 * m) 2))
  replace b := zz_fo b (zlw_607 (K := zz_k0) hX hL2) (ze_kl (zl_kl xs (j := 4 * m + 2) (by omega) hL) (zz_nI_of _))
  replace b := zz_fo b (zlw_608 (K := zz_k0) zz_k0_KS hsp0 hG hP) (ze_aload rfl)
  replace b := zz_gH b (zlh_609 (rv := [.int k]) (r := []) hG hH rfl rfl (zz_lb rfl))
  replace b := zz_fo b (zlw_612 (K := zz_k0) zz_k0_KS hsp0 hG hP) (ze_istore (lv' := [(4, _), (3, _), (2, _), (1, _), (0, _)]) rfl)
  replace b := zz_fo b (zlw_614 (K := zz_k0) zz_k0_KS hsp0 hG hP) (ze_aload rfl)
  replace b := zz_fo b (zlw_615 (K := zz_k0) zz_k0_KS hsp0 hG hP) (ze_aload rfl)
  replace b := zz_fo b (zlw_616 (K := zz_k0) zz_k0_KS hsp0 hG hP) (ze_iload rfl)
  replace b := zz_fo b (zlw_618 (K := zz_k0) zz_k0_KS hsp0 hG hP) ze_const
  replace b := zz_fo b (zlw_619 (K := zz_k0) zz_k0_KS hsp0 hG hP) (ze_iadd (zl_ij (4 * m) 1))
  replace b := zz_fo b (zlw_620 (K := zz_k0) hX hL2) (ze_kl (zl_kl xs (j := 4 * m + 1) (by omega) hL) (zz_nI_of _))
  replace b := zz_fo b (zlw_621 (K := zz_k0) zz_k0_KS hsp0 hG hP) (ze_aload rfl)
  replace b := zz_fo b (zlw_622 (K := zz_k0) zz_k0_KS hsp0 hG hP) (ze_iload rfl)
  replace b := zz_fo b (zlw_624 (K := zz_k0) zz_k0_KS hsp0 hG hP) ze_const
  replace b := zz_fo b (zlw_625 (K := zz_k0) zz_k0_KS hsp0 hG hP) (ze_iadd (zl_ij (4 * m) 2))
  replace b := zz_fo b (zlw_626 (K := zz_k0) hX hL2) (ze_kl (zl_kl xs (j := 4 * m + 2) (by omega) hL) (zz_nI_of _))
  replace b := zz_gVi b (fun K h => zlw_627 h hsp0 hG hP) hR rfl rfl h2 (zz_lb rfl)
  replace b := zz_fo b (zlw_630 (K := zz_k0) zz_k0_KS hsp0 hG hP) (ze_istore (lv' := [(5, _), (4, _), (3, _), (2, _), (1, _), (0, _)]) rfl)
  replace b := zz_fo b (zlw_632 (K := zz_k0) zz_k0_KS hsp0 hG hP) ze_goto
  exact zz_fl (lv' := [(4, .int (Int32.ofNat (4 * m))), (3, .ref 328), (2, .ref 171), (1, .ref 0), (0, .ref 1999999)]) b (zz_mc (List.mem_cons_of_mem _ (List.mem_cons_of_mem _ List.mem_cons_self)) (zz_mc (List.mem_cons_of_mem _ (List.mem_cons_of_mem _ (List.mem_cons_of_mem _ List.mem_cons_self))) (zz_mc (List.mem_cons_of_mem _ (List.mem_cons_of_mem _ (List.mem_cons_of_mem _ (List.mem_cons_of_mem _ List.mem_cons_self)))) (zz_mc (List.mem_cons_of_mem _ (List.mem_cons_of_mem _ (List.mem_cons_of_mem _ (List.mem_cons_of_mem _ (List.mem_cons_of_mem _ List.mem_cons_self))))) (zz_mc (List.mem_cons_of_mem _ (List.mem_cons_of_mem _ (List.mem_cons_of_mem _ (List.mem_cons_of_mem _ (List.mem_cons_of_mem _ (List.mem_cons_of_mem _ List.mem_cons_self)))))) zz_mn)))))
theorem zLc_14 {l : Launch} {D : va_G} {cy : Nat → ClassId} {z0 : Nat} {sp : Nat → Nat} {G : State → Prop} (H : zHy l D cy z0 sp G) {mn : String} {L n m : Nat} {xs : Nat → Int32} (hX : ∀ U, G U → va_T .int (sp 999999) L (fun j => .int (xs j)) (fun q : Nat => z0 ≤ q) U U.heap) (hL : L ≤ 2048) (hnm : n ≤ m) (hn4 : 4 * m + 4 ≤ L) {w : zz_W} (h : zIv zQI n 0 w) : ∃ w', zz_B l zTs D zcl zFK cy z0 sp (zTys cy) G "ToolMillLaw" mn 7 code 470 (39, zLv (Int32.ofNat (4 * m)), [.int (Int32.ofNat 14)], w) (899, zLv (Int32.ofNat (4 * m)), [], w') ∧ zIv zQI (n + 1) 0 w' := by
  have hn : n ≤ 511 := by omega
  have hL2 : L ≤ 2147483648 := by omega
  have h0 := zI_ic0 (zIv_I h)
  obtain ⟨k, w1, hH, h1⟩ := zHk_15 H hn h (xs (4 * m + 1))
  have h2 := zI_ic171 (zIv_I h1)
  obtain ⟨v, w2, hR, hI⟩ := zRm_39 H hn h1 (xs (4 * m + 1))
  obtain ⟨hG, hP, -, hsp0, -, -, -, -⟩ := H
  refine ⟨w2, ?_, hI⟩
  have b := zz_B_rf (l := l) (Ts := zTs) (D := D) (cl := zcl) (fk := zFK) (cy := cy) (z0 := z0) (sp := sp) (tys := zTys cy) (G := G) (own := "ToolMillLaw") (mn := mn) (nL := 7) (cc := code) (d := 470) ((39, [(4, .int (Int32.ofNat (4 * m))), (3, .ref 328), (2, .ref 171), (1, .ref 0), (0, .ref 1999999)], [.int (Int32.ofNat 14)], w) : zz_F)
  replace b := zz_fo b (zlw_39 (K := zz_k0) zz_k0_KS hsp0 hG hP) (ze_tsw_k (t := 635) (by decide) (by decide))
  replace b := zz_fo b (zlw_635 (K := zz_k0) zz_k0_KS hsp0 hG hP) (ze_aload rfl)
  replace b := zz_fo b (zlw_636 (K := zz_k0) zz_k0_KS hsp0 hG hP) (ze_aload rfl)
  replace b := zz_fo b (zlw_637 (K := zz_k0) zz_k0_KS hsp0 hG hP) (ze_iload rfl)
  replace b := zz_fo b (zlw_639 (K := zz_k0) zz_k0_KS hsp0 hG hP) ze_const
  replace b := zz_fo b (zlw_640 (K := zz_k0) zz_k0_KS hsp0 hG hP) (ze_iadd (zl_ij (4 * m) 1))
  replace b := zz_fo b (zlw_641 (K := zz_k0) hX hL2) (ze_kl (zl_kl xs (j := 4 * m + 1) (by omega) hL) (zz_nI_of _))
  replace b := zz_fo b (zlw_642 (K := zz_k0) zz_k0_KS hsp0 hG hP) (ze_aload rfl)
  replace b := zz_gH b (zlh_643 (rv := [.int k]) (r := []) hG hH rfl rfl (zz_lb rfl))
  replace b := zz_fo b (zlw_646 (K := zz_k0) zz_k0_KS hsp0 hG hP) (ze_istore (lv' := [(4, _), (3, _), (2, _), (1, _), (0, _)]) rfl)
  replace b := zz_fo b (zlw_648 (K := zz_k0) zz_k0_KS hsp0 hG hP) (ze_aload rfl)
  replace b := zz_fo b (zlw_649 (K := zz_k0) zz_k0_KS hsp0 hG hP) (ze_aload rfl)
  replace b := zz_fo b (zlw_650 (K := zz_k0) zz_k0_KS hsp0 hG hP) (ze_iload rfl)
  replace b := zz_fo b (zlw_652 (K := zz_k0) zz_k0_KS hsp0 hG hP) ze_const
  replace b := zz_fo b (zlw_653 (K := zz_k0) zz_k0_KS hsp0 hG hP) (ze_iadd (zl_ij (4 * m) 1))
  replace b := zz_fo b (zlw_654 (K := zz_k0) hX hL2) (ze_kl (zl_kl xs (j := 4 * m + 1) (by omega) hL) (zz_nI_of _))
  replace b := zz_gVi b (fun K h => zlw_655 h hsp0 hG hP) hR rfl rfl h2 (zz_lb rfl)
  replace b := zz_fo b (zlw_658 (K := zz_k0) zz_k0_KS hsp0 hG hP) (ze_istore (lv' := [(5, _), (4, _), (3, _), (2, _), (1, _), (0, _)]) rfl)
  replace b := zz_fo b (zlw_660 (K := zz_k0) zz_k0_KS hsp0 hG hP) ze_goto
  exact zz_fl (lv' := [(4, .int (Int32.ofNat (4 * m))), (3, .ref 328), (2, .ref 171), (1, .ref 0), (0, .ref 1999999)]) b (zz_mc (List.mem_cons_of_mem _ (List.mem_cons_of_mem _ List.mem_cons_self)) (zz_mc (List.mem_cons_of_mem _ (List.mem_cons_of_mem _ (List.mem_cons_of_mem _ List.mem_cons_self))) (zz_mc (List.mem_cons_of_mem _ (List.mem_cons_of_mem _ (List.mem_cons_of_mem _ (List.mem_cons_of_mem _ List.mem_cons_self)))) (zz_mc (List.mem_cons_of_mem _ (List.mem_cons_of_mem _ (List.mem_cons_of_mem _ (List.mem_cons_of_mem _ (List.mem_cons_of_mem _ List.mem_cons_self))))) (zz_mc (List.mem_cons_of_mem _ (List.mem_cons_of_mem _ (List.mem_cons_of_mem _ (List.mem_cons_of_mem _ (List.mem_cons_of_mem _ (List.mem_cons_of_mem _ List.mem_cons_self)))))) zz_mn)))))
theorem zLc_15 {l : Launch} {D : va_G} {cy : Nat → ClassId} {z0 : Nat} {sp : Nat → Nat} {G : State → Prop} (H : zHy l D cy z0 sp G) {mn : String} {L n m : Nat} {xs : Nat → Int32} (hX : ∀ U, G U → va_T .int (sp 999999) L (fun j => .int (xs j)) (fun q : Nat => z0 ≤ q) U U.heap) (hL : L ≤ 2048) (hnm : n ≤ m) (hn4 : 4 * m + 4 ≤ L) {w : zz_W} (h : zIv zQI n 0 w) : ∃ w', zz_B l zTs D zcl zFK cy z0 sp (zTys cy) G "ToolMillLaw" mn 7 code 470 (39, zLv (Int32.ofNat (4 * m)), [.int (Int32.ofNat 15)], w) (899, zLv (Int32.ofNat (4 * m)), [], w') ∧ zIv zQI (n + 1) 0 w' := by
  have hn : n ≤ 511 := by omega
  have hL2 : L ≤ 2147483648 := by omega
  have h0 := zI_ic0 (zIv_I h)
  obtain ⟨k, w1, hH, h1⟩ := zHk_16 H hn h (xs (4 * m + 1))
  have h2 := zI_ic171 (zIv_I h1)
  obtain ⟨v, w2, hR, hI⟩ := zRm_40 H hn h1 (xs (4 * m + 1))
  obtain ⟨hG, hP, -, hsp0, -, -, -, -⟩ := H
  refine ⟨w2, ?_, hI⟩
  have b := zz_B_rf (l := l) (Ts := zTs) (D := D) (cl := zcl) (fk := zFK) (cy := cy) (z0 := z0) (sp := sp) (tys := zTys cy) (G := G) (own := "ToolMillLaw") (mn := mn) (nL := 7) (cc := code) (d := 470) ((39, [(4, .int (Int32.ofNat (4 * m))), (3, .ref 328), (2, .ref 171), (1, .ref 0), (0, .ref 1999999)], [.int (Int32.ofNat 15)], w) : zz_F)
  replace b := zz_fo b (zlw_39 (K := zz_k0) zz_k0_KS hsp0 hG hP) (ze_tsw_k (t := 663) (by decide) (by decide))
  replace b := zz_fo b (zlw_663 (K := zz_k0) zz_k0_KS hsp0 hG hP) (ze_aload rfl)
  replace b := zz_fo b (zlw_664 (K := zz_k0) zz_k0_KS hsp0 hG hP) (ze_aload rfl)
  replace b := zz_fo b (zlw_665 (K := zz_k0) zz_k0_KS hsp0 hG hP) (ze_iload rfl)
  replace b := zz_fo b (zlw_667 (K := zz_k0) zz_k0_KS hsp0 hG hP) ze_const
  replace b := zz_fo b (zlw_668 (K := zz_k0) zz_k0_KS hsp0 hG hP) (ze_iadd (zl_ij (4 * m) 1))
  replace b := zz_fo b (zlw_669 (K := zz_k0) hX hL2) (ze_kl (zl_kl xs (j := 4 * m + 1) (by omega) hL) (zz_nI_of _))
  replace b := zz_fo b (zlw_670 (K := zz_k0) zz_k0_KS hsp0 hG hP) (ze_aload rfl)
  replace b := zz_gH b (zlh_671 (rv := [.int k]) (r := []) hG hH rfl rfl (zz_lb rfl))
  replace b := zz_fo b (zlw_674 (K := zz_k0) zz_k0_KS hsp0 hG hP) (ze_istore (lv' := [(4, _), (3, _), (2, _), (1, _), (0, _)]) rfl)
  replace b := zz_fo b (zlw_676 (K := zz_k0) zz_k0_KS hsp0 hG hP) (ze_aload rfl)
  replace b := zz_fo b (zlw_677 (K := zz_k0) zz_k0_KS hsp0 hG hP) (ze_aload rfl)
  replace b := zz_fo b (zlw_678 (K := zz_k0) zz_k0_KS hsp0 hG hP) (ze_iload rfl)
  replace b := zz_fo b (zlw_680 (K := zz_k0) zz_k0_KS hsp0 hG hP) ze_const
  replace b := zz_fo b (zlw_681 (K := zz_k0) zz_k0_KS hsp0 hG hP) (ze_iadd (zl_ij (4 * m) 1))
  replace b := zz_fo b (zlw_682 (K := zz_k0) hX hL2) (ze_kl (zl_kl xs (j := 4 * m + 1) (by omega) hL) (zz_nI_of _))
  replace b := zz_gVi b (fun K h => zlw_683 h hsp0 hG hP) hR rfl rfl h2 (zz_lb rfl)
  replace b := zz_fo b (zlw_686 (K := zz_k0) zz_k0_KS hsp0 hG hP) (ze_istore (lv' := [(5, _), (4, _), (3, _), (2, _), (1, _), (0, _)]) rfl)
  replace b := zz_fo b (zlw_688 (K := zz_k0) zz_k0_KS hsp0 hG hP) ze_goto
  exact zz_fl (lv' := [(4, .int (Int32.ofNat (4 * m))), (3, .ref 328), (2, .ref 171), (1, .ref 0), (0, .ref 1999999)]) b (zz_mc (List.mem_cons_of_mem _ (List.mem_cons_of_mem _ List.mem_cons_self)) (zz_mc (List.mem_cons_of_mem _ (List.mem_cons_of_mem _ (List.mem_cons_of_mem _ List.mem_cons_self))) (zz_mc (List.mem_cons_of_mem _ (List.mem_cons_of_mem _ (List.mem_cons_of_mem _ (List.mem_cons_of_mem _ List.mem_cons_self)))) (zz_mc (List.mem_cons_of_mem _ (List.mem_cons_of_mem _ (List.mem_cons_of_mem _ (List.mem_cons_of_mem _ (List.mem_cons_of_mem _ List.mem_cons_self))))) (zz_mc (List.mem_cons_of_mem _ (List.mem_cons_of_mem _ (List.mem_cons_of_mem _ (List.mem_cons_of_mem _ (List.mem_cons_of_mem _ (List.mem_cons_of_mem _ List.mem_cons_self)))))) zz_mn)))))
theorem zLc_16 {l : Launch} {D : va_G} {cy : Nat → ClassId} {z0 : Nat} {sp : Nat → Nat} {G : State → Prop} (H : zHy l D cy z0 sp G) {mn : String} {L n m : Nat} {xs : Nat → Int32} (hX : ∀ U, G U → va_T .int (sp 999999) L (fun j => .int (xs j)) (fun q : Nat => z0 ≤ q) U U.heap) (hL : L ≤ 2048) (hnm : n ≤ m) (hn4 : 4 * m + 4 ≤ L) {w : zz_W} (h : zIv zQI n 0 w) : ∃ w', zz_B l zTs D zcl zFK cy z0 sp (zTys cy) G "ToolMillLaw" mn 7 code 470 (39, zLv (Int32.ofNat (4 * m)), [.int (Int32.ofNat 16)], w) (899, zLv (Int32.ofNat (4 * m)), [], w') ∧ zIv zQI (n + 1) 0 w' := by
  have hn : n ≤ 511 := by omega
  have hL2 : L ≤ 2147483648 := by omega
  have h0 := zI_ic0 (zIv_I h)
  obtain ⟨k, w1, hH, h1⟩ := zHk_17 H hn h (xs (4 * m + 1))
  have h2 := zI_ic171 (zIv_I h1)
  obtain ⟨v, w2, hR, hI⟩ := zRm_41 H hn h1 (xs (4 * m + 1))
  obtain ⟨hG, hP, -, hsp0, -, -, -, -⟩ := H
  refine ⟨w2, ?_, hI⟩
  have b := zz_B_rf (l := l) (Ts := zTs) (D := D) (cl := zcl) (fk := zFK) (cy := cy) (z0 := z0) (sp := sp) (tys := zTys cy) (G := G) (own := "ToolMillLaw") (mn := mn) (nL := 7) (cc := code) (d := 470) ((39, [(4, .int (Int32.ofNat (4 * m))), (3, .ref 328), (2, .ref 171), (1, .ref 0), (0, .ref 1999999)], [.int (Int32.ofNat 16)], w) : zz_F)
  replace b := zz_fo b (zlw_39 (K := zz_k0) zz_k0_KS hsp0 hG hP) (ze_tsw_k (t := 691) (by decide) (by decide))
  replace b := zz_fo b (zlw_691 (K := zz_k0) zz_k0_KS hsp0 hG hP) (ze_aload rfl)
  replace b := zz_fo b (zlw_692 (K := zz_k0) zz_k0_KS hsp0 hG hP) (ze_aload rfl)
  replace b := zz_fo b (zlw_693 (K := zz_k0) zz_k0_KS hsp0 hG hP) (ze_iload rfl)
  replace b := zz_fo b (zlw_695 (K := zz_k0) zz_k0_KS hsp0 hG hP) ze_const
  replace b := zz_fo b (zlw_696 (K := zz_k0) zz_k0_KS hsp0 hG hP) (ze_iadd (zl_ij (4 * m) 1))
  replace b := zz_fo b (zlw_697 (K := zz_k0) hX hL2) (ze_kl (zl_kl xs (j := 4 * m + 1) (by omega) hL) (zz_nI_of _))
  replace b := zz_fo b (zlw_698 (K := zz_k0) zz_k0_KS hsp0 hG hP) (ze_aload rfl)
  replace b := zz_gH b (zlh_699 (rv := [.int k]) (r := []) hG hH rfl rfl (zz_lb rfl))
  replace b := zz_fo b (zlw_702 (K := zz_k0) zz_k0_KS hsp0 hG hP) (ze_istore (lv' := [(4, _), (3, _), (2, _), (1, _), (0, _)]) rfl)
  replace b := zz_fo b (zlw_704 (K := zz_k0) zz_k0_KS hsp0 hG hP) (ze_aload rfl)
  replace b := zz_fo b (zlw_705 (K := zz_k0) zz_k0_KS hsp0 hG hP) (ze_aload rfl)
  replace b := zz_fo b (zlw_706 (K := zz_k0) zz_k0_KS hsp0 hG hP) (ze_iload rfl)
  replace b := zz_fo b (zlw_708 (K := zz_k0) zz_k0_KS hsp0 hG hP) ze_const
  replace b := zz_fo b (zlw_709 (K := zz_k0) zz_k0_KS hsp0 hG hP) (ze_iadd (zl_ij (4 * m) 1))
  replace b := zz_fo b (zlw_710 (K := zz_k0) hX hL2) (ze_kl (zl_kl xs (j := 4 * m + 1) (by omega) hL) (zz_nI_of _))
  replace b := zz_gVi b (fun K h => zlw_711 h hsp0 hG hP) hR rfl rfl h2 (zz_lb rfl)
  replace b := zz_fo b (zlw_714 (K := zz_k0) zz_k0_KS hsp0 hG hP) (ze_istore (lv' := [(5, _), (4, _), (3, _), (2, _), (1, _), (0, _)]) rfl)
  replace b := zz_fo b (zlw_716 (K := zz_k0) zz_k0_KS hsp0 hG hP) ze_goto
  exact zz_fl (lv' := [(4, .int (Int32.ofNat (4 * m))), (3, .ref 328), (2, .ref 171), (1, .ref 0), (0, .ref 1999999)]) b (zz_mc (List.mem_cons_of_mem _ (List.mem_cons_of_mem _ List.mem_cons_self)) (zz_mc (List.mem_cons_of_mem _ (List.mem_cons_of_mem _ (List.mem_cons_of_mem _ List.mem_cons_self))) (zz_mc (List.mem_cons_of_mem _ (List.mem_cons_of_mem _ (List.mem_cons_of_mem _ (List.mem_cons_of_mem _ List.mem_cons_self)))) (zz_mc (List.mem_cons_of_mem _ (List.mem_cons_of_mem _ (List.mem_cons_of_mem _ (List.mem_cons_of_mem _ (List.mem_cons_of_mem _ List.mem_cons_self))))) (zz_mc (List.mem_cons_of_mem _ (List.mem_cons_of_mem _ (List.mem_cons_of_mem _ (List.mem_cons_of_mem _ (List.mem_cons_of_mem _ (List.mem_cons_of_mem _ List.mem_cons_self)))))) zz_mn)))))
theorem zLc_17 {l : Launch} {D : va_G} {cy : Nat → ClassId} {z0 : Nat} {sp : Nat → Nat} {G : State → Prop} (H : zHy l D cy z0 sp G) {mn : String} {L n m : Nat} {xs : Nat → Int32} (hX : ∀ U, G U → va_T .int (sp 999999) L (fun j => .int (xs j)) (fun q : Nat => z0 ≤ q) U U.heap) (hL : L ≤ 2048) (hnm : n ≤ m) (hn4 : 4 * m + 4 ≤ L) {w : zz_W} (h : zIv zQI n 0 w) : ∃ w', zz_B l zTs D zcl zFK cy z0 sp (zTys cy) G "ToolMillLaw" mn 7 code 470 (39, zLv (Int32.ofNat (4 * m)), [.int (Int32.ofNat 17)], w) (899, zLv (Int32.ofNat (4 * m)), [], w') ∧ zIv zQI (n + 1) 0 w' := by
  have hn : n ≤ 511 := by omega
  have hL2 : L ≤ 2147483648 := by omega
  have h0 := zI_ic0 (zIv_I h)
  obtain ⟨k, w1, hH, h1⟩ := zHk_18 H hn h (xs (4 * m + 1))
  have h2 := zI_ic171 (zIv_I h1)
  obtain ⟨v, w2, hR, hI⟩ := zRm_42 H hn h1 (xs (4 * m + 1))
  obtain ⟨hG, hP, -, hsp0, -, -, -, -⟩ := H
  refine ⟨w2, ?_, hI⟩
  have b := zz_B_rf (l := l) (Ts := zTs) (D := D) (cl := zcl) (fk := zFK) (cy := cy) (z0 := z0) (sp := sp) (tys := zTys cy) (G := G) (own := "ToolMillLaw") (mn := mn) (nL := 7) (cc := code) (d := 470) ((39, [(4, .int (Int32.ofNat (4 * m))), (3, .ref 328), (2, .ref 171), (1, .ref 0), (0, .ref 1999999)], [.int (Int32.ofNat 17)], w) : zz_F)
  replace b := zz_fo b (zlw_39 (K := zz_k0) zz_k0_KS hsp0 hG hP) (ze_tsw_k (t := 719) (by decide) (by decide))
  replace b := zz_fo b (zlw_719 (K := zz_k0) zz_k0_KS hsp0 hG hP) (ze_aload rfl)
  replace b := zz_fo b (zlw_720 (K := zz_k0) zz_k0_KS hsp0 hG hP) (ze_aload rfl)
  replace b := zz_fo b (zlw_721 (K := zz_k0) zz_k0_KS hsp0 hG hP) (ze_iload rfl)
  replace b := zz_fo b (zlw_723 (K := zz_k0) zz_k0_KS hsp0 hG hP) ze_const
  replace b := zz_fo b (zlw_724 (K := zz_k0) zz_k0_KS hsp0 hG hP) (ze_iadd (zl_ij (4 * m) 1))
  replace b := zz_fo b (zlw_725 (K := zz_k0) hX hL2) (ze_kl (zl_kl xs (j := 4 * m + 1) (by omega) hL) (zz_nI_of _))
  replace b := zz_fo b (zlw_726 (K := zz_k0) zz_k0_KS hsp0 hG hP) (ze_aload rfl)
  replace b := zz_gH b (zlh_727 (rv := [.int k]) (r := []) hG hH rfl rfl (zz_lb rfl))
  replace b := zz_fo b (zlw_730 (K := zz_k0) zz_k0_KS hsp0 hG hP) (ze_istore (lv' := [(4, _), (3, _), (2, _), (1, _), (0, _)]) rfl)
  replace b := zz_fo b (zlw_732 (K := zz_k0) zz_k0_KS hsp0 hG hP) (ze_aload rfl)
  replace b := zz_fo b (zlw_733 (K := zz_k0) zz_k0_KS hsp0 hG hP) (ze_aload rfl)
  replace b := zz_fo b (zlw_734 (K := zz_k0) zz_k0_KS hsp0 hG hP) (ze_iload rfl)
  replace b := zz_fo b (zlw_736 (K := zz_k0) zz_k0_KS hsp0 hG hP) ze_const
  replace b := zz_fo b (zlw_737 (K := zz_k0) zz_k0_KS hsp0 hG hP) (ze_iadd (zl_ij (4 * m) 1))
  replace b := zz_fo b (zlw_738 (K := zz_k0) hX hL2) (ze_kl (zl_kl xs (j := 4 * m + 1) (by omega) hL) (zz_nI_of _))
  replace b := zz_gVi b (fun K h => zlw_739 h hsp0 hG hP) hR rfl rfl h2 (zz_lb rfl)
  replace b := zz_fo b (zlw_742 (K := zz_k0) zz_k0_KS hsp0 hG hP) (ze_istore (lv' := [(5, _), (4, _), (3, _), (2, _), (1, _), (0, _)]) rfl)
  replace b := zz_fo b (zlw_744 (K := zz_k0) zz_k0_KS hsp0 hG hP) ze_goto
  exact zz_fl (lv' := [(4, .int (Int32.ofNat (4 * m))), (3, .ref 328), (2, .ref 171), (1, .ref 0), (0, .ref 1999999)]) b (zz_mc (List.mem_cons_of_mem _ (List.mem_cons_of_mem _ List.mem_cons_self)) (zz_mc (List.mem_cons_of_mem _ (List.mem_cons_of_mem _ (List.mem_cons_of_mem _ List.mem_cons_self))) (zz_mc (List.mem_cons_of_mem _ (List.mem_cons_of_mem _ (List.mem_cons_of_mem _ (List.mem_cons_of_mem _ List.mem_cons_self)))) (zz_mc (List.mem_cons_of_mem _ (List.mem_cons_of_mem _ (List.mem_cons_of_mem _ (List.mem_cons_of_mem _ (List.mem_cons_of_mem _ List.mem_cons_self))))) (zz_mc (List.mem_cons_of_mem _ (List.mem_cons_of_mem _ (List.mem_cons_of_mem _ (List.mem_cons_of_mem _ (List.mem_cons_of_mem _ (List.mem_cons_of_mem _ List.mem_cons_self)))))) zz_mn)))))
theorem zLc_18 {l : Launch} {D : va_G} {cy : Nat → ClassId} {z0 : Nat} {sp : Nat → Nat} {G : State → Prop} (H : zHy l D cy z0 sp G) {mn : String} {L n m : Nat} {xs : Nat → Int32} (hX : ∀ U, G U → va_T .int (sp 999999) L (fun j => .int (xs j)) (fun q : Nat => z0 ≤ q) U U.heap) (hL : L ≤ 2048) (hnm : n ≤ m) (hn4 : 4 * m + 4 ≤ L) {w : zz_W} (h : zIv zQI n 0 w) : ∃ w', zz_B l zTs D zcl zFK cy z0 sp (zTys cy) G "ToolMillLaw" mn 7 code 470 (39, zLv (Int32.ofNat (4 * m)), [.int (Int32.ofNat 18)], w) (899, zLv (Int32.ofNat (4 * m)), [], w') ∧ zIv zQI (n + 1) 0 w' := by
  have hn : n ≤ 511 := by omega
  have hL2 : L ≤ 2147483648 := by omega
  have h0 := zI_ic0 (zIv_I h)
  obtain ⟨k, w1, hH, h1⟩ := zHk_19 H hn h (xs (4 * m + 1))
  have h2 := zI_ic171 (zIv_I h1)
  obtain ⟨v, w2, hR, hI⟩ := zRm_43 H hn h1 (xs (4 * m + 1))
  obtain ⟨hG, hP, -, hsp0, -, -, -, -⟩ := H
  refine ⟨w2, ?_, hI⟩
  have b := zz_B_rf (l := l) (Ts := zTs) (D := D) (cl := zcl) (fk := zFK) (cy := cy) (z0 := z0) (sp := sp) (tys := zTys cy) (G := G) (own := "ToolMillLaw") (mn := mn) (nL := 7) (cc := code) (d := 470) ((39, [(4, .int (Int32.ofNat (4 * m))), (3, .ref 328), (2, .ref 171), (1, .ref 0), (0, .ref 1999999)], [.int (Int32.ofNat 18)], w) : zz_F)
  replace b := zz_fo b (zlw_39 (K := zz_k0) zz_k0_KS hsp0 hG hP) (ze_tsw_k (t := 747) (by decide) (by decide))
  replace b := zz_fo b (zlw_747 (K := zz_k0) zz_k0_KS hsp0 hG hP) (ze_aload rfl)
  replace b := zz_fo b (zlw_748 (K := zz_k0) zz_k0_KS hsp0 hG hP) (ze_aload rfl)
  replace b := zz_fo b (zlw_749 (K := zz_k0) zz_k0_KS hsp0 hG hP) (ze_iload rfl)
  replace b := zz_fo b (zlw_751 (K := zz_k0) zz_k0_KS hsp0 hG hP) ze_const
  replace b := zz_fo b (zlw_752 (K := zz_k0) zz_k0_KS hsp0 hG hP) (ze_iadd (zl_ij (4 * m) 1))
  replace b := zz_fo b (zlw_753 (K := zz_k0) hX hL2) (ze_kl (zl_kl xs (j := 4 * m + 1) (by omega) hL) (zz_nI_of _))
  replace b := zz_fo b (zlw_754 (K := zz_k0) zz_k0_KS hsp0 hG hP) (ze_aload rfl)
  replace b := zz_gH b (zlh_755 (rv := [.int k]) (r := []) hG hH rfl rfl (zz_lb rfl))
  replace b := zz_fo b (zlw_758 (K := zz_k0) zz_k0_KS hsp0 hG hP) (ze_istore (lv' := [(4, _), (3, _), (2, _), (1, _), (0, _)]) rfl)
  replace b := zz_fo b (zlw_760 (K := zz_k0) zz_k0_KS hsp0 hG hP) (ze_aload rfl)
  replace b := zz_fo b (zlw_761 (K := zz_k0) zz_k0_KS hsp0 hG hP) (ze_aload rfl)
  replace b := zz_fo b (zlw_762 (K := zz_k0) zz_k0_KS hsp0 hG hP) (ze_iload rfl)
  replace b := zz_fo b (zlw_764 (K := zz_k0) zz_k0_KS hsp0 hG hP) ze_const
  replace b := zz_fo b (zlw_765 (K := zz_k0) zz_k0_KS hsp0 hG hP) (ze_iadd (zl_ij (4 * m) 1))
  replace b := zz_fo b (zlw_766 (K := zz_k0) hX hL2) (ze_kl (zl_kl xs (j := 4 * m + 1) (by omega) hL) (zz_nI_of _))
  replace b := zz_gVi b (fun K h => zlw_767 h hsp0 hG hP) hR rfl rfl h2 (zz_lb rfl)
  replace b := zz_fo b (zlw_770 (K := zz_k0) zz_k0_KS hsp0 hG hP) (ze_istore (lv' := [(5, _), (4, _), (3, _), (2, _), (1, _), (0, _)]) rfl)
  replace b := zz_fo b (zlw_772 (K := zz_k0) zz_k0_KS hsp0 hG hP) ze_goto
  exact zz_fl (lv' := [(4, .int (Int32.ofNat (4 * m))), (3, .ref 328), (2, .ref 171), (1, .ref 0), (0, .ref 1999999)]) b (zz_mc (List.mem_cons_of_mem _ (List.mem_cons_of_mem _ List.mem_cons_self)) (zz_mc (List.mem_cons_of_mem _ (List.mem_cons_of_mem _ (List.mem_cons_of_mem _ List.mem_cons_self))) (zz_mc (List.mem_cons_of_mem _ (List.mem_cons_of_mem _ (List.mem_cons_of_mem _ (List.mem_cons_of_mem _ List.mem_cons_self)))) (zz_mc (List.mem_cons_of_mem _ (List.mem_cons_of_mem _ (List.mem_cons_of_mem _ (List.mem_cons_of_mem _ (List.mem_cons_of_mem _ List.mem_cons_self))))) (zz_mc (List.mem_cons_of_mem _ (List.mem_cons_of_mem _ (List.mem_cons_of_mem _ (List.mem_cons_of_mem _ (List.mem_cons_of_mem _ (List.mem_cons_of_mem _ List.mem_cons_self)))))) zz_mn)))))
theorem zLc_19 {l : Launch} {D : va_G} {cy : Nat → ClassId} {z0 : Nat} {sp : Nat → Nat} {G : State → Prop} (H : zHy l D cy z0 sp G) {mn : String} {L n m : Nat} {xs : Nat → Int32} (hX : ∀ U, G U → va_T .int (sp 999999) L (fun j => .int (xs j)) (fun q : Nat => z0 ≤ q) U U.heap) (hL : L ≤ 2048) (hnm : n ≤ m) (hn4 : 4 * m + 4 ≤ L) {w : zz_W} (h : zIv zQI n 0 w) : ∃ w', zz_B l zTs D zcl zFK cy z0 sp (zTys cy) G "ToolMillLaw" mn 7 code 470 (39, zLv (Int32.ofNat (4 * m)), [.int (Int32.ofNat 19)], w) (899, zLv (Int32.ofNat (4 * m)), [], w') ∧ zIv zQI (n + 1) 0 w' := by
  have hn : n ≤ 511 := by omega
  have hL2 : L ≤ 2147483648 := by omega
  have h0 := zI_ic0 (zIv_I h)
  obtain ⟨k, w1, hH, h1⟩ := zHk_20 H hn h (xs (4 * m + 1)) (xs (4 * m + 2))
  have h2 := zI_ic171 (zIv_I h1)
  obtain ⟨v, w2, hR, hI⟩ := zRm_44 H hn h1 (xs (4 * m + 1)) (xs (4 * m + 2))
  obtain ⟨hG, hP, -, hsp0, -, -, -, -⟩ := H
  refine ⟨w2, ?_, hI⟩
  have b := zz_B_rf (l := l) (Ts := zTs) (D := D) (cl := zcl) (fk := zFK) (cy := cy) (z0 := z0) (sp := sp) (tys := zTys cy) (G := G) (own := "ToolMillLaw") (mn := mn) (nL := 7) (cc := code) (d := 470) ((39, [(4, .int (Int32.ofNat (4 * m))), (3, .ref 328), (2, .ref 171), (1, .ref 0), (0, .ref 1999999)], [.int (Int32.ofNat 19)], w) : zz_F)
  replace b := zz_fo b (zlw_39 (K := zz_k0) zz_k0_KS hsp0 hG hP) (ze_tsw_k (t := 775) (by decide) (by decide))
  replace b := zz_fo b (zlw_775 (K := zz_k0) zz_k0_KS hsp0 hG hP) (ze_aload rfl)
  replace b := zz_fo b (zlw_776 (K := zz_k0) zz_k0_KS hsp0 hG hP) (ze_aload rfl)
  replace b := zz_fo b (zlw_777 (K := zz_k0) zz_k0_KS hsp0 hG hP) (ze_iload rfl)
  replace b := zz_fo b (zlw_779 (K := zz_k0) zz_k0_KS hsp0 hG hP) ze_const
  replace b := zz_fo b (zlw_780 (K := zz_k0) zz_k0_KS hsp0 hG hP) (ze_iadd (zl_ij (4 * m) 1))
  replace b := zz_fo b (zlw_781 (K := zz_k0) hX hL2) (ze_kl (zl_kl xs (j := 4 * m + 1) (by omega) hL) (zz_nI_of _))
  replace b := zz_fo b (zlw_782 (K := zz_k0) zz_k0_KS hsp0 hG hP) (ze_aload rfl)
  replace b := zz_fo b (zlw_783 (K := zz_k0) zz_k0_KS hsp0 hG hP) (ze_iload rfl)
  replace b := zz_fo b (zlw_785 (K := zz_k0) zz_k0_KS hsp0 hG hP) ze_const
  replace b := zz_fo b (zlw_786 (K := zz_k0) zz_k0_KS hsp0 hG hP) (ze_iadd (zl_ij (4 * m) 2))
  replace b := zz_fo b (zlw_787 (K := zz_k0) hX hL2) (ze_kl (zl_kl xs (j := 4 * m + 2) (by omega) hL) (zz_nI_of _))
  replace b := zz_fo b (zlw_788 (K := zz_k0) zz_k0_KS hsp0 hG hP) (ze_aload rfl)
  replace b := zz_gH b (zlh_789 (rv := [.int k]) (r := []) hG hH rfl rfl (zz_lb rfl))
  replace b := zz_fo b (zlw_792 (K := zz_k0) zz_k0_KS hsp0 hG hP) (ze_istore (lv' := [(4, _), (3, _), (2, _), (1, _), (0, _)]) rfl)
  replace b := zz_fo b (zlw_794 (K := zz_k0) zz_k0_KS hsp0 hG hP) (ze_aload rfl)
  replace b := zz_fo b (zlw_795 (K := zz_k0) zz_k0_KS hsp0 hG hP) (ze_aload rfl)
  replace b := zz_fo b (zlw_796 (K := zz_k0) zz_k0_KS hsp0 hG hP) (ze_iload rfl)
  replace b := zz_fo b (zlw_798 (K := zz_k0) zz_k0_KS hsp0 hG hP) ze_const
  replace b := zz_fo b (zlw_799 (K := zz_k0) zz_k0_KS hsp0 hG hP) (ze_iadd (zl_ij (4 * m) 1))
  replace b := zz_fo b (zlw_800 (K := zz_k0) hX hL2) (ze_kl (zl_kl xs (j := 4 * m + 1) (by omega) hL) (zz_nI_of _))
  replace b := zz_fo b (zlw_801 (K := zz_k0) zz_k0_KS hsp0 hG hP) (ze_aload rfl)
  replace b := zz_fo b (zlw_802 (K := zz_k0) zz_k0_KS hsp0 hG hP) (ze_iload rfl)
  replace b := zz_fo b (zlw_804 (K := zz_k0) zz_k0_KS hsp0 hG hP) ze_const
  replace b := zz_fo b (zlw_805 (K := zz_k0) zz_k0_KS hsp0 hG hP) (ze_iadd (zl_ij (4 * m) 2))
  replace b := zz_fo b (zlw_806 (K := zz_k0) hX hL2) (ze_kl (zl_kl xs (j := 4 * m + 2) (by omega) hL) (zz_nI_of _))
  replace b := zz_gVi b (fun K h => zlw_807 h hsp0 hG hP) hR rfl rfl h2 (zz_lb rfl)
  replace b := zz_fo b (zlw_810 (K := zz_k0) zz_k0_KS hsp0 hG hP) (ze_istore (lv' := [(5, _), (4, _), (3, _), (2, _), (1, _), (0, _)]) rfl)
  replace b := zz_fo b (zlw_812 (K := zz_k0) zz_k0_KS hsp0 hG hP) ze_goto
  exact zz_fl (lv' := [(4, .int (Int32.ofNat (4 * m))), (3, .ref 328), (2, .ref 171), (1, .ref 0), (0, .ref 1999999)]) b (zz_mc (List.mem_cons_of_mem _ (List.mem_cons_of_mem _ List.mem_cons_self)) (zz_mc (List.mem_cons_of_mem _ (List.mem_cons_of_mem _ (List.mem_cons_of_mem _ List.mem_cons_self))) (zz_mc (List.mem_cons_of_mem _ (List.mem_cons_of_mem _ (List.mem_cons_of_mem _ (List.mem_cons_of_mem _ List.mem_cons_self)))) (zz_mc (List.mem_cons_of_mem _ (List.mem_cons_of_mem _ (List.mem_cons_of_mem _ (List.mem_cons_of_mem _ (List.mem_cons_of_mem _ List.mem_cons_self))))) (zz_mc (List.mem_cons_of_mem _ (List.mem_cons_of_mem _ (List.mem_cons_of_mem _ (List.mem_cons_of_mem _ (List.mem_cons_of_mem _ (List.mem_cons_of_mem _ List.mem_cons_self)))))) zz_mn)))))
theorem zLc_20 {l : Launch} {D : va_G} {cy : Nat → ClassId} {z0 : Nat} {sp : Nat → Nat} {G : State → Prop} (H : zHy l D cy z0 sp G) {mn : String} {L n m : Nat} {xs : Nat → Int32} (hX : ∀ U, G U → va_T .int (sp 999999) L (fun j => .int (xs j)) (fun q : Nat => z0 ≤ q) U U.heap) (hL : L ≤ 2048) (hnm : n ≤ m) (hn4 : 4 * m + 4 ≤ L) {w : zz_W} (h : zIv zQI n 0 w) : ∃ w', zz_B l zTs D zcl zFK cy z0 sp (zTys cy) G "ToolMillLaw" mn 7 code 470 (39, zLv (Int32.ofNat (4 * m)), [.int (Int32.ofNat 20)], w) (899, zLv (Int32.ofNat (4 * m)), [], w') ∧ zIv zQI (n + 1) 0 w' := by
  have hn : n ≤ 511 := by omega
  have hL2 : L ≤ 2147483648 := by omega
  have h0 := zI_ic0 (zIv_I h)
  obtain ⟨k, w1, hH, h1⟩ := zHk_21 H hn h (xs (4 * m + 1))
  have h2 := zI_ic171 (zIv_I h1)
  obtain ⟨v, w2, hR, hI⟩ := zRm_45 H hn h1 (xs (4 * m + 1))
  obtain ⟨hG, hP, -, hsp0, -, -, -, -⟩ := H
  refine ⟨w2, ?_, hI⟩
  have b := zz_B_rf (l := l) (Ts := zTs) (D := D) (cl := zcl) (fk := zFK) (cy := cy) (z0 := z0) (sp := sp) (tys := zTys cy) (G := G) (own := "ToolMillLaw") (mn := mn) (nL := 7) (cc := code) (d := 470) ((39, [(4, .int (Int32.ofNat (4 * m))), (3, .ref 328), (2, .ref 171), (1, .ref 0), (0, .ref 1999999)], [.int (Int32.ofNat 20)], w) : zz_F)
  replace b := zz_fo b (zlw_39 (K := zz_k0) zz_k0_KS hsp0 hG hP) (ze_tsw_k (t := 815) (by decide) (by decide))
  replace b := zz_fo b (zlw_815 (K := zz_k0) zz_k0_KS hsp0 hG hP) (ze_aload rfl)
  replace b := zz_fo b (zlw_816 (K := zz_k0) zz_k0_KS hsp0 hG hP) (ze_aload rfl)
  replace b := zz_fo b (zlw_817 (K := zz_k0) zz_k0_KS hsp0 hG hP) (ze_iload rfl)
  replace b := zz_fo b (zlw_819 (K := zz_k0) zz_k0_KS hsp0 hG hP) ze_const
  replace b := zz_fo b (zlw_820 (K := zz_k0) zz_k0_KS hsp0 hG hP) (ze_iadd (zl_ij (4 * m) 1))
  replace b := zz_fo b (zlw_821 (K := zz_k0) hX hL2) (ze_kl (zl_kl xs (j := 4 * m + 1) (by omega) hL) (zz_nI_of _))
  replace b := zz_fo b (zlw_822 (K := zz_k0) zz_k0_KS hsp0 hG hP) (ze_aload rfl)
  replace b := zz_gH b (zlh_823 (rv := [.int k]) (r := []) hG hH rfl rfl (zz_lb rfl))
  replace b := zz_fo b (zlw_826 (K := zz_k0) zz_k0_KS hsp0 hG hP) (ze_istore (lv' := [(4, _), (3, _), (2, _), (1, _), (0, _)]) rfl)
  replace b := zz_fo b (zlw_828 (K := zz_k0) zz_k0_KS hsp0 hG hP) (ze_aload rfl)
  replace b := zz_fo b (zlw_829 (K := zz_k0) zz_k0_KS hsp0 hG hP) (ze_aload rfl)
  replace b := zz_fo b (zlw_830 (K := zz_k0) zz_k0_KS hsp0 hG hP) (ze_iload rfl)
  replace b := zz_fo b (zlw_832 (K := zz_k0) zz_k0_KS hsp0 hG hP) ze_const
  replace b := zz_fo b (zlw_833 (K := zz_k0) zz_k0_KS hsp0 hG hP) (ze_iadd (zl_ij (4 * m) 1))
  replace b := zz_fo b (zlw_834 (K := zz_k0) hX hL2) (ze_kl (zl_kl xs (j := 4 * m + 1) (by omega) hL) (zz_nI_of _))
  replace b := zz_gVi b (fun K h => zlw_835 h hsp0 hG hP) hR rfl rfl h2 (zz_lb rfl)
  replace b := zz_fo b (zlw_838 (K := zz_k0) zz_k0_KS hsp0 hG hP) (ze_istore (lv' := [(5, _), (4, _), (3, _), (2, _), (1, _), (0, _)]) rfl)
  replace b := zz_fo b (zlw_840 (K := zz_k0) zz_k0_KS hsp0 hG hP) ze_goto
  exact zz_fl (lv' := [(4, .int (Int32.ofNat (4 * m))), (3, .ref 328), (2, .ref 171), (1, .ref 0), (0, .ref 1999999)]) b (zz_mc (List.mem_cons_of_mem _ (List.mem_cons_of_mem _ List.mem_cons_self)) (zz_mc (List.mem_cons_of_mem _ (List.mem_cons_of_mem _ (List.mem_cons_of_mem _ List.mem_cons_self))) (zz_mc (List.mem_cons_of_mem _ (List.mem_cons_of_mem _ (List.mem_cons_of_mem _ (List.mem_cons_of_mem _ List.mem_cons_self)))) (zz_mc (List.mem_cons_of_mem _ (List.mem_cons_of_mem _ (List.mem_cons_of_mem _ (List.mem_cons_of_mem _ (List.mem_cons_of_mem _ List.mem_cons_self))))) (zz_mc (List.mem_cons_of_mem _ (List.mem_cons_of_mem _ (List.mem_cons_of_mem _ (List.mem_cons_of_mem _ (List.mem_cons_of_mem _ (List.mem_cons_of_mem _ List.mem_cons_self)))))) zz_mn)))))
theorem zLc_21 {l : Launch} {D : va_G} {cy : Nat → ClassId} {z0 : Nat} {sp : Nat → Nat} {G : State → Prop} (H : zHy l D cy z0 sp G) {mn : String} {L n m : Nat} {xs : Nat → Int32} (hX : ∀ U, G U → va_T .int (sp 999999) L (fun j => .int (xs j)) (fun q : Nat => z0 ≤ q) U U.heap) (hL : L ≤ 2048) (hnm : n ≤ m) (hn4 : 4 * m + 4 ≤ L) {w : zz_W} (h : zIv zQI n 0 w) : ∃ w', zz_B l zTs D zcl zFK cy z0 sp (zTys cy) G "ToolMillLaw" mn 7 code 470 (39, zLv (Int32.ofNat (4 * m)), [.int (Int32.ofNat 21)], w) (899, zLv (Int32.ofNat (4 * m)), [], w') ∧ zIv zQI (n + 1) 0 w' := by
  have hn : n ≤ 511 := by omega
  have hL2 : L ≤ 2147483648 := by omega
  have h0 := zI_ic0 (zIv_I h)
  obtain ⟨k, w1, hH, h1⟩ := zHk_22 H hn h (xs (4 * m + 1))
  have h2 := zI_ic171 (zIv_I h1)
  obtain ⟨v, w2, hR, hI⟩ := zRm_46 H hn h1 (xs (4 * m + 1))
  obtain ⟨hG, hP, -, hsp0, -, -, -, -⟩ := H
  refine ⟨w2, ?_, hI⟩
  have b := zz_B_rf (l := l) (Ts := zTs) (D := D) (cl := zcl) (fk := zFK) (cy := cy) (z0 := z0) (sp := sp) (tys := zTys cy) (G := G) (own := "ToolMillLaw") (mn := mn) (nL := 7) (cc := code) (d := 470) ((39, [(4, .int (Int32.ofNat (4 * m))), (3, .ref 328), (2, .ref 171), (1, .ref 0), (0, .ref 1999999)], [.int (Int32.ofNat 21)], w) : zz_F)
  replace b := zz_fo b (zlw_39 (K := zz_k0) zz_k0_KS hsp0 hG hP) (ze_tsw_k (t := 843) (by decide) (by decide))
  replace b := zz_fo b (zlw_843 (K := zz_k0) zz_k0_KS hsp0 hG hP) (ze_aload rfl)
  replace b := zz_fo b (zlw_844 (K := zz_k0) zz_k0_KS hsp0 hG hP) (ze_aload rfl)
  replace b := zz_fo b (zlw_845 (K := zz_k0) zz_k0_KS hsp0 hG hP) (ze_iload rfl)
  replace b := zz_fo b (zlw_847 (K := zz_k0) zz_k0_KS hsp0 hG hP) ze_const
  replace b := zz_fo b (zlw_848 (K := zz_k0) zz_k0_KS hsp0 hG hP) (ze_iadd (zl_ij (4 * m) 1))
  replace b := zz_fo b (zlw_849 (K := zz_k0) hX hL2) (ze_kl (zl_kl xs (j := 4 * m + 1) (by omega) hL) (zz_nI_of _))
  replace b := zz_fo b (zlw_850 (K := zz_k0) zz_k0_KS hsp0 hG hP) (ze_aload rfl)
  replace b := zz_gH b (zlh_851 (rv := [.int k]) (r := []) hG hH rfl rfl (zz_lb rfl))
  replace b := zz_fo b (zlw_854 (K := zz_k0) zz_k0_KS hsp0 hG hP) (ze_istore (lv' := [(4, _), (3, _), (2, _), (1, _), (0, _)]) rfl)
  replace b := zz_fo b (zlw_856 (K := zz_k0) zz_k0_KS hsp0 hG hP) (ze_aload rfl)
  replace b := zz_fo b (zlw_857 (K := zz_k0) zz_k0_KS hsp0 hG hP) (ze_aload rfl)
  replace b := zz_fo b (zlw_858 (K := zz_k0) zz_k0_KS hsp0 hG hP) (ze_iload rfl)
  replace b := zz_fo b (zlw_860 (K := zz_k0) zz_k0_KS hsp0 hG hP) ze_const
  replace b := zz_fo b (zlw_861 (K := zz_k0) zz_k0_KS hsp0 hG hP) (ze_iadd (zl_ij (4 * m) 1))
  replace b := zz_fo b (zlw_862 (K := zz_k0) hX hL2) (ze_kl (zl_kl xs (j := 4 * m + 1) (by omega) hL) (zz_nI_of _))
  replace b := zz_gVi b (fun K h => zlw_863 h hsp0 hG hP) hR rfl rfl h2 (zz_lb rfl)
  replace b := zz_fo b (zlw_866 (K := zz_k0) zz_k0_KS hsp0 hG hP) (ze_istore (lv' := [(5, _), (4, _), (3, _), (2, _), (1, _), (0, _)]) rfl)
  replace b := zz_fo b (zlw_868 (K := zz_k0) zz_k0_KS hsp0 hG hP) ze_goto
  exact zz_fl (lv' := [(4, .int (Int32.ofNat (4 * m))), (3, .ref 328), (2, .ref 171), (1, .ref 0), (0, .ref 1999999)]) b (zz_mc (List.mem_cons_of_mem _ (List.mem_cons_of_mem _ List.mem_cons_self)) (zz_mc (List.mem_cons_of_mem _ (List.mem_cons_of_mem _ (List.mem_cons_of_mem _ List.mem_cons_self))) (zz_mc (List.mem_cons_of_mem _ (List.mem_cons_of_mem _ (List.mem_cons_of_mem _ (List.mem_cons_of_mem _ List.mem_cons_self)))) (zz_mc (List.mem_cons_of_mem _ (List.mem_cons_of_mem _ (List.mem_cons_of_mem _ (List.mem_cons_of_mem _ (List.mem_cons_of_mem _ List.mem_cons_self))))) (zz_mc (List.mem_cons_of_mem _ (List.mem_cons_of_mem _ (List.mem_cons_of_mem _ (List.mem_cons_of_mem _ (List.mem_cons_of_mem _ (List.mem_cons_of_mem _ List.mem_cons_self)))))) zz_mn)))))
theorem zLc_22 {l : Launch} {D : va_G} {cy : Nat → ClassId} {z0 : Nat} {sp : Nat → Nat} {G : State → Prop} (H : zHy l D cy z0 sp G) {mn : String} {L n m : Nat} {xs : Nat → Int32} (hX : ∀ U, G U → va_T .int (sp 999999) L (fun j => .int (xs j)) (fun q : Nat => z0 ≤ q) U U.heap) (hL : L ≤ 2048) (hnm : n ≤ m) (hn4 : 4 * m + 4 ≤ L) {w : zz_W} (h : zIv zQI n 0 w) : ∃ w', zz_B l zTs D zcl zFK cy z0 sp (zTys cy) G "ToolMillLaw" mn 7 code 470 (39, zLv (Int32.ofNat (4 * m)), [.int (Int32.ofNat 22)], w) (899, zLv (Int32.ofNat (4 * m)), [], w') ∧ zIv zQI (n + 1) 0 w' := by
  have hn : n ≤ 511 := by omega
  have hL2 : L ≤ 2147483648 := by omega
  have h0 := zI_ic0 (zIv_I h)
  obtain ⟨k, w1, hH, h1⟩ := zHk_23 H hn h (xs (4 * m + 1))
  have h2 := zI_ic171 (zIv_I h1)
  obtain ⟨v, w2, hR, hI⟩ := zRm_47 H hn h1 (xs (4 * m + 1))
  obtain ⟨hG, hP, -, hsp0, -, -, -, -⟩ := H
  refine ⟨w2, ?_, hI⟩
  have b := zz_B_rf (l := l) (Ts := zTs) (D := D) (cl := zcl) (fk := zFK) (cy := cy) (z0 := z0) (sp := sp) (tys := zTys cy) (G := G) (own := "ToolMillLaw") (mn := mn) (nL := 7) (cc := code) (d := 470) ((39, [(4, .int (Int32.ofNat (4 * m))), (3, .ref 328), (2, .ref 171), (1, .ref 0), (0, .ref 1999999)], [.int (Int32.ofNat 22)], w) : zz_F)
  replace b := zz_fo b (zlw_39 (K := zz_k0) zz_k0_KS hsp0 hG hP) (ze_tsw_k (t := 871) (by decide) (by decide))
  replace b := zz_fo b (zlw_871 (K := zz_k0) zz_k0_KS hsp0 hG hP) (ze_aload rfl)
  replace b := zz_fo b (zlw_872 (K := zz_k0) zz_k0_KS hsp0 hG hP) (ze_aload rfl)
  replace b := zz_fo b (zlw_873 (K := zz_k0) zz_k0_KS hsp0 hG hP) (ze_iload rfl)
  replace b := zz_fo b (zlw_875 (K := zz_k0) zz_k0_KS hsp0 hG hP) ze_const
  replace b := zz_fo b (zlw_876 (K := zz_k0) zz_k0_KS hsp0 hG hP) (ze_iadd (zl_ij (4 * m) 1))
  replace b := zz_fo b (zlw_877 (K := zz_k0) hX hL2) (ze_kl (zl_kl xs (j := 4 * m + 1) (by omega) hL) (zz_nI_of _))
  replace b := zz_fo b (zlw_878 (K := zz_k0) zz_k0_KS hsp0 hG hP) (ze_aload rfl)
  replace b := zz_gH b (zlh_879 (rv := [.int k]) (r := []) hG hH rfl rfl (zz_lb rfl))
  replace b := zz_fo b (zlw_882 (K := zz_k0) zz_k0_KS hsp0 hG hP) (ze_istore (lv' := [(4, _), (3, _), (2, _), (1, _), (0, _)]) rfl)
  replace b := zz_fo b (zlw_884 (K := zz_k0) zz_k0_KS hsp0 hG hP) (ze_aload rfl)
  replace b := zz_fo b (zlw_885 (K := zz_k0) zz_k0_KS hsp0 hG hP) (ze_aload rfl)
  replace b := zz_fo b (zlw_886 (K := zz_k0) zz_k0_KS hsp0 hG hP) (ze_iload rfl)
  replace b := zz_fo b (zlw_888 (K := zz_k0) zz_k0_KS hsp0 hG hP) ze_const
  replace b := zz_fo b (zlw_889 (K := zz_k0) zz_k0_KS hsp0 hG hP) (ze_iadd (zl_ij (4 * m) 1))
  replace b := zz_fo b (zlw_890 (K := zz_k0) hX hL2) (ze_kl (zl_kl xs (j := 4 * m + 1) (by omega) hL) (zz_nI_of _))
  replace b := zz_gVi b (fun K h => zlw_891 h hsp0 hG hP) hR rfl rfl h2 (zz_lb rfl)
  replace b := zz_fo b (zlw_894 (K := zz_k0) zz_k0_KS hsp0 hG hP) (ze_istore (lv' := [(5, _), (4, _), (3, _), (2, _), (1, _), (0, _)]) rfl)
  replace b := zz_fo b (zlw_896 (K := zz_k0) zz_k0_KS hsp0 hG hP) ze_goto
  exact zz_fl (lv' := [(4, .int (Int32.ofNat (4 * m))), (3, .ref 328), (2, .ref 171), (1, .ref 0), (0, .ref 1999999)]) b (zz_mc (List.mem_cons_of_mem _ (List.mem_cons_of_mem _ List.mem_cons_self)) (zz_mc (List.mem_cons_of_mem _ (List.mem_cons_of_mem _ (List.mem_cons_of_mem _ List.mem_cons_self))) (zz_mc (List.mem_cons_of_mem _ (List.mem_cons_of_mem _ (List.mem_cons_of_mem _ (List.mem_cons_of_mem _ List.mem_cons_self)))) (zz_mc (List.mem_cons_of_mem _ (List.mem_cons_of_mem _ (List.mem_cons_of_mem _ (List.mem_cons_of_mem _ (List.mem_cons_of_mem _ List.mem_cons_self))))) (zz_mc (List.mem_cons_of_mem _ (List.mem_cons_of_mem _ (List.mem_cons_of_mem _ (List.mem_cons_of_mem _ (List.mem_cons_of_mem _ (List.mem_cons_of_mem _ List.mem_cons_self)))))) zz_mn)))))
end
