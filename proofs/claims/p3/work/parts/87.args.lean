/-! BETWEEN CALLS, on: arguments, what a run of a method may be, contracts of the class and of the reference as one -/
noncomputable section
theorem zl_dep_ok {s : Nat → Int} {n : Nat} (h : Nat.blt n 1000000 = true) : zl_ev s (zk_dep n) = (n : Int) := by
  unfold zk_dep
  rw [h]
  show zl_ev s (zl_con (n : Int)) = (n : Int)
  exact zl_con_ev s _
theorem zG2_arg {I : zz_W → Prop} {Q : zk_St} {s : Nat → Int} {st : List Value} {w : zz_W} (hw : zk_wq Q.1 = true) (hE : zk_eW zHX Q.1.2.2.2.1.length Q.2.1 = true) (h : zk_G2 zPT I s Q (0, [], st, w)) (x : Int32) :
    ∃ t : Nat → Int, (∀ j, j < Q.1.2.2.2.1.length → t j = s j) ∧ zk_G2 zPT I t ((Q.1.1, Q.1.2.1 ++ [(0, 0, zl_sym Q.1.2.2.2.1.length)], Q.1.2.2.1, Q.1.2.2.2.1 ++ [(-2147483648, 2147483647)], Q.1.2.2.2.2), Q.2.1, Q.2.2) (0, [], st ++ [.int x], w) ∧ t Q.1.2.2.2.1.length = x.toInt := by
  obtain ⟨t, h1, h2⟩ : ∃ t : Nat → Int, (∀ j, j < Q.1.2.2.2.1.length → t j = s j) ∧ t Q.1.2.2.2.1.length = x.toInt := ⟨fun j => if j < Q.1.2.2.2.1.length then s j else x.toInt, fun j hj => if_pos hj, if_neg (Nat.lt_irrefl _)⟩
  refine ⟨t, h1, ?_, h2⟩
  obtain ⟨⟨g1, g2, g3, g4, g5, g6⟩, k1, k2⟩ := h
  obtain ⟨a1, a2, a3, a4⟩ := zk_wf_ok hw h1 g1 g2 g3 g5
  refine ⟨⟨a1, zk_st_app a2 ⟨⟨fun _ => ⟨x, rfl, ?_⟩, fun e => (by cases e), fun e => (by cases e), fun e => (by cases e)⟩, trivial⟩, a3, zl_in_snoc (fun k q hk => ?_) ?_ ?_, a4, g6⟩, zk_eW_eq hE h1 k1, k2⟩
  · show x.toInt = zl_ev t (zl_sym _)
    rw [zl_sym_ev, h2]
  · rw [h1 k (List.getElem?_eq_some_iff.mp hk).1]
    exact g4 k q hk
  · rw [h2]
    exact Int32.le_toInt x
  · rw [h2]
    have := Int32.toInt_lt x
    omega
theorem zG2_ref {I : zz_W → Prop} {Q : zk_St} {s : Nat → Int} {st : List Value} {w : zz_W} (b : Nat) (h : zk_G2 zPT I s Q (0, [], st, w)) : zk_G2 zPT I s ((Q.1.1, Q.1.2.1 ++ [(2, b, ((0, 0), []))], Q.1.2.2.1, Q.1.2.2.2.1, Q.1.2.2.2.2), Q.2.1, Q.2.2) (0, [], st ++ [.ref b], w) := by
  obtain ⟨⟨g1, g2, g3, g4, g5, g6⟩, k1, k2⟩ := h
  exact ⟨⟨g1, zk_st_app g2 ⟨⟨fun e => (by cases e), fun e => (by cases e), fun _ => rfl, fun e => (by cases e)⟩, trivial⟩, g3, g4, g5, g6⟩, k1, k2⟩
/-- other bounds -/
theorem zG2_b {I : zz_W → Prop} {Q : zk_St} {B : List (Int × Int)} {s : Nat → Int} {st : List Value} {w : zz_W} (h : zk_G2 zPT I s Q (0, [], st, w)) (hB : zl_in s B) : zk_G2 zPT I s ((Q.1.1, Q.1.2.1, Q.1.2.2.1, B, Q.1.2.2.2.2), Q.2.1, Q.2.2) (0, [], st, w) := by
  obtain ⟨⟨g1, g2, g3, g4, g5, g6⟩, k1, k2⟩ := h
  exact ⟨⟨g1, g2, g3, hB, g5, g6⟩, k1, k2⟩
/-- without what lies on the stack -/
theorem zG2_drop {I : zz_W → Prop} {L : List (Nat × zk_V)} {T : List zk_V} {F : List ((Nat × Nat) × zk_V)} {B X : List (Int × Int)} {C : List zl_E} {E : List zk_E1} {K : List Nat} {s : Nat → Int} {st : List Value} {w : zz_W} (h : zk_G2 zPT I s ((L, T, F, B ++ X, C), E, K) (0, [], st, w)) : zk_G2 zPT I s ((L, [], F, B, C), E, K) (0, [], [], w) := by
  obtain ⟨⟨g1, g2, g3, g4, g5, g6⟩, k1, k2⟩ := h
  exact ⟨⟨g1, trivial, g3, fun k q hk => g4 k q (by
    show (B ++ X)[k]? = some q
    rw [List.getElem?_append_left (List.getElem?_eq_some_iff.mp hk).1]
    exact hk), g5, g6⟩, k1, k2⟩
theorem zl_in_hd {s : Nat → Int} {q q' : Int × Int} {B : List (Int × Int)} (h : zl_in s (q :: B)) (h1 : q'.1 ≤ s 0) (h2 : s 0 ≤ q'.2) : zl_in s (q' :: B) := by
  intro k r hk
  cases k with
  | zero => cases hk; exact ⟨h1, h2⟩
  | succ k => exact h (k + 1) r hk
/-- a run of the class's method y: it returns an int, or throws one of XS -/
def zRl (l : Launch) (D : va_G) (cy : Nat → ClassId) (z0 : Nat) (sp : Nat → Nat) (G : State → Prop) (d y : Nat) (XS : List (String × Nat)) (as : List Value) (w : zz_W) (rv : List Value) (w' : zz_W) : Prop :=
  (∃ a : Int32, rv = [.int a] ∧ zz_M l zTs D zcl zFK cy z0 sp (zTys cy) G zYN zCN zMQ zRT d y as w rv w') ∨ (rv = [] ∧ ∃ x ∈ XS, zz_MX l zTs D zcl zFK cy z0 sp (zTys cy) G zYN zCN zMQ zRT d y as w x.1 (zz_pu w' (3, x.2, 0, 0) 6))
/-- what a contract q gives of such a run -/
def zPP (Rl : List Value → zz_W → Prop) (as : List Value) (w : zz_W) (q : zk_Ct) : Prop := ∀ s : Nat → Int, zk_G2 zPT (zk_I 64 zHX) s q.1 (0, [], as.take q.1.1.2.1.length, w) → ∃ (rv : List Value) (w' : zz_W) (s' : Nat → Int) (Q : zk_St), Q ∈ q.2.1 ∧ Rl rv w' ∧ zk_G2 zPT (zk_J 64 zHX q.2.2.1 (w, q.2.2.1.2.map (fun p => (p.1, zl_ev s p.2)))) s' Q (0, [], rv, w') ∧ ∀ j, j < q.1.1.2.2.2.1.length → s' j = s j
section ZAR
variable {l : Launch} {D : va_G} {cy : Nat → ClassId} {z0 : Nat} {sp : Nat → Nat} {G : State → Prop}
theorem zPP_px {d y : Nat} {q : zk_Ct} {nx : Bool} {L : List Nat} {XS : List (String × Nat)} {as : List Value} {w : zz_W} (h : zk_PX l zTs D zcl zFK cy z0 sp (zTys cy) G zYN zCN zMQ zRT 64 zHX zPT y q nx L (zXE y)) (hd : (Nat.blt q.2.2.2 1000000 && Nat.ble q.2.2.2 (d + 1)) = true) (h5 : 5 ≤ d) (hL : L.all (fun pc => XS.any (fun x => decide (x = zXE y pc))) = true) (hr : zRT y = some .int) (ha : as.take q.1.1.2.1.length = as) (hw : w.1 < 16 * 64) : zPP (zRl l D cy z0 sp G (d + 1) y XS as w) as w q := by
  intro s hG
  obtain ⟨b1, b2⟩ := zz_and hd
  rw [ha] at hG
  obtain ⟨w', s', Q, m1, m2, m3, m4, m5⟩ := h d as w s (by rw [zl_dep_ok b1]; have := zz_ble b2; omega) h5 hw hG
  rcases m4 with ⟨-, rv, m6, m7, m8⟩ | ⟨pc, p1, p2, p3⟩
  · obtain ⟨a, ha⟩ := m8 hr
    exact ⟨rv, w', s', Q, m1, Or.inl ⟨a, ha, m6⟩, m7, m5⟩
  · obtain ⟨x, x1, x2⟩ := List.any_eq_true.mp (List.all_eq_true.mp hL pc p1)
    have x2 := of_decide_eq_true x2
    exact ⟨[], w', s', Q, m1, Or.inr ⟨rfl, x, x1, by rw [x2]; exact p2⟩, p3, m5⟩
/-- what a method that it calls throws, it throws -/
theorem zPP_th {d y yt : Nat} {q : zk_Ct} {L : List Nat} {XS : List (String × Nat)} {as : List Value} {w : zz_W} (h : zk_PX l zTs D zcl zFK cy z0 sp (zTys cy) G zYN zCN zMQ zRT 64 zHX zPT yt q true L (zXE yt)) (hd : (Nat.blt q.2.2.2 1000000 && Nat.ble q.2.2.2 (d + 1)) = true) (h5 : 5 ≤ d) (hL : L.all (fun pc => XS.any (fun x => decide (x = zXE yt pc))) = true) (hw : w.1 < 16 * 64)
    (hM : ∀ (E : String) (w' : zz_W), zz_MX l zTs D zcl zFK cy z0 sp (zTys cy) G zYN zCN zMQ zRT (d + 1) yt (as.take q.1.1.2.1.length) w E w' → zz_MX l zTs D zcl zFK cy z0 sp (zTys cy) G zYN zCN zMQ zRT (d + 2) y as w E w') : zPP (zRl l D cy z0 sp G (d + 2) y XS as w) as w q := by
  intro s hG
  obtain ⟨b1, b2⟩ := zz_and hd
  obtain ⟨w', s', Q, m1, m2, m3, m4, m5⟩ := h d _ w s (by rw [zl_dep_ok b1]; have := zz_ble b2; omega) h5 hw hG
  rcases m4 with ⟨e, -⟩ | ⟨pc, p1, p2, p3⟩
  · cases e
  · obtain ⟨x, x1, x2⟩ := List.any_eq_true.mp (List.all_eq_true.mp hL pc p1)
    have x2 := of_decide_eq_true x2
    exact ⟨[], w', s', Q, m1, Or.inr ⟨rfl, x, x1, by rw [x2]; exact hM _ _ p2⟩, p3, m5⟩
/-- a method that always returns -/
theorem zPP_co {d y : Nat} {q : zk_Ct} {XS : List (String × Nat)} {as : List Value} {w : zz_W} (h : zk_Con l zTs D zcl zFK cy z0 sp (zTys cy) G zYN zCN zMQ zRT 64 zHX zPT y q) (hd : (Nat.blt q.2.2.2 1000000 && Nat.ble q.2.2.2 d) = true) (hr : q.2.1.all (fun Q => match Q.1.2.1 with
    | [(0, _, _)] => true
    | _ => false) = true) (ha : as.take q.1.1.2.1.length = as) : zPP (zRl l D cy z0 sp G d y XS as w) as w q := by
  intro s hG
  obtain ⟨b1, b2⟩ := zz_and hd
  rw [ha] at hG
  obtain ⟨rv, w', s', Q, m1, m2, m3, m4⟩ := h d as w s (by rw [zl_dep_ok b1]; have := zz_ble b2; omega) hG
  have h1 := List.all_eq_true.mp hr Q m1
  have h2 : zk_st s' Q.1.2.1 rv := m3.1.2.1
  split at h1
  · rename_i a b hT
    rw [hT] at h2
    obtain ⟨x, r, e1, -, e2⟩ := zk_st_int h2 rfl
    have e3 := zk_st_len e2
    cases r with
    | nil => exact ⟨rv, w', s', Q, m1, Or.inl ⟨x, e1, m2⟩, m3, m4⟩
    | cons _ _ => cases e3
  · cases h1
/-- the same of a method's run alone -/
theorem zPP_cm {d y : Nat} {q : zk_Ct} {as : List Value} {w : zz_W} (h : zk_Con l zTs D zcl zFK cy z0 sp (zTys cy) G zYN zCN zMQ zRT 64 zHX zPT y q) (hd : (Nat.blt q.2.2.2 1000000 && Nat.ble q.2.2.2 d) = true) (ha : as.take q.1.1.2.1.length = as) : zPP (fun rv w' => zz_M l zTs D zcl zFK cy z0 sp (zTys cy) G zYN zCN zMQ zRT d y as w rv w') as w q := by
  intro s hG
  obtain ⟨b1, b2⟩ := zz_and hd
  rw [ha] at hG
  obtain ⟨rv, w', s', Q, m1, m2, m3, m4⟩ := h d as w s (by rw [zl_dep_ok b1]; have := zz_ble b2; omega) hG
  exact ⟨rv, w', s', Q, m1, m2, m3, m4⟩
/-- the same, of a method without a value -/
theorem zPP_all {Rl : List Value → zz_W → Prop} {as : List Value} {w : zz_W} {L : List (Nat × zk_Ct)} (h : ∀ p ∈ L, zPP Rl as w p.2) : ∀ y q, zk_ctl L y = some q → zPP Rl as w q := fun y q hq => h (y, q) (zk_ctl_mem hq)
end ZAR
theorem zAr_any {I : zz_W → Prop} {Q0 : zk_St} (hw : ((zk_wq (zAr Q0 0).1 && zk_eW zHX (zAr Q0 0).1.2.2.2.1.length (zAr Q0 0).2.1) && ((zk_wq (zAr Q0 1).1 && zk_eW zHX (zAr Q0 1).1.2.2.2.1.length (zAr Q0 1).2.1) && (zk_wq (zAr Q0 2).1 && zk_eW zHX (zAr Q0 2).1.2.2.2.1.length (zAr Q0 2).2.1))) = true) {s : Nat → Int} {st : List Value} {w : zz_W} (h : zk_G2 zPT I s Q0 (0, [], st, w)) :
    ∀ (ps : List Int32), ps.length ≤ 3 → ∃ t : Nat → Int, (∀ j, j < Q0.1.2.2.2.1.length → t j = s j) ∧ zk_G2 zPT I t (zAr Q0 ps.length) (0, [], st ++ ps.map Value.int, w) := by
  obtain ⟨a0, hw⟩ := zz_and hw
  obtain ⟨a1, a2⟩ := zz_and hw
  obtain ⟨a0, b0⟩ := zz_and a0
  obtain ⟨a1, b1⟩ := zz_and a1
  obtain ⟨a2, b2⟩ := zz_and a2
  have l1 : (zAr Q0 1).1.2.2.2.1.length = Q0.1.2.2.2.1.length + 1 := List.length_append
  have l2 : (zAr Q0 2).1.2.2.2.1.length = Q0.1.2.2.2.1.length + 1 + 1 := by rw [← l1]; exact List.length_append
  intro ps h3
  match ps, h3 with
  | [], _ => exact ⟨s, fun _ _ => rfl, by rw [List.map_nil, List.append_nil]; exact h⟩
  | [x], _ =>
    obtain ⟨t, e, g, -⟩ := zG2_arg (Q := zAr Q0 0) a0 b0 h x
    exact ⟨t, e, g⟩
  | [x, y], _ =>
    obtain ⟨t, e, g, -⟩ := zG2_arg (Q := zAr Q0 0) a0 b0 h x
    obtain ⟨t2, e2, g2, -⟩ := zG2_arg (Q := zAr Q0 1) a1 b1 g y
    refine ⟨t2, fun j hj => (e2 j (by rw [l1]; omega)).trans (e j hj), ?_⟩
    rw [List.append_assoc] at g2
    exact g2
  | [x, y, z], _ =>
    obtain ⟨t, e, g, -⟩ := zG2_arg (Q := zAr Q0 0) a0 b0 h x
    obtain ⟨t2, e2, g2, -⟩ := zG2_arg (Q := zAr Q0 1) a1 b1 g y
    obtain ⟨t3, e3, g3, -⟩ := zG2_arg (Q := zAr Q0 2) a2 b2 g2 z
    refine ⟨t3, fun j hj => (e3 j (by rw [l2]; omega)).trans ((e2 j (by rw [l1]; omega)).trans (e j hj)), ?_⟩
    rw [List.append_assoc, List.append_assoc] at g3
    exact g3
  | _ :: _ :: _ :: _ :: _, h3 => exact absurd h3 (by simp)
theorem zQM_1 {s : Nat → Int} {st : List Value} {w : zz_W} (h : zk_G2 zPT (zk_I 64 zHX) s (zA1 zQM) (0, [], st, w)) : zk_G2 zPT (zk_I 64 zHX) s zQM (0, [], [], w) := zG2_drop (L := zQM.1.1) (T := zQM.1.2.1 ++ [(0, 0, zl_sym zQM.1.2.2.2.1.length)]) (F := zQM.1.2.2.1) (B := zQM.1.2.2.2.1) (X := [(-2147483648, 2147483647)]) (C := zQM.1.2.2.2.2) (E := zQM.2.1) (K := zQM.2.2) h
theorem zQM_0 {s : Nat → Int} {st : List Value} {w : zz_W} (h : zk_G2 zPT (zk_I 64 zHX) s zQM (0, [], st, w)) : zk_G2 zPT (zk_I 64 zHX) s zQM (0, [], [], w) := by
  obtain ⟨⟨g1, g2, g3, g4, g5, g6⟩, k1, k2⟩ := h
  exact ⟨⟨g1, trivial, g3, g4, g5, g6⟩, k1, k2⟩
theorem zQB_1 {s : Nat → Int} {st : List Value} {w : zz_W} (h : zk_G2 zPT (zk_I 64 zHX) s (zA1 zQB) (0, [], st, w)) : zk_G2 zPT (zk_I 64 zHX) s zQB (0, [], [], w) := zG2_drop (L := zQB.1.1) (T := zQB.1.2.1 ++ [(0, 0, zl_sym zQB.1.2.2.2.1.length)]) (F := zQB.1.2.2.1) (B := zQB.1.2.2.2.1) (X := [(-2147483648, 2147483647)]) (C := zQB.1.2.2.2.2) (E := zQB.2.1) (K := zQB.2.2) h
theorem zQB_I {s : Nat → Int} {w : zz_W} (h : zk_G2 zPT (zk_I 64 zHX) s zQB (0, [], [], w)) : zk_G2 zPT (zk_I 64 zHX) s zQI (0, [], [], w) := by
  have h0 := h.1.2.2.2.1 0 (1, 512) rfl
  exact zG2_b (B := (0, 512) :: zQBt) h (zl_in_hd (q := (1, 512)) (B := zQBt) h.1.2.2.2.1 (by have := h0.1; show (0 : Int) ≤ s 0; omega) h0.2)
theorem zQI_A {s : Nat → Int} {n : Nat} {w : zz_W} (h : zk_G2 zPT (zk_I 64 zHX) s zQI (0, [], [], w)) (hs : s 0 = (n : Int)) (hn : n ≤ 511) : zk_G2 zPT (zk_I 64 zHX) s zQA (0, [], [], w) :=
  zG2_b (B := (0, 511) :: zQBt) h (zl_in_hd (q := (0, 512)) (B := zQBt) h.1.2.2.2.1 (by rw [hs]; show (0 : Int) ≤ n; omega) (by rw [hs]; show (n : Int) ≤ 511; omega))
/-- a call of the class: from what holds to what holds -/
theorem zCl_gen {n : Nat} (hn : n ≤ 511) {w : zz_W} (h : zIv zQI n 0 w) (ps : List Int32) (h3 : ps.length ≤ 3) {L : List (Nat × zk_Ct)} {k : Nat} {hs : List zk_Hn} (hk : zl_ex zHX (zk_sux zTL zTM zXS) (zk_tsl zTL zTM, zWL, zLL, zVL) (zk_ctl L) [zl_sym 0] [zA1 zQM, zQM] k [(false, zAr (zRe zQA 0) ps.length)] hs = true) (hm : L.all (fun p => p.2.2.2.1.1.all zl_mk) = true) (hB : Nat.ble 1 (zAr (zRe zQA 0) ps.length).1.2.2.2.1.length = true) (hL : (zAr (zRe zQA 0) ps.length).1.1 = [])
    {Rl : List Value → zz_W → Prop} (hO : ∀ p ∈ L, zPP Rl (.ref 0 :: ps.map Value.int) w p.2) : ∃ (rv : List Value) (w' : zz_W), Rl rv w' ∧ zIv zQM n 0 w' := by
  obtain ⟨⟨s, s0, h2⟩, hb, c1, c2⟩ := h
  have hI : zk_I 64 zHX w := h2.1.2.2.2.2.2
  have g : zk_G2 zPT (zk_I 64 zHX) s (zRe zQA 0) (0, [], [.ref 0], w) := zG2_ref 0 (zQI_A h2 s0 hn)
  obtain ⟨t, e1, g⟩ := zAr_any (Q0 := zRe zQA 0) (by decide +kernel) g ps h3
  have t0 : t 0 = (n : Int) := (e1 0 (by decide +kernel)).trans s0
  obtain ⟨rv, w', r1, r2, s', Q, q1, q2, q3⟩ := zl_px zTTx (n0 := 1) (by decide +kernel) hk hB hL (fun y q hq => List.all_eq_true.mp hm (y, q) (zk_ctl_mem hq)) (zPP_all hO) g
  have s1 : s' 0 = (n : Int) := by rw [q3 0 (zl_sym 0) rfl, zl_sym_ev, t0]
  have q2' : zk_G2 zPT (zk_I 64 zHX) s' zQM (0, [], [], w') := by
    rcases List.mem_cons.mp q1 with e | q1
    · subst e
      exact zQM_1 q2
    · have e := List.mem_singleton.mp q1
      subst e
      exact zQM_0 q2
  exact ⟨rv, w', r1, ⟨s', s1, q2'⟩, zBi_K hb hI r2 q2'.1.2.2.2.2.2 (by omega), by rw [r2.1]; exact c1, by rw [r2.2.1]; exact c2⟩
/-- a call of the reference that gives a number -/
theorem zRf_gen {n : Nat} (hn : n ≤ 511) {w : zz_W} (h : zIv zQM n 1 w) (ps : List Int32) (h3 : ps.length ≤ 3) {L : List (Nat × zk_Ct)} {k : Nat} {hs : List zk_Hn} (hk : zl_ex zHX (zk_sux zTL zTM zXS) (zk_tsl zTL zTM, zWL, zLL, zVL) (zk_ctl L) [zl_add (zl_sym 0) (zl_con 1)] [zA1 zQB] k [(false, zAr (zRe zQM 171) ps.length)] hs = true) (hm : L.all (fun p => p.2.2.2.1.1.all zl_mk) = true) (hB : Nat.ble 1 (zAr (zRe zQM 171) ps.length).1.2.2.2.1.length = true) (hL : (zAr (zRe zQM 171) ps.length).1.1 = [])
    {Rl : List Value → zz_W → Prop} (hO : ∀ p ∈ L, zPP Rl (.ref 171 :: ps.map Value.int) w p.2) : ∃ (a : Int32) (w' : zz_W), Rl [.int a] w' ∧ zIv zQI (n + 1) 0 w' := by
  obtain ⟨⟨s, s0, h2⟩, hb, c1, c2⟩ := h
  have hI : zk_I 64 zHX w := h2.1.2.2.2.2.2
  have g : zk_G2 zPT (zk_I 64 zHX) s (zRe zQM 171) (0, [], [.ref 171], w) := zG2_ref 171 h2
  obtain ⟨t, e1, g⟩ := zAr_any (Q0 := zRe zQM 171) (by decide +kernel) g ps h3
  have t0 : t 0 = (n : Int) := (e1 0 (by decide +kernel)).trans s0
  obtain ⟨rv, w', r1, r2, s', Q, q1, q2, q3⟩ := zl_px zTTx (n0 := 1) (by decide +kernel) hk hB hL (fun y q hq => List.all_eq_true.mp hm (y, q) (zk_ctl_mem hq)) (zPP_all hO) g
  have s1 : s' 0 = ((n + 1 : Nat) : Int) := by rw [q3 0 (zl_add (zl_sym 0) (zl_con 1)) rfl, zl_add_ev, zl_sym_ev, zl_con_ev, t0]; omega
  have e := List.mem_singleton.mp q1
  subst e
  have q2' := zQB_I (zQB_1 q2)
  obtain ⟨a, r, e2, -, e3⟩ := zk_st_int (show zk_st s' [(0, 0, zl_sym zQB.1.2.2.2.1.length)] rv from q2.1.2.1) rfl
  have e4 := zk_st_len e3
  cases r with
  | cons _ _ => cases e4
  | nil =>
    subst e2
    exact ⟨a, w', r1, ⟨s', s1, q2'⟩, zBi_K hb hI r2 q2'.1.2.2.2.2.2 (by omega), by rw [r2.1]; omega, by rw [r2.2.1]; omega⟩
end
