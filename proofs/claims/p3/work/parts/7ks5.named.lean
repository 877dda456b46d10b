/-! OPERATIONS THAT ARE NAMED: what comes of an operation on longs is a new number, and a known value of the function of operations (81) -/
noncomputable section
def zn_A (o : Nat) (e1 e2 : zl_E) : zl_E := zl_add (zl_con (o : Int)) (zl_add (zl_mul 16 (zl_add e1 (zl_con 9223372036854775808))) (zl_mul 295147905179352825856 (zl_add e2 (zl_con 9223372036854775808))))
theorem zn_A_ev (s : Nat → Int) (o : Nat) (e1 e2 : zl_E) : zl_ev s (zn_A o e1 e2) = (o : Int) + 16 * (zl_ev s e1 + 9223372036854775808) + 295147905179352825856 * (zl_ev s e2 + 9223372036854775808) := by
  unfold zn_A
  rw [zl_add_ev, zl_add_ev, zl_mul_ev, zl_mul_ev, zl_add_ev, zl_add_ev, zl_con_ev, zl_con_ev]
  omega
theorem zn_oc_at {w : zz_W} {o : Nat} {x y j : Int} (ho : o < 16) (x0 : -9223372036854775808 ≤ x) (x1 : x < 9223372036854775808) (y0 : -9223372036854775808 ≤ y) (hj : j = (o : Int) + 16 * (x + 9223372036854775808) + 295147905179352825856 * (y + 9223372036854775808)) : zk_xe w 2000081 j = zn_op o x y := by
  rw [show (2000081 : Nat) = 2000000 + 81 from rfl, zk_xe_h]
  show zn_oc j = zn_op o x y
  unfold zn_oc
  have h1 : (j % 16).toNat = o := by omega
  have h2 : j / 16 % 18446744073709551616 - 9223372036854775808 = x := by omega
  have h3 : j / 16 / 18446744073709551616 - 9223372036854775808 = y := by omega
  rw [h1, h2, h3]
theorem zn_A_0 {o : Nat} {x y : Int} (x0 : -9223372036854775808 ≤ x) (y0 : -9223372036854775808 ≤ y) : 0 ≤ (o : Int) + 16 * (x + 9223372036854775808) + 295147905179352825856 * (y + 9223372036854775808) := by omega
/-- the state behind it: k 1 a long, 0 an int -/
def zn_X (HT : List (List zk_H)) (o n k : Nat) (e1 e2 : zl_E) (T : List zk_V) (b : Int × Int) (X : zk_St) : Option (List (Nat × zk_St)) :=
  cond (zk_eW HT X.1.2.2.2.1.length X.2.1 && (zk_wf X.1.2.2.2.1.length X.1.1 T X.1.2.2.1 X.1.2.2.2.2 && (Nat.ble (zl_mx e1.2) X.1.2.2.2.1.length && Nat.ble (zl_mx e2.2) X.1.2.2.2.1.length)))
    (some [(n, ((X.1.1, (k, k, zl_sym X.1.2.2.2.1.length) :: T, X.1.2.2.1, X.1.2.2.2.1 ++ [b], X.1.2.2.2.2), (2000081, zn_A o e1 e2, zl_sym X.1.2.2.2.1.length) :: X.2.1, X.2.2))]) none
theorem zn_X_ok {c : Nat} {HT : List (List zk_H)} {M : zk_M} {w0 : zk_W0} {PT : Nat → zz_W → Prop} {act : zz_A} {o n k : Nat} {e1 e2 : zl_E} {T : List zk_V} {b : Int × Int} {X : zk_St} {R : List (Nat × zk_St)} (h : zn_X HT o n k e1 e2 T b X = some R) (ho : o < 16)
    (hk : ∀ (K : zz_K) (s : Nat → Int) (p : Nat) (lv : List (Nat × Value)) (st : List Value) (w : zz_W), zk_st s X.1.2.1 st → ∃ (v : Value) (r : List Value) (z : Int), act K (p, lv, st, w) = some (n, lv, v :: r, w) ∧ zk_st s T r ∧ z = zn_op o (zl_ev s e1) (zl_ev s e2) ∧ (b.1 ≤ z ∧ z ≤ b.2) ∧ (-9223372036854775808 ≤ zl_ev s e1 ∧ zl_ev s e1 < 9223372036854775808 ∧ -9223372036854775808 ≤ zl_ev s e2) ∧ ∀ (s' : Nat → Int) (e : zl_E), zl_ev s' e = z → zk_v s' (k, k, e) v) : zk_R2 PT c HT M w0 act X R := by
  obtain ⟨⟨L, T0, F, B, C⟩, E, Tk⟩ := X
  unfold zn_X at h
  obtain ⟨hb, h⟩ := zz_cond h
  obtain ⟨b1, hb⟩ := zz_and hb
  obtain ⟨b2, hb⟩ := zz_and hb
  obtain ⟨b3, b4⟩ := zz_and hb
  have h : [(n, (((L, (k, k, zl_sym B.length) :: T, F, B ++ [b], C), (2000081, zn_A o e1 e2, zl_sym B.length) :: E, Tk) : zk_St))] = R := Option.some.inj h
  subst h
  intro K s f hpv hG
  obtain ⟨⟨g1, g2, g3, g4, g5, g6⟩, k1, k2⟩ := hG
  obtain ⟨p, lv, st, w⟩ := f
  obtain ⟨v, r, z, a1, a2, a3, a4, a5, a6⟩ := hk K s p lv st w g2
  have hag : ∀ j, j < B.length → (fun j => if j = B.length then z else s j) j = s j := fun j hj => if_neg (by omega)
  generalize hs' : (fun j => if j = B.length then z else s j) = s' at hag
  have hsB : s' B.length = z := by rw [← hs']; exact if_pos rfl
  obtain ⟨m1, m2, m3, m4⟩ := zk_wf_ok b2 hag g1 a2 g3 g5
  have q1 : zl_ev s' e1 = zl_ev s e1 := zl_ev_eq (n := B.length) (zz_ble b3) hag
  have q2 : zl_ev s' e2 = zl_ev s e2 := zl_ev_eq (n := B.length) (zz_ble b4) hag
  refine ⟨s', _, (n, ((L, (k, k, zl_sym B.length) :: T, F, B ++ [b], C), (2000081, zn_A o e1 e2, zl_sym B.length) :: E, Tk)), a1, List.mem_cons_self, rfl, ⟨⟨m1, ⟨a6 s' (zl_sym B.length) (by rw [zl_sym_ev, hsB]), m2⟩, m3, zl_in_snoc (fun k q hk => ?_) ?_ ?_, m4, g6⟩, fun y hy => ?_, k2⟩, by show B.length ≤ (B ++ [_]).length; simp, hag⟩
  · have hk' : k < B.length := (List.getElem?_eq_some_iff.mp hk).1
    rw [hag k hk']
    exact g4 k q hk
  · rw [hsB]
    exact a4.1
  · rw [hsB]
    exact a4.2
  · rcases List.mem_cons.mp hy with ey | hy
    · subst ey
      have hA := zn_A_ev s' o e1 e2
      rw [q1, q2] at hA
      have hz := (zn_oc_at (w := w) ho a5.1 a5.2.1 a5.2.2 hA).trans a3.symm
      have hs := (zl_sym_ev s' B.length).trans hsB
      refine ⟨?_, hz.trans hs.symm⟩
      exact Int.le_trans (zn_A_0 a5.1 a5.2.2) (Int.le_of_eq hA.symm)
    · exact zk_eW_eq b1 hag k1 y hy
theorem zn_LL {act : zz_A} {n o : Nat} {g : Int64 → Int64 → Int64} {X : zk_St} {e1 e2 : zl_E} {T : List zk_V} (hT : X.1.2.1 = (1, 1, e2) :: (1, 1, e1) :: T) (ha : ∀ (K : zz_K) (p : Nat) (lv : List (Nat × Value)) (x y : Int64) (r : List Value) (w : zz_W), act K (p, lv, .long y :: .long x :: r, w) = some (n, lv, .long (g x y) :: r, w)) (hg : ∀ x y : Int64, (g x y).toInt = zn_op o x.toInt y.toInt) :
    ∀ (K : zz_K) (s : Nat → Int) (p : Nat) (lv : List (Nat × Value)) (st : List Value) (w : zz_W), zk_st s X.1.2.1 st → ∃ (v : Value) (r : List Value) (z : Int), act K (p, lv, st, w) = some (n, lv, v :: r, w) ∧ zk_st s T r ∧ z = zn_op o (zl_ev s e1) (zl_ev s e2) ∧ ((-9223372036854775808 : Int) ≤ z ∧ z ≤ 9223372036854775807) ∧ (-9223372036854775808 ≤ zl_ev s e1 ∧ zl_ev s e1 < 9223372036854775808 ∧ -9223372036854775808 ≤ zl_ev s e2) ∧ ∀ (s' : Nat → Int) (e : zl_E), zl_ev s' e = z → zk_v s' (1, 1, e) v := by
  intro K s p lv st w g2
  rw [hT] at g2
  obtain ⟨y, st1, q1, q2, q3⟩ := zk_st_lv g2 rfl
  obtain ⟨x, st2, q4, q5, q6⟩ := zk_st_lv q3 rfl
  have hst : st = .long y :: .long x :: st2 := by rw [← q4]; exact q1
  subst hst
  have q2 : y.toInt = zl_ev s e2 := q2 rfl
  have q5 : x.toInt = zl_ev s e1 := q5 rfl
  have h1 := Int64.le_toInt x
  have h2 := Int64.toInt_lt x
  have h3 := Int64.le_toInt y
  have h4 := Int64.le_toInt (g x y)
  have h5 := Int64.toInt_lt (g x y)
  exact ⟨.long (g x y), st2, (g x y).toInt, ha K p lv x y st2 w, q6, by rw [hg, q5, q2], by omega, by omega, fun s' e he => zk_v_lv he.symm⟩
theorem zn_LI {act : zz_A} {n o : Nat} {g : Int64 → Int32 → Int64} {X : zk_St} {k : Nat} {e1 e2 : zl_E} {T : List zk_V} (hT : X.1.2.1 = (0, k, e2) :: (1, 1, e1) :: T) (ha : ∀ (K : zz_K) (p : Nat) (lv : List (Nat × Value)) (x : Int64) (y : Int32) (r : List Value) (w : zz_W), act K (p, lv, .int y :: .long x :: r, w) = some (n, lv, .long (g x y) :: r, w)) (hg : ∀ (x : Int64) (y : Int32), (g x y).toInt = zn_op o x.toInt y.toInt) :
    ∀ (K : zz_K) (s : Nat → Int) (p : Nat) (lv : List (Nat × Value)) (st : List Value) (w : zz_W), zk_st s X.1.2.1 st → ∃ (v : Value) (r : List Value) (z : Int), act K (p, lv, st, w) = some (n, lv, v :: r, w) ∧ zk_st s T r ∧ z = zn_op o (zl_ev s e1) (zl_ev s e2) ∧ ((-9223372036854775808 : Int) ≤ z ∧ z ≤ 9223372036854775807) ∧ (-9223372036854775808 ≤ zl_ev s e1 ∧ zl_ev s e1 < 9223372036854775808 ∧ -9223372036854775808 ≤ zl_ev s e2) ∧ ∀ (s' : Nat → Int) (e : zl_E), zl_ev s' e = z → zk_v s' (1, 1, e) v := by
  intro K s p lv st w g2
  rw [hT] at g2
  obtain ⟨y, st1, q1, q2, q3⟩ := zk_st_int g2 rfl
  obtain ⟨x, st2, q4, q5, q6⟩ := zk_st_lv q3 rfl
  have hst : st = .int y :: .long x :: st2 := by rw [← q4]; exact q1
  subst hst
  have q2 : y.toInt = zl_ev s e2 := q2
  have q5 : x.toInt = zl_ev s e1 := q5 rfl
  have h1 := Int64.le_toInt x
  have h2 := Int64.toInt_lt x
  have h3 := Int32.le_toInt y
  have h4 := Int64.le_toInt (g x y)
  have h5 := Int64.toInt_lt (g x y)
  exact ⟨.long (g x y), st2, (g x y).toInt, ha K p lv x y st2 w, q6, by rw [hg, q5, q2], by omega, by omega, fun s' e he => zk_v_lv he.symm⟩
theorem zn_L2I {n : Nat} {X : zk_St} {e1 : zl_E} {T : List zk_V} (hT : X.1.2.1 = (1, 1, e1) :: T) :
    ∀ (K : zz_K) (s : Nat → Int) (p : Nat) (lv : List (Nat × Value)) (st : List Value) (w : zz_W), zk_st s X.1.2.1 st → ∃ (v : Value) (r : List Value) (z : Int), za_l2i n K (p, lv, st, w) = some (n, lv, v :: r, w) ∧ zk_st s T r ∧ z = zn_op 7 (zl_ev s e1) (zl_ev s (zl_con 0)) ∧ ((-2147483648 : Int) ≤ z ∧ z ≤ 2147483647) ∧ (-9223372036854775808 ≤ zl_ev s e1 ∧ zl_ev s e1 < 9223372036854775808 ∧ -9223372036854775808 ≤ zl_ev s (zl_con 0)) ∧ ∀ (s' : Nat → Int) (e : zl_E), zl_ev s' e = z → zk_v s' (0, 0, e) v := by
  intro K s p lv st w g2
  rw [hT] at g2
  obtain ⟨x, st2, q1, q5, q6⟩ := zk_st_lv g2 rfl
  subst q1
  have q5 : x.toInt = zl_ev s e1 := q5 rfl
  have h1 := Int64.le_toInt x
  have h2 := Int64.toInt_lt x
  have h4 := Int32.le_toInt x.toInt32
  have h5 := Int32.toInt_lt x.toInt32
  refine ⟨.int x.toInt32, st2, x.toInt32.toInt, ze_l2i rfl, q6, ?_, by omega, by rw [zl_con_ev]; omega, fun s' e he => zk_v_int he.symm⟩
  rw [← q5]
  show _ = ((Int64.ofInt x.toInt).toInt32).toInt
  rw [Int64.ofInt_toInt]
theorem zn_IA {n : Nat} {X : zk_St} {k1 k2 : Nat} {e1 e2 : zl_E} {T : List zk_V} (hT : X.1.2.1 = (0, k2, e2) :: (0, k1, e1) :: T) :
    ∀ (K : zz_K) (s : Nat → Int) (p : Nat) (lv : List (Nat × Value)) (st : List Value) (w : zz_W), zk_st s X.1.2.1 st → ∃ (v : Value) (r : List Value) (z : Int), za_iand n K (p, lv, st, w) = some (n, lv, v :: r, w) ∧ zk_st s T r ∧ z = zn_op 8 (zl_ev s e1) (zl_ev s e2) ∧ ((-2147483648 : Int) ≤ z ∧ z ≤ 2147483647) ∧ (-9223372036854775808 ≤ zl_ev s e1 ∧ zl_ev s e1 < 9223372036854775808 ∧ -9223372036854775808 ≤ zl_ev s e2) ∧ ∀ (s' : Nat → Int) (e : zl_E), zl_ev s' e = z → zk_v s' (0, 0, e) v := by
  intro K s p lv st w g2
  rw [hT] at g2
  obtain ⟨y, st1, q1, q2, q3⟩ := zk_st_int g2 rfl
  obtain ⟨x, st2, q4, q5, q6⟩ := zk_st_int q3 rfl
  have hst : st = .int y :: .int x :: st2 := by rw [← q4]; exact q1
  subst hst
  have q2 : y.toInt = zl_ev s e2 := q2
  have q5 : x.toInt = zl_ev s e1 := q5
  have h1 := Int32.le_toInt x
  have h2 := Int32.toInt_lt x
  have h3 := Int32.le_toInt y
  have h4 := Int32.le_toInt (x &&& y)
  have h5 := Int32.toInt_lt (x &&& y)
  refine ⟨.int (x &&& y), st2, (x &&& y).toInt, ze_iand rfl, q6, ?_, by omega, by omega, fun s' e he => zk_v_int he.symm⟩
  rw [← q5, ← q2]
  show _ = (Int32.ofInt x.toInt &&& Int32.ofInt y.toInt).toInt
  rw [Int32.ofInt_toInt, Int32.ofInt_toInt]
/-- a long that a local holds is named -/
def zn_L (HT : List (List zk_H)) (X : zk_St) (i n : Nat) : Option (List (Nat × zk_St)) := match zk_lk X.1.1 i with
  | some (1, 0, _) => cond (zk_eW HT X.1.2.2.2.1.length X.2.1 && zk_wf X.1.2.2.2.1.length X.1.1 X.1.2.1 X.1.2.2.1 X.1.2.2.2.2)
    (some [(n, (((i, 1, 1, zl_sym X.1.2.2.2.1.length) :: X.1.1.filter (fun q => !(Nat.beq q.1 i)), (1, 1, zl_sym X.1.2.2.2.1.length) :: X.1.2.1, X.1.2.2.1, X.1.2.2.2.1 ++ [(-9223372036854775808, 9223372036854775807)], X.1.2.2.2.2), X.2.1, X.2.2))]) none
  | _ => none
theorem zn_L_ok {c : Nat} {HT : List (List zk_H)} {M : zk_M} {w0 : zk_W0} {PT : Nat → zz_W → Prop} {X : zk_St} {R : List (Nat × zk_St)} {i n : Nat} (h : zn_L HT X i n = some R) : zk_R2 PT c HT M w0 (za_lload i n) X R := by
  obtain ⟨⟨L, T, F, B, C⟩, E, Tk⟩ := X
  unfold zn_L at h
  split at h
  · rename_i e hk
    have hk : zk_lk L i = some (1, 0, e) := hk
    obtain ⟨hb, h⟩ := zz_cond h
    obtain ⟨b1, b2⟩ := zz_and hb
    have h : [(n, ((((i, 1, 1, zl_sym B.length) :: L.filter (fun q => !(Nat.beq q.1 i)), (1, 1, zl_sym B.length) :: T, F, B ++ [(-9223372036854775808, 9223372036854775807)], C), E, Tk) : zk_St))] = R := Option.some.inj h
    subst h
    intro K s f hpv hG
    obtain ⟨⟨g1, g2, g3, g4, g5, g6⟩, k1, k2⟩ := hG
    obtain ⟨p, lv, st, w⟩ := f
    obtain ⟨v, e1, e2⟩ := g1 _ (zk_lk_mem hk)
    obtain ⟨x, e3, -⟩ := e2.2.1 rfl
    subst e3
    have e1 : zz_lg lv i = some (.long x) := e1
    have hag : ∀ j, j < B.length → (fun j => if j = B.length then x.toInt else s j) j = s j := fun j hj => if_neg (by omega)
    generalize hs' : (fun j => if j = B.length then x.toInt else s j) = s' at hag
    have hsB : s' B.length = x.toInt := by rw [← hs']; exact if_pos rfl
    obtain ⟨m1, m2, m3, m4⟩ := zk_wf_ok b2 hag g1 g2 g3 g5
    have h1 := Int64.le_toInt x
    have h2 := Int64.toInt_lt x
    have hv : zk_v s' (1, 1, zl_sym B.length) (.long x) := zk_v_lv (by rw [zl_sym_ev, hsB])
    refine ⟨s', _, (n, (((i, 1, 1, zl_sym B.length) :: L.filter (fun q => !(Nat.beq q.1 i)), (1, 1, zl_sym B.length) :: T, F, B ++ [(-9223372036854775808, 9223372036854775807)], C), E, Tk)), ze_lload e1, List.mem_cons_self, rfl, ⟨⟨fun q hq => ?_, ⟨hv, m2⟩, m3, zl_in_snoc (fun k q hk => ?_) ?_ ?_, m4, g6⟩, zk_eW_eq b1 hag k1, k2⟩, by show B.length ≤ (B ++ [_]).length; simp, hag⟩
    · rcases List.mem_cons.mp hq with eq | hq
      · subst eq
        exact ⟨.long x, e1, hv⟩
      · exact m1 q (List.mem_filter.mp hq).1
    · have hk' : k < B.length := (List.getElem?_eq_some_iff.mp hk).1
      rw [hag k hk']
      exact g4 k q hk
    · rw [hsB]
      omega
    · rw [hsB]
      omega
  · cases h
/-- by the instruction's number (hint 8181) -/
def zn_F (HT : List (List zk_H)) (X : zk_St) (n j : Nat) (i : Nat) : Option (List (Nat × zk_St)) := match i, X.1.2.1 with
  | 5, _ => zn_L HT X j n
  | 29, (1, 1, e2) :: (1, 1, e1) :: T => zn_X HT 0 n 1 e1 e2 T (-9223372036854775808, 9223372036854775807) X
  | 27, (1, 1, e2) :: (1, 1, e1) :: T => zn_X HT 1 n 1 e1 e2 T (-9223372036854775808, 9223372036854775807) X
  | 32, (1, 1, e2) :: (1, 1, e1) :: T => zn_X HT 2 n 1 e1 e2 T (-9223372036854775808, 9223372036854775807) X
  | 31, (1, 1, e2) :: (1, 1, e1) :: T => zn_X HT 3 n 1 e1 e2 T (-9223372036854775808, 9223372036854775807) X
  | 30, (1, 1, e2) :: (1, 1, e1) :: T => zn_X HT 4 n 1 e1 e2 T (-9223372036854775808, 9223372036854775807) X
  | 33, (0, _, e2) :: (1, 1, e1) :: T => zn_X HT 5 n 1 e1 e2 T (-9223372036854775808, 9223372036854775807) X
  | 34, (0, _, e2) :: (1, 1, e1) :: T => zn_X HT 6 n 1 e1 e2 T (-9223372036854775808, 9223372036854775807) X
  | 25, (1, 1, e1) :: T => zn_X HT 7 n 0 e1 (zl_con 0) T (-2147483648, 2147483647) X
  | 14, (0, _, e2) :: (0, _, e1) :: T => zn_X HT 8 n 0 e1 e2 T (-2147483648, 2147483647) X
  | _, _ => none
theorem zn_g2 {o : Nat} {g : Int64 → Int64 → Int64} (h : ∀ x y : Int, zn_op o x y = (g (Int64.ofInt x) (Int64.ofInt y)).toInt) (x y : Int64) : (g x y).toInt = zn_op o x.toInt y.toInt := by
  rw [h, Int64.ofInt_toInt, Int64.ofInt_toInt]
theorem zn_gi {o : Nat} {g : Int64 → Int32 → Int64} (h : ∀ x y : Int, zn_op o x y = (g (Int64.ofInt x) (Int32.ofInt y)).toInt) (x : Int64) (y : Int32) : (g x y).toInt = zn_op o x.toInt y.toInt := by
  rw [h, Int64.ofInt_toInt, Int32.ofInt_toInt]
/-- the rest by a number above 0, of what is not below 0 (hint 7) -/
theorem zk_lrem_pos {x y : Int64} (hx : 0 ≤ x.toInt) (hy : 0 < y.toInt) : (x - x / y * y).toInt = x.toInt % y.toInt := by
  have hq := zk_ldiv_pos hx hy
  have h2 : x.toInt / y.toInt * y.toInt ≤ x.toInt := Int.ediv_mul_le x.toInt (by omega)
  have h3 : 0 ≤ x.toInt / y.toInt * y.toInt := Int.mul_nonneg (Int.ediv_nonneg hx (by omega)) (by omega)
  have h4 := Int64.toInt_lt x
  have h1 : (x / y * y).toInt = x.toInt / y.toInt * y.toInt := by
    rw [Int64.toInt_mul, hq]
    generalize x.toInt / y.toInt * y.toInt = z at h2 h3
    rw [Int.bmod_def]
    omega
  have h5 := Int.mul_ediv_add_emod x.toInt y.toInt
  rw [Int.mul_comm] at h5
  rw [Int64.toInt_sub, h1]
  generalize x.toInt / y.toInt * y.toInt = z at h2 h3 h5
  rw [Int.bmod_def]
  omega
def zt_lremC (hs : List (List Nat)) (A : zk_A) : Option zk_A := match A.2.1 with
  | (1, k2, e2) :: (1, k1, e1) :: r => match zl_c e2 with
    | some c => cond (Nat.beq k2 1 && (Nat.beq k1 1 && (decide (0 < c) && (zl_en A.2.2.2.1 A.2.2.2.2 (hs.getD 1 []) e1 && zk_wf A.2.2.2.1.length A.1 r A.2.2.1 A.2.2.2.2))))
      (some (A.1, (1, 1, zl_sym A.2.2.2.1.length) :: r, A.2.2.1, A.2.2.2.1 ++ [(0, c - 1)], A.2.2.2.2)) none
    | none => none
  | _ => none
theorem zt_lremC_ok {I : zz_W → Prop} {A A' : zk_A} {n : Nat} {hs : List (List Nat)} (h : zt_lremC hs A = some A') : zk_S I (za_lrem n) n A A' := by
  obtain ⟨L, T, F, B, C⟩ := A
  unfold zt_lremC at h
  split at h
  · rename_i k2 e2 k1 e1 r hT
    have hT : T = (1, k2, e2) :: (1, k1, e1) :: r := hT
    subst hT
    split at h
    · rename_i c hc
      obtain ⟨hb, h⟩ := zz_cond h
      obtain ⟨b1, hb⟩ := zz_and hb
      obtain ⟨b2, hb⟩ := zz_and hb
      obtain ⟨b3, hb⟩ := zz_and hb
      obtain ⟨b4, b6⟩ := zz_and hb
      have b3 := of_decide_eq_true b3
      cases h
      refine ⟨by show B.length ≤ (B ++ [(0, c - 1)]).length; simp, fun K s f hG => ?_⟩
      obtain ⟨p, lv, st, w⟩ := f
      obtain ⟨g1, g2, g3, g4, g5, g6⟩ := hG
      obtain ⟨y, st1, q1, q2, q3⟩ := zk_st_lv g2 rfl
      obtain ⟨x, st2, q4, q5, q6⟩ := zk_st_lv q3 rfl
      have hst : st = .long y :: .long x :: st2 := by rw [← q4]; exact q1
      subst hst
      have q2 : y.toInt = zl_ev s e2 := q2 (zz_beq b1)
      have q5 : x.toInt = zl_ev s e1 := q5 (zz_beq b2)
      rw [zl_c_ok (s := s) hc] at q2
      have z1 := zl_en_ok g4 g5 b4
      have hq : (x - x / y * y).toInt = zl_ev s e1 % c := by rw [zk_lrem_pos (by omega) (by omega), q5, q2]
      have hy0 : ¬ y = 0 := fun h0 => by
        subst h0
        have h0 : (0 : Int64).toInt = 0 := rfl
        rw [h0] at q2
        omega
      have hag : ∀ j, j < B.length → (fun j => if j = B.length then zl_ev s e1 % c else s j) j = s j := fun j hj => if_neg (by omega)
      generalize hs' : (fun j => if j = B.length then zl_ev s e1 % c else s j) = s' at hag
      have hsB : s' B.length = zl_ev s e1 % c := by rw [← hs']; exact if_pos rfl
      obtain ⟨m1, m2, m3, m4⟩ := zk_wf_ok b6 hag g1 q6 g3 g5
      have hd2 := Int.emod_nonneg (zl_ev s e1) (b := c) (by omega)
      have hd3 := Int.emod_lt_of_pos (zl_ev s e1) b3
      refine ⟨s', _, ze_lrem hy0 rfl, rfl, ⟨m1, ⟨zk_v_lv (by rw [zl_sym_ev, hsB]; exact hq), m2⟩, m3, zl_in_snoc (fun k q hk => ?_) ?_ ?_, m4, g6⟩, hag⟩
      · have hk' : k < B.length := (List.getElem?_eq_some_iff.mp hk).1
        rw [hag k hk']
        exact g4 k q hk
      · rw [hsB]
        exact hd2
      · rw [hsB]
        omega
    · cases h
  · cases h
def zt_lremD (hs : List (List Nat)) (A : zk_A) : Option zk_A := match A.2.1 with
  | (1, k2, e2) :: (1, k1, e1) :: r => match zl_c e2 with
    | some c => cond (Nat.beq k2 1 && (Nat.beq k1 1 && (decide (0 < c) && (zl_en A.2.2.2.1 A.2.2.2.2 (hs.getD 1 []) e1 && zl_en A.2.2.2.1 A.2.2.2.2 (hs.getD 2 []) (zl_sub (zl_con (c - 1)) e1)))))
      (some (A.1, (1, 1, e1) :: r, A.2.2.1, A.2.2.2.1, A.2.2.2.2)) none
    | none => none
  | _ => none
theorem zt_lremD_ok {I : zz_W → Prop} {A A' : zk_A} {n : Nat} {hs : List (List Nat)} (h : zt_lremD hs A = some A') : zk_S I (za_lrem n) n A A' := by
  obtain ⟨L, T, F, B, C⟩ := A
  unfold zt_lremD at h
  split at h
  · rename_i k2 e2 k1 e1 r hT
    have hT : T = (1, k2, e2) :: (1, k1, e1) :: r := hT
    subst hT
    split at h
    · rename_i c hc
      obtain ⟨hb, h⟩ := zz_cond h
      obtain ⟨b1, hb⟩ := zz_and hb
      obtain ⟨b2, hb⟩ := zz_and hb
      obtain ⟨b3, hb⟩ := zz_and hb
      obtain ⟨b4, b6⟩ := zz_and hb
      have b3 := of_decide_eq_true b3
      cases h
      refine ⟨Nat.le_refl _, fun K s f hG => ?_⟩
      obtain ⟨p, lv, st, w⟩ := f
      obtain ⟨g1, g2, g3, g4, g5, g6⟩ := hG
      obtain ⟨y, st1, q1, q2, q3⟩ := zk_st_lv g2 rfl
      obtain ⟨x, st2, q4, q5, q6⟩ := zk_st_lv q3 rfl
      have hst : st = .long y :: .long x :: st2 := by rw [← q4]; exact q1
      subst hst
      have q2 : y.toInt = zl_ev s e2 := q2 (zz_beq b1)
      have q5 : x.toInt = zl_ev s e1 := q5 (zz_beq b2)
      rw [zl_c_ok (s := s) hc] at q2
      have z1 := zl_en_ok g4 g5 b4
      have z2 := zl_en_ok g4 g5 b6
      rw [zl_sub_ev, zl_con_ev] at z2
      have hq : (x - x / y * y).toInt = zl_ev s e1 := by
        rw [zk_lrem_pos (by omega) (by omega), q5, q2]
        exact Int.emod_eq_of_lt z1 (by omega)
      have hy0 : ¬ y = 0 := fun h0 => by
        subst h0
        have h0 : (0 : Int64).toInt = 0 := rfl
        rw [h0] at q2
        omega
      exact ⟨s, _, ze_lrem hy0 rfl, rfl, ⟨g1, ⟨zk_v_lv hq, q6⟩, g3, g4, g5, g6⟩, fun j hj => rfl⟩
    · cases h
  · cases h
def zt_lrem2 (hs : List (List Nat)) (A : zk_A) : Option zk_A := cond (Nat.beq ((hs.getD 0 []).getD 0 0) 7) (zt_lremC hs A) (cond (Nat.beq ((hs.getD 0 []).getD 0 0) 8) (zt_lremD hs A) (zt_lq hs A))
theorem zt_lrem2_ok {I : zz_W → Prop} {A A' : zk_A} {n : Nat} {hs : List (List Nat)} (h : zt_lrem2 hs A = some A') : zk_S I (za_lrem n) n A A' := by
  unfold zt_lrem2 at h
  cases hb : Nat.beq ((hs.getD 0 []).getD 0 0) 7 with
  | true =>
    rw [hb] at h
    exact zt_lremC_ok h
  | false =>
    rw [hb] at h
    have h : cond (Nat.beq ((hs.getD 0 []).getD 0 0) 8) (zt_lremD hs A) (zt_lq hs A) = some A' := h
    cases hb2 : Nat.beq ((hs.getD 0 []).getD 0 0) 8 with
    | true =>
      rw [hb2] at h
      exact zt_lremD_ok h
    | false =>
      rw [hb2] at h
      exact zt_lrem_ok h
end
