/-! ABSTRACT FRAMES: locals and operands as sums of symbols, fields that are followed, bounds of symbols, sums that are not below 0; what they say of a frame -/
noncomputable section
/-- a value: 0 an int (the sum), 1 a long (its second number 1: the sum), 2 a reference (the address), 3 null; others: anything -/
abbrev zk_V : Type := Nat × Nat × zl_E
/-- locals, operands, fields, bounds, sums -/
abbrev zk_A : Type := List (Nat × zk_V) × List zk_V × List ((Nat × Nat) × zk_V) × List (Int × Int) × List zl_E
def zk_v (s : Nat → Int) (a : zk_V) (v : Value) : Prop :=
  (a.1 = 0 → ∃ x : Int32, v = .int x ∧ x.toInt = zl_ev s a.2.2) ∧ (a.1 = 1 → ∃ x : Int64, v = .long x ∧ (a.2.1 = 1 → x.toInt = zl_ev s a.2.2)) ∧ (a.1 = 2 → v = .ref a.2.1) ∧ (a.1 = 3 → v = .null)
def zk_st (s : Nat → Int) : List zk_V → List Value → Prop
  | [], [] => True
  | a :: as, v :: vs => zk_v s a v ∧ zk_st s as vs
  | _, _ => False
/-- the number in field k of cell i -/
def zk_fd (w : zz_W) (q : Nat × Nat) : Nat := zz_at 64 (zz_g w q.1).2.2.2 q.2
/-- what a value says of a field's number -/
def zk_n (s : Nat → Int) (a : zk_V) (n : Nat) : Prop := (a.1 = 0 → (Int32.ofNat n).toInt = zl_ev s a.2.2) ∧ (a.1 = 2 → n = a.2.1 + 1) ∧ (a.1 = 3 → n = 0)
def zk_lc (s : Nat → Int) (L : List (Nat × zk_V)) (lv : List (Nat × Value)) : Prop := ∀ q ∈ L, ∃ v, zz_lg lv q.1 = some v ∧ zk_v s q.2 v
def zk_fl (s : Nat → Int) (F : List ((Nat × Nat) × zk_V)) (w : zz_W) : Prop := ∀ q ∈ F, zk_n s q.2 (zk_fd w q.1)
def zk_cs (s : Nat → Int) (C : List zl_E) : Prop := ∀ c ∈ C, 0 ≤ zl_ev s c
def zk_G (I : zz_W → Prop) (s : Nat → Int) (A : zk_A) (f : zz_F) : Prop :=
  zk_lc s A.1 f.2.1 ∧ zk_st s A.2.1 f.2.2.1 ∧ zk_fl s A.2.2.1 f.2.2.2 ∧ zl_in s A.2.2.2.1 ∧ zk_cs s A.2.2.2.2 ∧ I f.2.2.2
/-- an instruction takes frames of A to frames of A' at n -/
def zk_S (I : zz_W → Prop) (act : zz_A) (n : Nat) (A A' : zk_A) : Prop :=
  A.2.2.2.1.length ≤ A'.2.2.2.1.length ∧ ∀ (K : zz_K) (s : Nat → Int) (f : zz_F), zk_G I s A f → ∃ (s' : Nat → Int) (f' : zz_F), act K f = some f' ∧ f'.1 = n ∧ zk_G I s' A' f' ∧ ∀ j, j < A.2.2.2.1.length → s' j = s j
theorem zk_st_cons {s : Nat → Int} {a : zk_V} {as : List zk_V} : ∀ {st : List Value}, zk_st s (a :: as) st → ∃ v r, st = v :: r ∧ zk_v s a v ∧ zk_st s as r
  | [], h => h.elim
  | v :: r, h => ⟨v, r, rfl, h.1, h.2⟩
theorem zk_st_int {s : Nat → Int} {a : zk_V} {as : List zk_V} {st : List Value} (h : zk_st s (a :: as) st) (ha : a.1 = 0) : ∃ x r, st = .int x :: r ∧ x.toInt = zl_ev s a.2.2 ∧ zk_st s as r := by
  obtain ⟨v, r, e, h1, h2⟩ := zk_st_cons h
  obtain ⟨x, e1, e2⟩ := h1.1 ha
  exact ⟨x, r, by rw [e, e1], e2, h2⟩
theorem zk_v_int {s : Nat → Int} {x : Int32} {k : Nat} {e : zl_E} (h : x.toInt = zl_ev s e) : zk_v s (0, k, e) (.int x) :=
  ⟨fun _ => ⟨x, rfl, h⟩, fun h => absurd (show (0 : Nat) = 1 from h) (by decide), fun h => absurd (show (0 : Nat) = 2 from h) (by decide), fun h => absurd (show (0 : Nat) = 3 from h) (by decide)⟩
theorem zk_v_lv {s : Nat → Int} {x : Int64} {k : Nat} {e : zl_E} (h : x.toInt = zl_ev s e) : zk_v s (1, k, e) (.long x) :=
  ⟨fun h => absurd (show (1 : Nat) = 0 from h) (by decide), fun _ => ⟨x, rfl, fun _ => h⟩, fun h => absurd (show (1 : Nat) = 2 from h) (by decide), fun h => absurd (show (1 : Nat) = 3 from h) (by decide)⟩
theorem zk_v_long {s : Nat → Int} {x : Int64} {e : zl_E} : zk_v s (1, 0, e) (.long x) :=
  ⟨fun h => absurd (show (1 : Nat) = 0 from h) (by decide), fun _ => ⟨x, rfl, fun h => absurd (show (0 : Nat) = 1 from h) (by decide)⟩, fun h => absurd (show (1 : Nat) = 2 from h) (by decide), fun h => absurd (show (1 : Nat) = 3 from h) (by decide)⟩
theorem zk_v_ref {s : Nat → Int} {k : Nat} {e : zl_E} : zk_v s (2, k, e) (.ref k) :=
  ⟨fun h => absurd (show (2 : Nat) = 0 from h) (by decide), fun h => absurd (show (2 : Nat) = 1 from h) (by decide), fun _ => rfl, fun h => absurd (show (2 : Nat) = 3 from h) (by decide)⟩
theorem zk_v_null {s : Nat → Int} {k : Nat} {e : zl_E} : zk_v s (3, k, e) .null :=
  ⟨fun h => absurd (show (3 : Nat) = 0 from h) (by decide), fun h => absurd (show (3 : Nat) = 1 from h) (by decide), fun h => absurd (show (3 : Nat) = 2 from h) (by decide), fun _ => rfl⟩
/-- no symbol from n on -/
def zk_wv (n : Nat) (a : zk_V) : Bool := Nat.ble (zl_mx a.2.2.2) n
def zk_wf (n : Nat) (L : List (Nat × zk_V)) (T : List zk_V) (F : List ((Nat × Nat) × zk_V)) (C : List zl_E) : Bool :=
  L.all (fun q => zk_wv n q.2) && (T.all (zk_wv n) && (F.all (fun q => zk_wv n q.2) && C.all (fun c => Nat.ble (zl_mx c.2) n)))
theorem zk_v_eq {s t : Nat → Int} {n : Nat} {a : zk_V} {v : Value} (hw : zk_wv n a = true) (h : ∀ j, j < n → t j = s j) (hv : zk_v s a v) : zk_v t a v := by
  refine ⟨fun h0 => ?_, fun h1 => ?_, hv.2.2⟩
  · obtain ⟨x, e1, e2⟩ := hv.1 h0
    exact ⟨x, e1, by rw [e2]; exact (zl_ev_eq (n := n) (zz_ble hw) h).symm⟩
  · obtain ⟨x, e1, e2⟩ := hv.2.1 h1
    exact ⟨x, e1, fun h2 => by rw [e2 h2]; exact (zl_ev_eq (n := n) (zz_ble hw) h).symm⟩
theorem zk_st_eq {s t : Nat → Int} {n : Nat} (h : ∀ j, j < n → t j = s j) : ∀ {T : List zk_V} {st : List Value}, T.all (zk_wv n) = true → zk_st s T st → zk_st t T st
  | [], [], _, _ => trivial
  | [], _ :: _, _, h2 => h2.elim
  | _ :: _, [], _, h2 => h2.elim
  | a :: as, v :: vs, hw, h2 => by
    rw [List.all_cons] at hw
    obtain ⟨h3, h4⟩ := zz_and hw
    exact ⟨zk_v_eq h3 h h2.1, zk_st_eq h h4 h2.2⟩
/-- the same with another number for a symbol that is not used -/
theorem zk_wf_ok {s t : Nat → Int} {n : Nat} {L : List (Nat × zk_V)} {T : List zk_V} {F : List ((Nat × Nat) × zk_V)} {C : List zl_E} {lv : List (Nat × Value)} {st : List Value} {w : zz_W} (hw : zk_wf n L T F C = true) (h : ∀ j, j < n → t j = s j)
    (h1 : zk_lc s L lv) (h2 : zk_st s T st) (h3 : zk_fl s F w) (h4 : zk_cs s C) : zk_lc t L lv ∧ zk_st t T st ∧ zk_fl t F w ∧ zk_cs t C := by
  unfold zk_wf at hw
  obtain ⟨w1, hw⟩ := zz_and hw
  obtain ⟨w2, hw⟩ := zz_and hw
  obtain ⟨w3, w4⟩ := zz_and hw
  refine ⟨fun q hq => ?_, zk_st_eq h w2 h2, fun q hq => ?_, fun c hc => ?_⟩
  · obtain ⟨v, e1, e2⟩ := h1 q hq
    exact ⟨v, e1, zk_v_eq (List.all_eq_true.mp w1 q hq) h e2⟩
  · obtain ⟨e1, e2⟩ := h3 q hq
    exact ⟨fun h0 => by rw [e1 h0]; exact (zl_ev_eq (n := n) (zz_ble (List.all_eq_true.mp w3 q hq)) h).symm, e2⟩
  · have := h4 c hc
    rw [zl_ev_eq (n := n) (zz_ble (List.all_eq_true.mp w4 c hc)) h]
    exact this
/-- an int of which only bounds are known comes onto the operands T -/
def zk_new (A : zk_A) (T : List zk_V) (lo hi : Int) : Option zk_A :=
  cond (zk_wf A.2.2.2.1.length A.1 T A.2.2.1 A.2.2.2.2) (some (A.1, (0, 0, zl_sym A.2.2.2.1.length) :: T, A.2.2.1, A.2.2.2.1 ++ [(lo, hi)], A.2.2.2.2)) none
theorem zk_new_ok {I : zz_W → Prop} {A A' : zk_A} {T : List zk_V} {lo hi : Int} {s : Nat → Int} {lv : List (Nat × Value)} {r : List Value} {w : zz_W} {x : Int32} {n : Nat} (h : zk_new A T lo hi = some A') (h1 : zk_lc s A.1 lv) (h2 : zk_st s T r) (h3 : zk_fl s A.2.2.1 w) (h4 : zl_in s A.2.2.2.1) (h5 : zk_cs s A.2.2.2.2) (h6 : I w) (hlo : lo ≤ x.toInt) (hhi : x.toInt ≤ hi) :
    A.2.2.2.1.length ≤ A'.2.2.2.1.length ∧ ∃ s' : Nat → Int, zk_G I s' A' (n, lv, .int x :: r, w) ∧ ∀ j, j < A.2.2.2.1.length → s' j = s j := by
  obtain ⟨hw, h⟩ := zz_cond h
  cases h
  refine ⟨by show _ ≤ (A.2.2.2.1 ++ [(lo, hi)]).length; simp, fun j => if j = A.2.2.2.1.length then x.toInt else s j, ?_, fun j hj => if_neg (by omega)⟩
  have hs : ∀ j, j < A.2.2.2.1.length → (fun j => if j = A.2.2.2.1.length then x.toInt else s j) j = s j := fun j hj => if_neg (by omega)
  obtain ⟨g1, g2, g3, g4⟩ := zk_wf_ok hw hs h1 h2 h3 h5
  refine ⟨g1, ⟨zk_v_int ?_, g2⟩, g3, zl_in_snoc (fun k q hq => ?_) ?_ ?_, g4, h6⟩
  · rw [zl_sym_ev]
    exact (if_pos rfl).symm
  · have hk : k < A.2.2.2.1.length := (List.getElem?_eq_some_iff.mp hq).1
    show q.1 ≤ (if k = A.2.2.2.1.length then x.toInt else s k) ∧ (if k = A.2.2.2.1.length then x.toInt else s k) ≤ q.2
    rw [if_neg (by omega)]
    exact h4 k q hq
  · show lo ≤ (if A.2.2.2.1.length = A.2.2.2.1.length then x.toInt else s _)
    rw [if_pos rfl]
    exact hlo
  · show (if A.2.2.2.1.length = A.2.2.2.1.length then x.toInt else s _) ≤ hi
    rw [if_pos rfl]
    exact hhi
/-- an int that is a sum, if the bounds say that it doesn't wrap; else any int -/
def zk_lin (A : zk_A) (T : List zk_V) (e : zl_E) : Option zk_A :=
  cond (zl_pos A.2.2.2.1 (zl_add e (zl_con 2147483648)) && zl_pos A.2.2.2.1 (zl_sub (zl_con 2147483647) e)) (some (A.1, (0, 0, e) :: T, A.2.2.1, A.2.2.2.1, A.2.2.2.2)) (zk_new A T (-2147483648) 2147483647)
theorem zk_lo (x : Int32) : -2147483648 ≤ x.toInt := Int32.le_toInt x
theorem zk_hi (x : Int32) : x.toInt ≤ 2147483647 := by
  have := Int32.toInt_lt x
  omega
theorem zk_lin_ok {I : zz_W → Prop} {A A' : zk_A} {T : List zk_V} {e : zl_E} {s : Nat → Int} {lv : List (Nat × Value)} {r : List Value} {w : zz_W} {x : Int32} {n : Nat} (h : zk_lin A T e = some A') (h1 : zk_lc s A.1 lv) (h2 : zk_st s T r) (h3 : zk_fl s A.2.2.1 w) (h4 : zl_in s A.2.2.2.1) (h5 : zk_cs s A.2.2.2.2) (h6 : I w) (hx : -2147483648 ≤ zl_ev s e → zl_ev s e ≤ 2147483647 → x.toInt = zl_ev s e) :
    A.2.2.2.1.length ≤ A'.2.2.2.1.length ∧ ∃ s' : Nat → Int, zk_G I s' A' (n, lv, .int x :: r, w) ∧ ∀ j, j < A.2.2.2.1.length → s' j = s j := by
  unfold zk_lin at h
  cases hb : (zl_pos A.2.2.2.1 (zl_add e (zl_con 2147483648)) && zl_pos A.2.2.2.1 (zl_sub (zl_con 2147483647) e)) with
  | false =>
    rw [hb] at h
    exact zk_new_ok h h1 h2 h3 h4 h5 h6 (zk_lo x) (zk_hi x)
  | true =>
    rw [hb] at h
    cases h
    obtain ⟨b1, b2⟩ := zz_and hb
    have c1 := zl_pos_ok h4 b1
    have c2 := zl_pos_ok h4 b2
    rw [zl_add_ev, zl_con_ev] at c1
    rw [zl_sub_ev, zl_con_ev] at c2
    exact ⟨Nat.le_refl _, s, ⟨h1, ⟨zk_v_int (hx (by omega) (by omega)), h2⟩, h3, h4, h5, h6⟩, fun _ _ => rfl⟩
theorem zk_bmod {a : Int} (h1 : -2147483648 ≤ a) (h2 : a ≤ 2147483647) : a.bmod (2 ^ 32) = a := by
  rw [Int.bmod_def]
  omega
theorem zk_new_len {A A' : zk_A} {T : List zk_V} {lo hi : Int} (h : zk_new A T lo hi = some A') : A.2.2.2.1.length ≤ A'.2.2.2.1.length := by
  obtain ⟨-, h⟩ := zz_cond h
  cases h
  show _ ≤ (A.2.2.2.1 ++ [(lo, hi)]).length
  simp
theorem zk_lin_len {A A' : zk_A} {T : List zk_V} {e : zl_E} (h : zk_lin A T e = some A') : A.2.2.2.1.length ≤ A'.2.2.2.1.length := by
  unfold zk_lin at h
  cases hb : (zl_pos A.2.2.2.1 (zl_add e (zl_con 2147483648)) && zl_pos A.2.2.2.1 (zl_sub (zl_con 2147483647) e)) with
  | false =>
    rw [hb] at h
    exact zk_new_len h
  | true =>
    rw [hb] at h
    cases h
    exact Nat.le_refl _
/-- two ints make one that is a sum of theirs -/
def zt_2l (le : zl_E → zl_E → zl_E) (A : zk_A) : Option zk_A := match A.2.1 with
  | (0, _, e2) :: (0, _, e1) :: r => zk_lin A r (le e1 e2)
  | _ => none
theorem zt_2l_ok {I : zz_W → Prop} {A A' : zk_A} {n : Nat} {act : zz_A} {le : zl_E → zl_E → zl_E} {g : Int32 → Int32 → Int32} (ha : ∀ (K : zz_K) (p : Nat) (lv : List (Nat × Value)) (x y : Int32) (r : List Value) (w : zz_W), act K (p, lv, .int y :: .int x :: r, w) = some (n, lv, .int (g x y) :: r, w))
    (hl : ∀ (s : Nat → Int) (x y : Int32) (e1 e2 : zl_E), x.toInt = zl_ev s e1 → y.toInt = zl_ev s e2 → -2147483648 ≤ zl_ev s (le e1 e2) → zl_ev s (le e1 e2) ≤ 2147483647 → (g x y).toInt = zl_ev s (le e1 e2)) (h : zt_2l le A = some A') : zk_S I act n A A' := by
  obtain ⟨L, T, F, B, C⟩ := A
  unfold zt_2l at h
  split at h
  · rename_i k2 e2 k1 e1 r hT
    have hT : T = (0, k2, e2) :: (0, k1, e1) :: r := hT
    subst hT
    refine ⟨zk_lin_len h, fun K s f hG => ?_⟩
    obtain ⟨p, lv, st, w⟩ := f
    obtain ⟨g1, g2, g3, g4, g5, g6⟩ := hG
    obtain ⟨y, st1, q1, q2, q3⟩ := zk_st_int g2 rfl
    obtain ⟨x, st2, q4, q5, q6⟩ := zk_st_int q3 rfl
    have hst : st = .int y :: .int x :: st2 := by rw [← q4]; exact q1
    subst hst
    obtain ⟨-, s', hg, hs⟩ := zk_lin_ok (I := I) (x := g x y) (n := n) (w := w) (lv := lv) h g1 q6 g3 g4 g5 g6 (hl s x y e1 e2 q5 q2)
    exact ⟨s', _, ha K p lv x y st2 w, rfl, hg, hs⟩
  · cases h
/-- two ints make one within bounds that theirs tell -/
def zt_2b (bd : List (Int × Int) → zl_E → zl_E → Int × Int) (A : zk_A) : Option zk_A := match A.2.1 with
  | (0, _, e2) :: (0, _, e1) :: r => zk_new A r (bd A.2.2.2.1 e1 e2).1 (bd A.2.2.2.1 e1 e2).2
  | _ => none
theorem zt_2b_ok {I : zz_W → Prop} {A A' : zk_A} {n : Nat} {act : zz_A} {bd : List (Int × Int) → zl_E → zl_E → Int × Int} {g : Int32 → Int32 → Int32} {P : Int32 → Prop} (hP : ∀ (e1 e2 : zl_E) (k1 k2 : Nat) (r : List zk_V), A.2.1 = (0, k2, e2) :: (0, k1, e1) :: r → ∀ (s : Nat → Int) (y : Int32), zl_in s A.2.2.2.1 → zk_cs s A.2.2.2.2 → y.toInt = zl_ev s e2 → P y)
    (ha : ∀ (K : zz_K) (p : Nat) (lv : List (Nat × Value)) (x y : Int32) (r : List Value) (w : zz_W), P y → act K (p, lv, .int y :: .int x :: r, w) = some (n, lv, .int (g x y) :: r, w))
    (hl : ∀ (s : Nat → Int) (B : List (Int × Int)) (x y : Int32) (e1 e2 : zl_E), zl_in s B → x.toInt = zl_ev s e1 → y.toInt = zl_ev s e2 → (bd B e1 e2).1 ≤ (g x y).toInt ∧ (g x y).toInt ≤ (bd B e1 e2).2) (h : zt_2b bd A = some A') : zk_S I act n A A' := by
  obtain ⟨L, T, F, B, C⟩ := A
  unfold zt_2b at h
  split at h
  · rename_i k2 e2 k1 e1 r hT
    have hT : T = (0, k2, e2) :: (0, k1, e1) :: r := hT
    subst hT
    refine ⟨zk_new_len h, fun K s f hG => ?_⟩
    obtain ⟨p, lv, st, w⟩ := f
    obtain ⟨g1, g2, g3, g4, g5, g6⟩ := hG
    obtain ⟨y, st1, q1, q2, q3⟩ := zk_st_int g2 rfl
    obtain ⟨x, st2, q4, q5, q6⟩ := zk_st_int q3 rfl
    have hst : st = .int y :: .int x :: st2 := by rw [← q4]; exact q1
    subst hst
    have hb := hl s B x y e1 e2 g4 q5 q2
    obtain ⟨-, s', hg, hs⟩ := zk_new_ok (I := I) (x := g x y) (n := n) (w := w) (lv := lv) h g1 q6 g3 g4 g5 g6 hb.1 hb.2
    exact ⟨s', _, ha K p lv x y st2 w (hP e1 e2 k1 k2 r rfl s y g4 g5 q2), rfl, hg, hs⟩
  · cases h
/-- one int makes one within bounds -/
def zt_1b (bd : List (Int × Int) → zl_E → Int × Int) (A : zk_A) : Option zk_A := match A.2.1 with
  | (0, _, e1) :: r => zk_new A r (bd A.2.2.2.1 e1).1 (bd A.2.2.2.1 e1).2
  | _ => none
theorem zt_1b_ok {I : zz_W → Prop} {A A' : zk_A} {n : Nat} {act : zz_A} {bd : List (Int × Int) → zl_E → Int × Int} {g : Int32 → Int32} (ha : ∀ (K : zz_K) (p : Nat) (lv : List (Nat × Value)) (x : Int32) (r : List Value) (w : zz_W), act K (p, lv, .int x :: r, w) = some (n, lv, .int (g x) :: r, w))
    (hl : ∀ (s : Nat → Int) (B : List (Int × Int)) (x : Int32) (e1 : zl_E), zl_in s B → x.toInt = zl_ev s e1 → (bd B e1).1 ≤ (g x).toInt ∧ (g x).toInt ≤ (bd B e1).2) (h : zt_1b bd A = some A') : zk_S I act n A A' := by
  obtain ⟨L, T, F, B, C⟩ := A
  unfold zt_1b at h
  split at h
  · rename_i k1 e1 r hT
    have hT : T = (0, k1, e1) :: r := hT
    subst hT
    refine ⟨zk_new_len h, fun K s f hG => ?_⟩
    obtain ⟨p, lv, st, w⟩ := f
    obtain ⟨g1, g2, g3, g4, g5, g6⟩ := hG
    obtain ⟨x, st2, q4, q5, q6⟩ := zk_st_int g2 rfl
    have q4 : st = .int x :: st2 := q4
    subst q4
    have hb := hl s B x e1 g4 q5
    obtain ⟨-, s', hg, hs⟩ := zk_new_ok (I := I) (x := g x) (n := n) (w := w) (lv := lv) h g1 q6 g3 g4 g5 g6 hb.1 hb.2
    exact ⟨s', _, ha K p lv x st2 w, rfl, hg, hs⟩
  · cases h
theorem zt_iadd_ok {I : zz_W → Prop} {A A' : zk_A} {n : Nat} (h : zt_2l zl_add A = some A') : zk_S I (za_iadd n) n A A' :=
  zt_2l_ok (g := fun x y => x + y) (fun K p lv x y r w => ze_iadd rfl) (fun s x y e1 e2 h1 h2 a b => by
    rw [zl_add_ev] at a b ⊢
    rw [Int32.toInt_add, h1, h2, zk_bmod a b]) h
theorem zt_isub_ok {I : zz_W → Prop} {A A' : zk_A} {n : Nat} (h : zt_2l zl_sub A = some A') : zk_S I (za_isub n) n A A' :=
  zt_2l_ok (g := fun x y => x - y) (fun K p lv x y r w => ze_isub rfl) (fun s x y e1 e2 h1 h2 a b => by
    rw [zl_sub_ev] at a b ⊢
    rw [Int32.toInt_sub, h1, h2, zk_bmod a b]) h
/-- any int -/
def zk_top (_ : List (Int × Int)) (_ _ : zl_E) : Int × Int := (-2147483648, 2147483647)
def zk_top1 (_ : List (Int × Int)) (_ : zl_E) : Int × Int := (-2147483648, 2147483647)
theorem zk_topE {x : Int32} : -2147483648 ≤ x.toInt ∧ x.toInt ≤ 2147483647 := ⟨zk_lo x, zk_hi x⟩
theorem zt_imul_ok {I : zz_W → Prop} {A A' : zk_A} {n : Nat} (h : zt_2b zk_top A = some A') : zk_S I (za_imul n) n A A' :=
  zt_2b_ok (g := fun x y => x * y) (P := fun _ => True) (fun _ _ _ _ _ _ _ _ _ _ _ => trivial) (fun K p lv x y r w _ => ze_imul rfl) (fun _ _ _ _ _ _ _ _ _ => zk_topE) h
theorem zt_ior_ok {I : zz_W → Prop} {A A' : zk_A} {n : Nat} (h : zt_2b zk_top A = some A') : zk_S I (za_ior n) n A A' :=
  zt_2b_ok (g := fun x y => x ||| y) (P := fun _ => True) (fun _ _ _ _ _ _ _ _ _ _ _ => trivial) (fun K p lv x y r w _ => ze_ior rfl) (fun _ _ _ _ _ _ _ _ _ => zk_topE) h
theorem zt_ixor_ok {I : zz_W → Prop} {A A' : zk_A} {n : Nat} (h : zt_2b zk_top A = some A') : zk_S I (za_ixor n) n A A' :=
  zt_2b_ok (g := fun x y => x ^^^ y) (P := fun _ => True) (fun _ _ _ _ _ _ _ _ _ _ _ => trivial) (fun K p lv x y r w _ => ze_ixor rfl) (fun _ _ _ _ _ _ _ _ _ => zk_topE) h
theorem zt_ishl_ok {I : zz_W → Prop} {A A' : zk_A} {n : Nat} (h : zt_2b zk_top A = some A') : zk_S I (za_ishl n) n A A' :=
  zt_2b_ok (g := fun x y => x <<< (y &&& 31)) (P := fun _ => True) (fun _ _ _ _ _ _ _ _ _ _ _ => trivial) (fun K p lv x y r w _ => ze_ishl rfl) (fun _ _ _ _ _ _ _ _ _ => zk_topE) h
theorem zt_ishr_ok {I : zz_W → Prop} {A A' : zk_A} {n : Nat} (h : zt_2b zk_top A = some A') : zk_S I (za_ishr n) n A A' :=
  zt_2b_ok (g := fun x y => x >>> (y &&& 31)) (P := fun _ => True) (fun _ _ _ _ _ _ _ _ _ _ _ => trivial) (fun K p lv x y r w _ => ze_ishr rfl) (fun _ _ _ _ _ _ _ _ _ => zk_topE) h
theorem zt_iushr_ok {I : zz_W → Prop} {A A' : zk_A} {n : Nat} (h : zt_2b zk_top A = some A') : zk_S I (za_iushr n) n A A' :=
  zt_2b_ok (g := fun x y => (x.toUInt32 >>> (y.toUInt32 &&& Int32.toUInt32 31)).toInt32) (P := fun _ => True) (fun _ _ _ _ _ _ _ _ _ _ _ => trivial) (fun K p lv x y r w _ => ze_iushr rfl) (fun _ _ _ _ _ _ _ _ _ => zk_topE) h
theorem zt_iand_ok {I : zz_W → Prop} {A A' : zk_A} {n : Nat} (h : zt_2b zk_top A = some A') : zk_S I (za_iand n) n A A' :=
  zt_2b_ok (g := fun x y => x &&& y) (P := fun _ => True) (fun _ _ _ _ _ _ _ _ _ _ _ => trivial) (fun K p lv x y r w _ => ze_iand rfl) (fun _ _ _ _ _ _ _ _ _ => zk_topE) h
theorem zt_ineg_ok {I : zz_W → Prop} {A A' : zk_A} {n : Nat} (h : zt_1b zk_top1 A = some A') : zk_S I (za_ineg n) n A A' :=
  zt_1b_ok (g := fun x => -x) (fun K p lv x r w => ze_ineg rfl) (fun _ _ _ _ _ _ => zk_topE) h
end
