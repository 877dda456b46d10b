/-! ABSTRACT FRAMES, on: rests, quotients, longs, lengths -/
noncomputable section
def zt_irem (A : zk_A) : Option zk_A := match A.2.1 with
  | (0, _, e2) :: (0, _, e1) :: r => match zl_c e2 with
    | some c => cond (decide (0 < c)) (zk_new A r (cond (zl_pos A.2.2.2.1 e1) 0 (1 - c)) (c - 1)) none
    | none => none
  | _ => none
theorem zt_irem_ok {I : zz_W → Prop} {A A' : zk_A} {n : Nat} (h : zt_irem A = some A') : zk_S I (za_irem n) n A A' := by
  obtain ⟨L, T, F, B, C⟩ := A
  unfold zt_irem at h
  split at h
  · rename_i k2 e2 k1 e1 r hT
    have hT : T = (0, k2, e2) :: (0, k1, e1) :: r := hT
    subst hT
    split at h
    · rename_i c hc
      obtain ⟨h0, h⟩ := zz_cond h
      have h0 : 0 < c := of_decide_eq_true h0
      refine ⟨zk_new_len h, fun K s f hG => ?_⟩
      obtain ⟨p, lv, st, w⟩ := f
      obtain ⟨g1, g2, g3, g4, g5, g6⟩ := hG
      obtain ⟨y, st1, q1, q2, q3⟩ := zk_st_int g2 rfl
      obtain ⟨x, st2, q4, q5, q6⟩ := zk_st_int q3 rfl
      have hst : st = .int y :: .int x :: st2 := by rw [← q4]; exact q1
      subst hst
      have hy : y.toInt = c := by
        have q2 : y.toInt = zl_ev s e2 := q2
        rw [q2]
        exact zl_c_ok hc
      have hm := zk_rem (x := x) hy h0
      have hlt := Int.tmod_lt_of_pos x.toInt h0
      have hgt : -c < x.toInt.tmod c := by
        have h1 := Int.tmod_lt_of_pos (-x.toInt) h0
        rw [Int.neg_tmod] at h1
        omega
      have hy0 : ¬ y = 0 := by
        intro e
        rw [e] at hy
        have : (0 : Int32).toInt = 0 := rfl
        omega
      obtain ⟨-, s', hg, hs⟩ := zk_new_ok (I := I) (x := x - x / y * y) (n := n) (w := w) (lv := lv) h g1 q6 g3 g4 g5 g6 (by
        rw [hm]
        cases hp : zl_pos B e1 with
        | true =>
          have h1 := zl_pos_ok g4 hp
          have q5 : x.toInt = zl_ev s e1 := q5
          exact Int.tmod_nonneg _ (by omega)
        | false =>
          show 1 - c ≤ _
          omega) (by rw [hm]; omega)
      exact ⟨s', _, ze_irem hy0 rfl, rfl, hg, hs⟩
    · cases h
  · cases h
/-- longs: nothing is known of them -/
theorem zk_st_long {s : Nat → Int} {a : zk_V} {as : List zk_V} {st : List Value} (h : zk_st s (a :: as) st) (ha : a.1 = 1) : ∃ x r, st = .long x :: r ∧ zk_st s as r := by
  obtain ⟨v, r, e, h1, h2⟩ := zk_st_cons h
  obtain ⟨x, e1, -⟩ := h1.2.1 ha
  exact ⟨x, r, by rw [e, e1], h2⟩
theorem zk_st_lv {s : Nat → Int} {a : zk_V} {as : List zk_V} {st : List Value} (h : zk_st s (a :: as) st) (ha : a.1 = 1) : ∃ x r, st = .long x :: r ∧ (a.2.1 = 1 → x.toInt = zl_ev s a.2.2) ∧ zk_st s as r := by
  obtain ⟨v, r, e, h1, h2⟩ := zk_st_cons h
  obtain ⟨x, e1, e2⟩ := h1.2.1 ha
  exact ⟨x, r, by rw [e, e1], e2, h2⟩
def zt_LL (A : zk_A) : Option zk_A := match A.2.1 with
  | (1, _, _) :: (1, _, _) :: r => some (A.1, (1, 0, zl_con 0) :: r, A.2.2.1, A.2.2.2.1, A.2.2.2.2)
  | _ => none
theorem zt_LL_ok {I : zz_W → Prop} {A A' : zk_A} {n : Nat} {act : zz_A} {g : Int64 → Int64 → Int64} (ha : ∀ (K : zz_K) (p : Nat) (lv : List (Nat × Value)) (x y : Int64) (r : List Value) (w : zz_W), act K (p, lv, .long y :: .long x :: r, w) = some (n, lv, .long (g x y) :: r, w)) (h : zt_LL A = some A') : zk_S I act n A A' := by
  obtain ⟨L, T, F, B, C⟩ := A
  unfold zt_LL at h
  split at h
  · rename_i k2 e2 k e r hT
    have hT : T = (1, k2, e2) :: (1, k, e) :: r := hT
    subst hT
    cases h
    refine zk_S_st (fun K s p lv st w hL hT => ?_)
    obtain ⟨y, st1, q1, q2⟩ := zk_st_long hT rfl
    obtain ⟨x, st2, q3, q4⟩ := zk_st_long q2 rfl
    subst q3
    subst q1
    exact ⟨_, ha K p lv x y st2 w, zk_v_long, q4⟩
  · cases h
def zt_LI (A : zk_A) : Option zk_A := match A.2.1 with
  | (0, _, _) :: (1, _, _) :: r => some (A.1, (1, 0, zl_con 0) :: r, A.2.2.1, A.2.2.2.1, A.2.2.2.2)
  | _ => none
theorem zt_LI_ok {I : zz_W → Prop} {A A' : zk_A} {n : Nat} {act : zz_A} {g : Int64 → Int32 → Int64} (ha : ∀ (K : zz_K) (p : Nat) (lv : List (Nat × Value)) (x : Int64) (y : Int32) (r : List Value) (w : zz_W), act K (p, lv, .int y :: .long x :: r, w) = some (n, lv, .long (g x y) :: r, w)) (h : zt_LI A = some A') : zk_S I act n A A' := by
  obtain ⟨L, T, F, B, C⟩ := A
  unfold zt_LI at h
  split at h
  · rename_i k2 e2 k e r hT
    have hT : T = (0, k2, e2) :: (1, k, e) :: r := hT
    subst hT
    cases h
    refine zk_S_st (fun K s p lv st w hL hT => ?_)
    obtain ⟨y, st1, q1, -, q2⟩ := zk_st_int hT rfl
    obtain ⟨x, st2, q3, q4⟩ := zk_st_long q2 rfl
    subst q3
    subst q1
    exact ⟨_, ha K p lv x y st2 w, zk_v_long, q4⟩
  · cases h
def zt_i2l (A : zk_A) : Option zk_A := match A.2.1 with
  | (0, _, e) :: r => some (A.1, (1, 1, e) :: r, A.2.2.1, A.2.2.2.1, A.2.2.2.2)
  | _ => none
theorem zt_i2l_ok {I : zz_W → Prop} {A A' : zk_A} {n : Nat} (h : zt_i2l A = some A') : zk_S I (za_i2l n) n A A' := by
  obtain ⟨L, T, F, B, C⟩ := A
  unfold zt_i2l at h
  split at h
  · rename_i k e r hT
    have hT : T = (0, k, e) :: r := hT
    subst hT
    cases h
    refine zk_S_st (fun K s p lv st w hL hT => ?_)
    obtain ⟨y, st1, q1, q0, q2⟩ := zk_st_int hT rfl
    subst q1
    exact ⟨_, ze_i2l rfl, zk_v_lv (by rw [Int32.toInt_toInt64]; exact q0), q2⟩
  · cases h
theorem zk_bmod64 {a : Int} (h1 : -9223372036854775808 ≤ a) (h2 : a ≤ 9223372036854775807) : a.bmod (2 ^ 64) = a := by
  rw [Int.bmod_def]
  omega
/-- a sum that a long holds -/
def zl_w64 (B : List (Int × Int)) (e : zl_E) : Bool := zl_pos B (zl_add e (zl_con 9223372036854775808)) && zl_pos B (zl_sub (zl_con 9223372036854775807) e)
theorem zl_w64_ok {s : Nat → Int} {B : List (Int × Int)} {e : zl_E} (hB : zl_in s B) (h : zl_w64 B e = true) : -9223372036854775808 ≤ zl_ev s e ∧ zl_ev s e ≤ 9223372036854775807 := by
  obtain ⟨b1, b2⟩ := zz_and h
  have c1 := zl_pos_ok hB b1
  have c2 := zl_pos_ok hB b2
  rw [zl_add_ev, zl_con_ev] at c1
  rw [zl_sub_ev, zl_con_ev] at c2
  constructor <;> omega
/-- two longs make one that is a sum of theirs, or any -/
def zt_LLl (ok : zl_E → zl_E → Bool) (le : zl_E → zl_E → zl_E) (A : zk_A) : Option zk_A := match A.2.1 with
  | (1, k2, e2) :: (1, k1, e1) :: r => some (A.1, cond (Nat.beq k2 1 && (Nat.beq k1 1 && (ok e1 e2 && zl_w64 A.2.2.2.1 (le e1 e2)))) (1, 1, le e1 e2) (1, 0, zl_con 0) :: r, A.2.2.1, A.2.2.2.1, A.2.2.2.2)
  | _ => none
theorem zt_LLl_ok {I : zz_W → Prop} {A A' : zk_A} {n : Nat} {act : zz_A} {ok : zl_E → zl_E → Bool} {le : zl_E → zl_E → zl_E} {g : Int64 → Int64 → Int64} (ha : ∀ (K : zz_K) (p : Nat) (lv : List (Nat × Value)) (x y : Int64) (r : List Value) (w : zz_W), act K (p, lv, .long y :: .long x :: r, w) = some (n, lv, .long (g x y) :: r, w))
    (hl : ∀ (s : Nat → Int) (x y : Int64) (e1 e2 : zl_E), ok e1 e2 = true → x.toInt = zl_ev s e1 → y.toInt = zl_ev s e2 → -9223372036854775808 ≤ zl_ev s (le e1 e2) → zl_ev s (le e1 e2) ≤ 9223372036854775807 → (g x y).toInt = zl_ev s (le e1 e2)) (h : zt_LLl ok le A = some A') : zk_S I act n A A' := by
  obtain ⟨L, T, F, B, C⟩ := A
  unfold zt_LLl at h
  split at h
  · rename_i k2 e2 k1 e1 r hT
    have hT : T = (1, k2, e2) :: (1, k1, e1) :: r := hT
    subst hT
    cases h
    refine ⟨Nat.le_refl _, fun K s f hG => ?_⟩
    obtain ⟨p, lv, st, w⟩ := f
    obtain ⟨g1, g2, g3, g4, g5, g6⟩ := hG
    obtain ⟨y, st1, q1, q2, q3⟩ := zk_st_lv g2 rfl
    obtain ⟨x, st2, q4, q5, q6⟩ := zk_st_lv q3 rfl
    have hst : st = .long y :: .long x :: st2 := by rw [← q4]; exact q1
    subst hst
    refine ⟨s, _, ha K p lv x y st2 w, rfl, ⟨g1, ⟨?_, q6⟩, g3, g4, g5, g6⟩, fun _ _ => rfl⟩
    show zk_v s (cond (Nat.beq k2 1 && (Nat.beq k1 1 && (ok e1 e2 && zl_w64 B (le e1 e2)))) (1, 1, le e1 e2) (1, 0, zl_con 0)) (.long (g x y))
    cases hb : (Nat.beq k2 1 && (Nat.beq k1 1 && (ok e1 e2 && zl_w64 B (le e1 e2)))) with
    | false => exact zk_v_long
    | true =>
      obtain ⟨b1, hb⟩ := zz_and hb
      obtain ⟨b2, hb⟩ := zz_and hb
      obtain ⟨b3, b4⟩ := zz_and hb
      obtain ⟨c1, c2⟩ := zl_w64_ok g4 b4
      exact zk_v_lv (hl s x y e1 e2 b3 (q5 (zz_beq b2)) (q2 (zz_beq b1)) c1 c2)
  · cases h
/-- a product where one is a number -/
def zl_pm (a b : zl_E) : zl_E := match zl_c b with
  | some c => zl_mul c a
  | none => match zl_c a with
    | some c => zl_mul c b
    | none => zl_con 0
def zl_pmk (a b : zl_E) : Bool := match zl_c b with
  | some _ => true
  | none => match zl_c a with
    | some _ => true
    | none => false
theorem zl_pm_ev {s : Nat → Int} {a b : zl_E} (h : zl_pmk a b = true) : zl_ev s (zl_pm a b) = zl_ev s a * zl_ev s b := by
  unfold zl_pmk at h
  unfold zl_pm
  split at h
  · rename_i c hc
    show zl_ev s (zl_mul c a) = _
    rw [zl_mul_ev, zl_c_ok (s := s) hc, Int.mul_comm]
  · rename_i hb
    split at h
    · rename_i c hc
      show zl_ev s (zl_mul c b) = _
      rw [zl_mul_ev, zl_c_ok (s := s) hc]
    · cases h
/-- a long as an int: its sum, where an int holds it -/
def zt_l2i (A : zk_A) : Option zk_A := match A.2.1 with
  | (1, k, e) :: r => cond (Nat.beq k 1) (zk_lin A r e) (zk_new A r (-2147483648) 2147483647)
  | _ => none
theorem zt_l2iV_ok {I : zz_W → Prop} {A A' : zk_A} {n : Nat} (h : zt_l2i A = some A') : zk_S I (za_l2i n) n A A' := by
  obtain ⟨L, T, F, B, C⟩ := A
  unfold zt_l2i at h
  split at h
  · rename_i k e r hT
    have hT : T = (1, k, e) :: r := hT
    subst hT
    cases hb : Nat.beq k 1 with
    | true =>
      rw [hb] at h
      have h : zk_lin (L, (1, k, e) :: r, F, B, C) r e = some A' := h
      refine ⟨zk_lin_len h, fun K s f hG => ?_⟩
      obtain ⟨p, lv, st, w⟩ := f
      obtain ⟨g1, g2, g3, g4, g5, g6⟩ := hG
      obtain ⟨x, st1, q1, q2, q3⟩ := zk_st_lv g2 rfl
      have q1 : st = .long x :: st1 := q1
      subst q1
      have q2 : x.toInt = zl_ev s e := q2 (zz_beq hb)
      obtain ⟨-, s', hg, hs⟩ := zk_lin_ok (I := I) (x := x.toInt32) (n := n) (w := w) (lv := lv) h g1 q3 g3 g4 g5 g6 (fun a b => by
        rw [Int64.toInt_toInt32, q2, zk_bmod a b])
      exact ⟨s', _, ze_l2i rfl, rfl, hg, hs⟩
    | false =>
      rw [hb] at h
      have h : zk_new (L, (1, k, e) :: r, F, B, C) r (-2147483648) 2147483647 = some A' := h
      refine ⟨zk_new_len h, fun K s f hG => ?_⟩
      obtain ⟨p, lv, st, w⟩ := f
      obtain ⟨g1, g2, g3, g4, g5, g6⟩ := hG
      obtain ⟨x, st1, q1, q3⟩ := zk_st_long g2 rfl
      have q1 : st = .long x :: st1 := q1
      subst q1
      obtain ⟨-, s', hg, hs⟩ := zk_new_ok (I := I) (x := x.toInt32) (n := n) (w := w) (lv := lv) h g1 q3 g3 g4 g5 g6 (zk_lo _) (zk_hi _)
      exact ⟨s', _, ze_l2i rfl, rfl, hg, hs⟩
  · cases h
/-- a long, or two, make an int within bounds -/
def zt_L1 (lo hi : Int) (A : zk_A) : Option zk_A := match A.2.1 with
  | (1, _, _) :: r => zk_new A r lo hi
  | _ => none
theorem zt_L1_ok {I : zz_W → Prop} {A A' : zk_A} {n : Nat} {lo hi : Int} {act : zz_A} {g : Int64 → Int32} (ha : ∀ (K : zz_K) (p : Nat) (lv : List (Nat × Value)) (x : Int64) (r : List Value) (w : zz_W), act K (p, lv, .long x :: r, w) = some (n, lv, .int (g x) :: r, w)) (hb : ∀ x, lo ≤ (g x).toInt ∧ (g x).toInt ≤ hi) (h : zt_L1 lo hi A = some A') : zk_S I act n A A' := by
  obtain ⟨L, T, F, B, C⟩ := A
  unfold zt_L1 at h
  split at h
  · rename_i k e r hT
    have hT : T = (1, k, e) :: r := hT
    subst hT
    refine ⟨zk_new_len h, fun K s f hG => ?_⟩
    obtain ⟨p, lv, st, w⟩ := f
    obtain ⟨g1, g2, g3, g4, g5, g6⟩ := hG
    obtain ⟨x, st1, q1, q2⟩ := zk_st_long g2 rfl
    have q1 : st = .long x :: st1 := q1
    subst q1
    obtain ⟨-, s', hg, hs⟩ := zk_new_ok (I := I) (x := g x) (n := n) (w := w) (lv := lv) h g1 q2 g3 g4 g5 g6 (hb x).1 (hb x).2
    exact ⟨s', _, ha K p lv x st1 w, rfl, hg, hs⟩
  · cases h
def zt_L2 (lo hi : Int) (A : zk_A) : Option zk_A := match A.2.1 with
  | (1, _, _) :: (1, _, _) :: r => zk_new A r lo hi
  | _ => none
theorem zt_L2_ok {I : zz_W → Prop} {A A' : zk_A} {n : Nat} {lo hi : Int} {act : zz_A} {g : Int64 → Int64 → Int32} (ha : ∀ (K : zz_K) (p : Nat) (lv : List (Nat × Value)) (x y : Int64) (r : List Value) (w : zz_W), act K (p, lv, .long y :: .long x :: r, w) = some (n, lv, .int (g x y) :: r, w)) (hb : ∀ x y, lo ≤ (g x y).toInt ∧ (g x y).toInt ≤ hi) (h : zt_L2 lo hi A = some A') : zk_S I act n A A' := by
  obtain ⟨L, T, F, B, C⟩ := A
  unfold zt_L2 at h
  split at h
  · rename_i k2 e2 k e r hT
    have hT : T = (1, k2, e2) :: (1, k, e) :: r := hT
    subst hT
    refine ⟨zk_new_len h, fun K s f hG => ?_⟩
    obtain ⟨p, lv, st, w⟩ := f
    obtain ⟨g1, g2, g3, g4, g5, g6⟩ := hG
    obtain ⟨y, st1, q1, q2⟩ := zk_st_long g2 rfl
    obtain ⟨x, st2, q3, q4⟩ := zk_st_long q2 rfl
    have hst : st = .long y :: .long x :: st2 := by rw [← q3]; exact q1
    subst hst
    obtain ⟨-, s', hg, hs⟩ := zk_new_ok (I := I) (x := g x y) (n := n) (w := w) (lv := lv) h g1 q4 g3 g4 g5 g6 (hb x y).1 (hb x y).2
    exact ⟨s', _, ha K p lv x y st2 w, rfl, hg, hs⟩
  · cases h
theorem zk_cmp (x y : Int64) : -1 ≤ (lg_cmp x y).toInt ∧ (lg_cmp x y).toInt ≤ 1 := by
  unfold lg_cmp
  split
  · exact ⟨by decide, by decide⟩
  · split <;> exact ⟨by decide, by decide⟩
theorem zt_lcmp_ok {I : zz_W → Prop} {A A' : zk_A} {n : Nat} (h : zt_L2 (-1) 1 A = some A') : zk_S I (za_lcmp n) n A A' := zt_L2_ok (g := fun x y => lg_cmp x y) (fun K p lv x y r w => ze_lcmp rfl) zk_cmp h
theorem zt_ladd_ok {I : zz_W → Prop} {A A' : zk_A} {n : Nat} (h : zt_LLl (fun _ _ => true) zl_add A = some A') : zk_S I (za_ladd n) n A A' :=
  zt_LLl_ok (g := fun x y => x + y) (fun K p lv x y r w => ze_ladd rfl) (fun s x y e1 e2 _ h1 h2 a b => by
    rw [zl_add_ev] at a b ⊢
    rw [Int64.toInt_add, h1, h2, zk_bmod64 a b]) h
theorem zt_lsub_ok {I : zz_W → Prop} {A A' : zk_A} {n : Nat} (h : zt_LLl (fun _ _ => true) zl_sub A = some A') : zk_S I (za_lsub n) n A A' :=
  zt_LLl_ok (g := fun x y => x - y) (fun K p lv x y r w => ze_lsub rfl) (fun s x y e1 e2 _ h1 h2 a b => by
    rw [zl_sub_ev] at a b ⊢
    rw [Int64.toInt_sub, h1, h2, zk_bmod64 a b]) h
theorem zt_lmul_ok {I : zz_W → Prop} {A A' : zk_A} {n : Nat} (h : zt_LLl zl_pmk zl_pm A = some A') : zk_S I (za_lmul n) n A A' :=
  zt_LLl_ok (g := fun x y => x * y) (fun K p lv x y r w => ze_lmul rfl) (fun s x y e1 e2 hk h1 h2 a b => by
    rw [zl_pm_ev hk] at a b ⊢
    rw [Int64.toInt_mul, h1, h2, zk_bmod64 a b]) h
theorem zt_land_ok {I : zz_W → Prop} {A A' : zk_A} {n : Nat} (h : zt_LL A = some A') : zk_S I (za_land n) n A A' := zt_LL_ok (g := fun x y => x &&& y) (fun K p lv x y r w => ze_land rfl) h
theorem zt_lor_ok {I : zz_W → Prop} {A A' : zk_A} {n : Nat} (h : zt_LL A = some A') : zk_S I (za_lor n) n A A' := zt_LL_ok (g := fun x y => x ||| y) (fun K p lv x y r w => ze_lor rfl) h
theorem zt_lxor_ok {I : zz_W → Prop} {A A' : zk_A} {n : Nat} (h : zt_LL A = some A') : zk_S I (za_lxor n) n A A' := zt_LL_ok (g := fun x y => x ^^^ y) (fun K p lv x y r w => ze_lxor rfl) h
theorem zt_lshl_ok {I : zz_W → Prop} {A A' : zk_A} {n : Nat} (h : zt_LI A = some A') : zk_S I (za_lshl n) n A A' := zt_LI_ok (g := fun x y => x <<< (y.toInt64 &&& 63)) (fun K p lv x y r w => ze_lshl rfl) h
theorem zt_lshr_ok {I : zz_W → Prop} {A A' : zk_A} {n : Nat} (h : zt_LI A = some A') : zk_S I (za_lshr n) n A A' := zt_LI_ok (g := fun x y => x >>> (y.toInt64 &&& 63)) (fun K p lv x y r w => ze_lshr rfl) h
theorem zt_lushr_ok {I : zz_W → Prop} {A A' : zk_A} {n : Nat} (h : zt_LI A = some A') : zk_S I (za_lushr n) n A A' := zt_LI_ok (g := fun x y => (x.toUInt64 >>> (y.toInt64.toUInt64 &&& Int64.toUInt64 63)).toInt64) (fun K p lv x y r w => ze_lushr rfl) h
theorem zk_b8 (x : Int32) : (-128) ≤ (x.toInt8.toInt32).toInt ∧ (x.toInt8.toInt32).toInt ≤ 127 := by
  have e : (x.toInt8.toInt32).toInt = x.toInt8.toInt := Int8.toInt_toInt32 _
  rw [e]
  have h1 := Int8.le_toInt x.toInt8
  have h2 := Int8.toInt_lt x.toInt8
  constructor <;> omega
theorem zt_i2b_ok {I : zz_W → Prop} {A A' : zk_A} {n : Nat} (h : zt_1b (fun _ _ => ((-128), 127)) A = some A') : zk_S I (za_i2b n) n A A' := zt_1b_ok (g := fun x => x.toInt8.toInt32) (fun K p lv x r w => ze_i2b rfl) (fun _ _ x _ _ _ => zk_b8 x) h
theorem zk_b16 (x : Int32) : (-32768) ≤ (x.toInt16.toInt32).toInt ∧ (x.toInt16.toInt32).toInt ≤ 32767 := by
  have e : (x.toInt16.toInt32).toInt = x.toInt16.toInt := Int16.toInt_toInt32 _
  rw [e]
  have h1 := Int16.le_toInt x.toInt16
  have h2 := Int16.toInt_lt x.toInt16
  constructor <;> omega
theorem zt_i2s_ok {I : zz_W → Prop} {A A' : zk_A} {n : Nat} (h : zt_1b (fun _ _ => ((-32768), 32767)) A = some A') : zk_S I (za_i2s n) n A A' := zt_1b_ok (g := fun x => x.toInt16.toInt32) (fun K p lv x r w => ze_i2s rfl) (fun _ _ x _ _ _ => zk_b16 x) h
/-- a row's length -/
def zk_ln (HT : List (List zk_H)) (t i : Nat) : Option Nat := cond (Nat.blt (zk_h HT i).1 3 && (Nat.beq (zk_h HT i).2.1 t && Nat.blt (zk_h HT i).2.2.1 2147483648)) (some (zk_h HT i).2.2.1) none
def zt_alen (HT : List (List zk_H)) (t : Nat) (A : zk_A) : Option zk_A := match A.2.1 with
  | (2, i, _) :: r => match zk_ln HT t i with
    | some len => some (A.1, (0, 0, zl_con (len : Int)) :: r, A.2.2.1, A.2.2.2.1, A.2.2.2.2)
    | none => none
  | _ => none
theorem zt_alen_ok {c : Nat} {HT : List (List zk_H)} {I : zz_W → Prop} (hI : ∀ w, I w → zk_I c HT w) {A A' : zk_A} {t n : Nat} (h : zt_alen HT t A = some A') : zk_S I (za_alen t n) n A A' := by
  obtain ⟨L, T, F, B, C⟩ := A
  unfold zt_alen at h
  split at h
  · rename_i i e r hT
    have hT : T = (2, i, e) :: r := hT
    subst hT
    split at h
    · rename_i len hl
      cases h
      refine ⟨Nat.le_refl _, fun K s f hG => ?_⟩
      obtain ⟨p, lv, st, w⟩ := f
      obtain ⟨g1, g2, g3, g4, g5, g6⟩ := hG
      obtain ⟨v, st2, q4, q5, q6⟩ := zk_st_cons g2
      have e3 : v = .ref i := q5.2.2.1 rfl
      subst e3
      have q4 : st = .ref i :: st2 := q4
      subst q4
      unfold zk_ln at hl
      obtain ⟨hb, hl⟩ := zz_cond hl
      obtain ⟨b1, hb⟩ := zz_and hb
      obtain ⟨b2, b3⟩ := zz_and hb
      have hl : (zk_h HT i).2.2.1 = len := Option.some.inj hl
      have k1 := zz_blt b1
      have k2 := zz_beq b2
      have k3 := zz_blt b3
      obtain ⟨o1, o2, o3, o4, -⟩ := (hI _ g6).2.2.2 i (by omega)
      refine ⟨s, (n, lv, .int (Int32.ofNat len) :: st2, w), ?_, rfl, ⟨g1, ⟨zk_v_int ?_, q6⟩, g3, g4, g5, g6⟩, fun _ _ => rfl⟩
      · show cond (Nat.blt i w.1 && (Nat.blt i 1000000 && (Nat.blt (zz_g w i).1 3 && Nat.beq (zz_g w i).2.1 t))) (zz_fN (zz_g w i).2.2.1 (fun v => some ((n, lv, .int (Int32.ofNat v) :: st2, w) : zz_F))) none = _
        have a1 : Nat.blt i w.1 = true := Nat.ble_eq.mpr o1
        have a2 : Nat.blt i 1000000 = true := Nat.ble_eq.mpr (by have := (hI _ g6).2.2.1; omega)
        rw [o2, o3, o4, a1, a2, b1, k2, hl, Nat.beq_refl, zz_fN_eq]
        rfl
      · rw [zl_con_ev]
        exact Int32.toInt_ofNat_of_lt (by omega)
    · cases h
  · cases h
end
