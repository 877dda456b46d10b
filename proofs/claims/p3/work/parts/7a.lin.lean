/-! LINEAR SUMS over symbols: a constant, and pairs (symbol, coefficient) for the symbols that are there; a number is (p, n): p - n; bounds of symbols; what follows from what, by multipliers that are handed in -/
noncomputable section
abbrev zl_N : Type := Nat × Nat
def zl_nv (a : zl_N) : Int := Int.subNatNat a.1 a.2
theorem zl_nv_eq (a : zl_N) : zl_nv a = (a.1 : Int) - (a.2 : Int) := Int.subNatNat_eq_coe
abbrev zl_E : Type := zl_N × List (Nat × zl_N)
/-- one more than the greatest symbol -/
def zl_mx (l : List (Nat × zl_N)) : Nat := List.rec (motive := fun _ => Nat) 0 (fun q _ ih => cond (Nat.ble ih q.1) (Nat.succ q.1) ih) l
theorem zl_mx_cons (q : Nat × zl_N) (l : List (Nat × zl_N)) : zl_mx (q :: l) = cond (Nat.ble (zl_mx l) q.1) (Nat.succ q.1) (zl_mx l) := rfl
theorem zl_mx_lt : ∀ {l : List (Nat × zl_N)} {q : Nat × zl_N}, q ∈ l → q.1 < zl_mx l
  | [], _, h => absurd h List.not_mem_nil
  | x :: l, q, h => by
    rw [zl_mx_cons]
    rcases List.mem_cons.mp h with h | h
    · subst h
      cases hb : Nat.ble (zl_mx l) q.1 with
      | true => exact Nat.lt_succ_self _
      | false =>
        show q.1 < zl_mx l
        have : ¬ zl_mx l ≤ q.1 := fun hc => by rw [Nat.ble_eq_true_of_le hc] at hb; cases hb
        omega
    · have h1 := zl_mx_lt h
      cases hb : Nat.ble (zl_mx l) x.1 with
      | true =>
        show q.1 < x.1 + 1
        have := Nat.le_of_ble_eq_true hb
        omega
      | false => exact h1
def zl_dt (s : Nat → Int) : List (Nat × zl_N) → Int
  | [] => 0
  | c :: r => zl_nv c.2 * s c.1 + zl_dt s r
def zl_ev (s : Nat → Int) (e : zl_E) : Int := zl_nv e.1 + zl_dt s e.2
def zl_na (a b : zl_N) : zl_N := (Nat.add a.1 b.1, Nat.add a.2 b.2)
theorem zl_na_nv (a b : zl_N) : zl_nv (zl_na a b) = zl_nv a + zl_nv b := by
  rw [zl_nv_eq, zl_nv_eq, zl_nv_eq]
  show ((a.1 + b.1 : Nat) : Int) - ((a.2 + b.2 : Nat) : Int) = _
  omega
/-- one more term -/
def zl_i1 (k : Nat) (c : zl_N) (l : List (Nat × zl_N)) : List (Nat × zl_N) :=
  List.rec (motive := fun _ => List (Nat × zl_N)) [(k, c)] (fun q r ih => cond (Nat.beq k q.1) (cond (Nat.beq (Nat.add c.1 q.2.1) (Nat.add c.2 q.2.2)) r ((k, zl_na c q.2) :: r)) (cond (Nat.blt k q.1) ((k, c) :: q :: r) (q :: ih))) l
theorem zl_i1_cons (k : Nat) (c : zl_N) (q : Nat × zl_N) (r : List (Nat × zl_N)) : zl_i1 k c (q :: r) = cond (Nat.beq k q.1) (cond (Nat.beq (Nat.add c.1 q.2.1) (Nat.add c.2 q.2.2)) r ((k, zl_na c q.2) :: r)) (cond (Nat.blt k q.1) ((k, c) :: q :: r) (q :: zl_i1 k c r)) := rfl
theorem zl_i1_dt (s : Nat → Int) (k : Nat) (c : zl_N) : ∀ l : List (Nat × zl_N), zl_dt s (zl_i1 k c l) = zl_nv c * s k + zl_dt s l
  | [] => rfl
  | q :: r => by
    rw [zl_i1_cons]
    show _ = zl_nv c * s k + (zl_nv q.2 * s q.1 + zl_dt s r)
    cases hk : Nat.beq k q.1 with
    | true =>
      have hk : k = q.1 := Nat.eq_of_beq_eq_true hk
      subst hk
      have hna := zl_na_nv c q.2
      have hmul : zl_nv (zl_na c q.2) * s q.1 = zl_nv c * s q.1 + zl_nv q.2 * s q.1 := by rw [hna, Int.add_mul]
      show zl_dt s (cond (Nat.beq (Nat.add c.1 q.2.1) (Nat.add c.2 q.2.2)) r ((q.1, zl_na c q.2) :: r)) = _
      cases hz : Nat.beq (Nat.add c.1 q.2.1) (Nat.add c.2 q.2.2) with
      | true =>
        have hz : Nat.add c.1 q.2.1 = Nat.add c.2 q.2.2 := Nat.eq_of_beq_eq_true hz
        have h0 : zl_nv (zl_na c q.2) = 0 := by
          rw [zl_nv_eq]
          show ((Nat.add c.1 q.2.1 : Nat) : Int) - ((Nat.add c.2 q.2.2 : Nat) : Int) = 0
          rw [hz]
          omega
        rw [h0, Int.zero_mul] at hmul
        show zl_dt s r = _
        omega
      | false =>
        show zl_nv (zl_na c q.2) * s q.1 + zl_dt s r = _
        omega
    | false =>
      show zl_dt s (cond (Nat.blt k q.1) ((k, c) :: q :: r) (q :: zl_i1 k c r)) = _
      cases Nat.blt k q.1 with
      | true => rfl
      | false =>
        show zl_nv q.2 * s q.1 + zl_dt s (zl_i1 k c r) = _
        rw [zl_i1_dt s k c r]
        omega
def zl_va (a b : List (Nat × zl_N)) : List (Nat × zl_N) := List.rec (motive := fun _ => List (Nat × zl_N)) b (fun q _ ih => zl_i1 q.1 q.2 ih) a
theorem zl_va_dt (s : Nat → Int) (b : List (Nat × zl_N)) : ∀ a : List (Nat × zl_N), zl_dt s (zl_va a b) = zl_dt s a + zl_dt s b
  | [] => by
    show zl_dt s b = 0 + zl_dt s b
    omega
  | q :: a => by
    show zl_dt s (zl_i1 q.1 q.2 (zl_va a b)) = zl_nv q.2 * s q.1 + zl_dt s a + zl_dt s b
    rw [zl_i1_dt, zl_va_dt s b a]
    omega
/-- so many times -/
def zl_nm (m : Nat) (a : zl_N) : zl_N := (Nat.mul m a.1, Nat.mul m a.2)
def zl_sw (a : zl_N) : zl_N := (a.2, a.1)
theorem zl_nm_nv (m : Nat) (a : zl_N) : zl_nv (zl_nm m a) = (m : Int) * zl_nv a := by
  rw [zl_nv_eq, zl_nv_eq]
  show ((m * a.1 : Nat) : Int) - ((m * a.2 : Nat) : Int) = _
  rw [Int.natCast_mul, Int.natCast_mul, Int.mul_sub]
theorem zl_sw_nv (a : zl_N) : zl_nv (zl_sw a) = - zl_nv a := by
  rw [zl_nv_eq, zl_nv_eq]
  show (a.2 : Int) - (a.1 : Int) = _
  omega
def zl_mp (f : zl_N → zl_N) (l : List (Nat × zl_N)) : List (Nat × zl_N) := List.rec (motive := fun _ => List (Nat × zl_N)) [] (fun q _ ih => (q.1, f q.2) :: ih) l
theorem zl_mp_dt (s : Nat → Int) {f : zl_N → zl_N} {m : Int} (hf : ∀ a, zl_nv (f a) = m * zl_nv a) : ∀ l : List (Nat × zl_N), zl_dt s (zl_mp f l) = m * zl_dt s l
  | [] => by
    show (0 : Int) = m * 0
    rw [Int.mul_zero]
  | q :: r => by
    show zl_nv (f q.2) * s q.1 + zl_dt s (zl_mp f r) = m * (zl_nv q.2 * s q.1 + zl_dt s r)
    rw [hf, zl_mp_dt s hf r, Int.mul_add, Int.mul_assoc]
def zl_add (a b : zl_E) : zl_E := (zl_na a.1 b.1, zl_va a.2 b.2)
def zl_neg (a : zl_E) : zl_E := (zl_sw a.1, zl_mp zl_sw a.2)
def zl_mul (m : Int) (a : zl_E) : zl_E := match m with
  | .ofNat n => cond (Nat.beq n 1) a (zl_nm n a.1, zl_mp (zl_nm n) a.2)
  | .negSucc n => cond (Nat.beq n 0) (zl_neg a) (zl_sw (zl_nm (n + 1) a.1), zl_mp (fun x => zl_sw (zl_nm (n + 1) x)) a.2)
def zl_sub (a b : zl_E) : zl_E := (zl_na a.1 (zl_sw b.1), zl_va (zl_mp zl_sw b.2) a.2)
def zl_con (c : Int) : zl_E := match c with
  | .ofNat n => ((n, 0), [])
  | .negSucc n => ((0, n + 1), [])
def zl_sym (k : Nat) : zl_E := ((0, 0), [(k, 1, 0)])
theorem zl_add_ev (s : Nat → Int) (a b : zl_E) : zl_ev s (zl_add a b) = zl_ev s a + zl_ev s b := by
  show zl_nv (zl_na a.1 b.1) + zl_dt s (zl_va a.2 b.2) = (zl_nv a.1 + zl_dt s a.2) + (zl_nv b.1 + zl_dt s b.2)
  rw [zl_na_nv, zl_va_dt]
  omega
theorem zl_neg_ev (s : Nat → Int) (a : zl_E) : zl_ev s (zl_neg a) = - zl_ev s a := by
  show zl_nv (zl_sw a.1) + zl_dt s (zl_mp zl_sw a.2) = - (zl_nv a.1 + zl_dt s a.2)
  rw [zl_sw_nv, zl_mp_dt s (m := -1) (fun x => by rw [zl_sw_nv]; omega)]
  omega
theorem zl_mul_ev (s : Nat → Int) (m : Int) (a : zl_E) : zl_ev s (zl_mul m a) = m * zl_ev s a := by
  unfold zl_mul
  split
  · rename_i n
    cases hn : Nat.beq n 1 with
    | true =>
      have hn : n = 1 := Nat.eq_of_beq_eq_true hn
      subst hn
      show zl_ev s a = 1 * zl_ev s a
      omega
    | false =>
      show zl_nv (zl_nm n a.1) + zl_dt s (zl_mp (zl_nm n) a.2) = (n : Int) * (zl_nv a.1 + zl_dt s a.2)
      rw [zl_nm_nv, zl_mp_dt s (m := (n : Int)) (fun x => zl_nm_nv n x), Int.mul_add]
  · rename_i n
    cases hn : Nat.beq n 0 with
    | true =>
      have hn : n = 0 := Nat.eq_of_beq_eq_true hn
      subst hn
      show zl_ev s (zl_neg a) = (-1) * zl_ev s a
      rw [zl_neg_ev]
      omega
    | false =>
      have hf : ∀ x, zl_nv (zl_sw (zl_nm (n + 1) x)) = Int.negSucc n * zl_nv x := fun x => by
        rw [zl_sw_nv, zl_nm_nv, Int.negSucc_eq, Int.neg_mul]
        rfl
      show zl_nv (zl_sw (zl_nm (n + 1) a.1)) + zl_dt s (zl_mp (fun x => zl_sw (zl_nm (n + 1) x)) a.2) = Int.negSucc n * (zl_nv a.1 + zl_dt s a.2)
      rw [hf, zl_mp_dt s (m := Int.negSucc n) hf, Int.mul_add]
theorem zl_sub_ev (s : Nat → Int) (a b : zl_E) : zl_ev s (zl_sub a b) = zl_ev s a - zl_ev s b := by
  show zl_nv (zl_na a.1 (zl_sw b.1)) + zl_dt s (zl_va (zl_mp zl_sw b.2) a.2) = (zl_nv a.1 + zl_dt s a.2) - (zl_nv b.1 + zl_dt s b.2)
  rw [zl_na_nv, zl_sw_nv, zl_va_dt, zl_mp_dt s (m := -1) (fun x => by rw [zl_sw_nv]; omega)]
  omega
theorem zl_con_ev (s : Nat → Int) (c : Int) : zl_ev s (zl_con c) = c := by
  unfold zl_con
  split
  · rename_i n
    show zl_nv (n, 0) + 0 = (n : Int)
    rw [zl_nv_eq]
    show (n : Int) - ((0 : Nat) : Int) + 0 = n
    omega
  · rename_i n
    show zl_nv (0, n + 1) + 0 = Int.negSucc n
    rw [zl_nv_eq, Int.negSucc_eq]
    show ((0 : Nat) : Int) - ((n + 1 : Nat) : Int) + 0 = -((n : Int) + 1)
    omega
theorem zl_sym_ev (s : Nat → Int) (k : Nat) : zl_ev s (zl_sym k) = s k := by
  show zl_nv (0, 0) + (zl_nv (1, 0) * s k + 0) = s k
  rw [zl_nv_eq, zl_nv_eq]
  show ((0 : Nat) : Int) - ((0 : Nat) : Int) + ((((1 : Nat) : Int) - ((0 : Nat) : Int)) * s k + 0) = s k
  omega
/-- the k-th of a list -/
def zl_nth {α : Type} (l : List α) : Nat → Option α := List.rec (motive := fun _ => Nat → Option α) (fun _ => none) (fun a _ ih k => Nat.casesOn (motive := fun _ => Option α) k (some a) ih) l
theorem zl_nth_eq {α : Type} : ∀ (l : List α) (k : Nat), zl_nth l k = l[k]?
  | [], k => by
    rw [List.getElem?_nil]
    rfl
  | a :: l, 0 => rfl
  | a :: l, k + 1 => by
    rw [List.getElem?_cons_succ, ← zl_nth_eq l k]
    rfl
/-- the symbols are within their bounds -/
def zl_in (s : Nat → Int) (S : List (Int × Int)) : Prop := ∀ (k : Nat) (q : Int × Int), S[k]? = some q → q.1 ≤ s k ∧ s k ≤ q.2
/-- the least value that the bounds allow -/
def zl_tm (c : zl_N) (q : Int × Int) : Int := cond (Nat.ble c.2 c.1) (Int.mul (Int.ofNat (Nat.sub c.1 c.2)) q.1) (Int.mul (Int.negOfNat (Nat.sub c.2 c.1)) q.2)
theorem zl_tm_ok {c : zl_N} {q : Int × Int} {x : Int} (h : q.1 ≤ x ∧ x ≤ q.2) : zl_tm c q ≤ zl_nv c * x := by
  unfold zl_tm
  cases hb : Nat.ble c.2 c.1 with
  | true =>
    have hb : c.2 ≤ c.1 := Nat.le_of_ble_eq_true hb
    have h1 : zl_nv c = ((c.1 - c.2 : Nat) : Int) := by
      rw [zl_nv_eq]
      omega
    rw [h1]
    exact Int.mul_le_mul_of_nonneg_left h.1 (Int.natCast_nonneg _)
  | false =>
    have hb : ¬ c.2 ≤ c.1 := fun hc => by rw [Nat.ble_eq_true_of_le hc] at hb; cases hb
    have h1 : zl_nv c = Int.negOfNat (c.2 - c.1) := by
      rw [zl_nv_eq, Int.negOfNat_eq]
      show (c.1 : Int) - (c.2 : Int) = -((c.2 - c.1 : Nat) : Int)
      omega
    rw [h1]
    refine Int.mul_le_mul_of_nonpos_left (?_ : Int.negOfNat (c.2 - c.1) ≤ 0) h.2
    rw [Int.negOfNat_eq]
    show -((c.2 - c.1 : Nat) : Int) ≤ 0
    omega
def zl_lb (S : List (Int × Int)) (l : List (Nat × zl_N)) : Option Int := List.rec (motive := fun _ => Option Int) (some 0) (fun c _ ih => Option.rec (motive := fun _ => Option Int) none (fun q => Option.rec (motive := fun _ => Option Int) none (fun v => some (Int.add (zl_tm c.2 q) v)) ih) (zl_nth S c.1)) l
theorem zl_lb_ok (s : Nat → Int) (S : List (Int × Int)) (hS : zl_in s S) : ∀ (a : List (Nat × zl_N)) (v : Int), zl_lb S a = some v → v ≤ zl_dt s a
  | [], v, h => by
    have h : some (0 : Int) = some v := h
    cases h
    exact Int.le_refl _
  | c :: r, v, h => by
    have h : (Option.rec (motive := fun _ => Option Int) none (fun q => Option.rec (motive := fun _ => Option Int) none (fun v => some (Int.add (zl_tm c.2 q) v)) (zl_lb S r)) (zl_nth S c.1) : Option Int) = some v := h
    cases hn : zl_nth S c.1 with
    | none =>
      rw [hn] at h
      cases h
    | some q =>
      rw [hn] at h
      cases hr : zl_lb S r with
      | none =>
        rw [hr] at h
        cases h
      | some u =>
        rw [hr] at h
        have h : some (Int.add (zl_tm c.2 q) u) = some v := h
        cases h
        rw [zl_nth_eq] at hn
        have h1 := zl_tm_ok (c := c.2) (hS c.1 q hn)
        have h2 := zl_lb_ok s S hS r u hr
        show zl_tm c.2 q + u ≤ zl_nv c.2 * s c.1 + zl_dt s r
        omega
/-- a sum of given ones, each so many times -/
def zl_cmb (h : List Nat) : List zl_E → zl_E := List.rec (motive := fun _ => List zl_E → zl_E) (fun _ => zl_con 0) (fun h _ ih cs => List.casesOn (motive := fun _ => zl_E) cs (zl_con 0) (fun c cs => cond (Nat.beq h 0) (ih cs) (zl_add (zl_mul (Int.ofNat h) c) (ih cs)))) h
theorem zl_cmb_ok (s : Nat → Int) : ∀ (h : List Nat) (C : List zl_E), (∀ c ∈ C, 0 ≤ zl_ev s c) → 0 ≤ zl_ev s (zl_cmb h C)
  | [], C, _ => by
    show 0 ≤ zl_ev s (zl_con 0)
    rw [zl_con_ev]
    exact Int.le_refl _
  | h :: hs, [], _ => by
    show 0 ≤ zl_ev s (zl_con 0)
    rw [zl_con_ev]
    exact Int.le_refl _
  | h :: hs, c :: cs, hC => by
    have h1 := hC c List.mem_cons_self
    have h2 := zl_cmb_ok s hs cs (fun x hx => hC x (List.mem_cons_of_mem _ hx))
    show 0 ≤ zl_ev s (cond (Nat.beq h 0) (zl_cmb hs cs) (zl_add (zl_mul (Int.ofNat h) c) (zl_cmb hs cs)))
    cases Nat.beq h 0 with
    | true => exact h2
    | false =>
      show 0 ≤ zl_ev s (zl_add (zl_mul (Int.ofNat h) c) (zl_cmb hs cs))
      rw [zl_add_ev, zl_mul_ev]
      have h3 : 0 ≤ Int.ofNat h * zl_ev s c := Int.mul_nonneg (Int.natCast_nonneg h) h1
      omega
/-- not below 0 -/
def zl_nn (x : Int) : Bool := Int.casesOn (motive := fun _ => Bool) x (fun _ => true) (fun _ => false)
theorem zl_nn_ok {x : Int} (h : zl_nn x = true) : 0 ≤ x := by
  cases x with
  | ofNat n => exact Int.natCast_nonneg n
  | negSucc n => cases h
def zl_pos (S : List (Int × Int)) (d : zl_E) : Bool := Option.rec (motive := fun _ => Bool) false (fun v => zl_nn (Int.add (zl_nv d.1) v)) (zl_lb S d.2)
theorem zl_pos_ok {s : Nat → Int} {S : List (Int × Int)} {d : zl_E} (hS : zl_in s S) (h : zl_pos S d = true) : 0 ≤ zl_ev s d := by
  unfold zl_pos at h
  cases hv : zl_lb S d.2 with
  | none =>
    rw [hv] at h
    cases h
  | some v =>
    rw [hv] at h
    have h1 := zl_lb_ok s S hS d.2 v hv
    have h2 : 0 ≤ zl_nv d.1 + v := zl_nn_ok h
    show 0 ≤ zl_nv d.1 + zl_dt s d.2
    omega
/-- e is not below 0, by bounds and given sums -/
def zl_en (S : List (Int × Int)) (C : List zl_E) (h : List Nat) (e : zl_E) : Bool := List.casesOn (motive := fun _ => Bool) h (zl_pos S e) (fun _ _ => zl_pos S (zl_sub e (zl_cmb h C)))
theorem zl_en_ok {s : Nat → Int} {S : List (Int × Int)} {C : List zl_E} {h : List Nat} {e : zl_E} (hS : zl_in s S) (hC : ∀ c ∈ C, 0 ≤ zl_ev s c) (he : zl_en S C h e = true) : 0 ≤ zl_ev s e := by
  cases h with
  | nil => exact zl_pos_ok hS he
  | cons x h =>
    have h1 := zl_pos_ok hS (show zl_pos S (zl_sub e (zl_cmb (x :: h) C)) = true from he)
    rw [zl_sub_ev] at h1
    have h2 := zl_cmb_ok s (x :: h) C hC
    omega
/-- one symbol more -/
theorem zl_in_snoc {s : Nat → Int} {S : List (Int × Int)} {lo hi : Int} (h : zl_in s S) (h1 : lo ≤ s S.length) (h2 : s S.length ≤ hi) : zl_in s (S ++ [(lo, hi)]) := by
  intro k q hq
  by_cases hk : k < S.length
  · rw [List.getElem?_append_left hk] at hq
    exact h k q hq
  · by_cases he : k = S.length
    · subst he
      rw [List.getElem?_append_right (Nat.le_refl _), Nat.sub_self] at hq
      cases hq
      exact ⟨h1, h2⟩
    · rw [List.getElem?_append_right (by omega), List.getElem?_eq_none (by simp; omega)] at hq
      cases hq
/-- a sum has no symbol from n on -/
def zl_lt (n : Nat) (e : zl_E) : Prop := zl_mx e.2 ≤ n
theorem zl_dt_eq {s t : Nat → Int} : ∀ (a : List (Nat × zl_N)), (∀ j, j < zl_mx a → s j = t j) → zl_dt s a = zl_dt t a
  | [], _ => rfl
  | c :: r, h => by
    show zl_nv c.2 * s c.1 + zl_dt s r = zl_nv c.2 * t c.1 + zl_dt t r
    have hm : zl_mx r ≤ zl_mx (c :: r) := by
      rw [zl_mx_cons]
      cases hb : Nat.ble (zl_mx r) c.1 with
      | true =>
        have := Nat.le_of_ble_eq_true hb
        show zl_mx r ≤ c.1 + 1
        omega
      | false => exact Nat.le_refl _
    rw [h c.1 (zl_mx_lt List.mem_cons_self), zl_dt_eq r (fun j hj => h j (by omega))]
theorem zl_ev_eq {s t : Nat → Int} {n : Nat} {e : zl_E} (he : zl_lt n e) (h : ∀ j, j < n → s j = t j) : zl_ev s e = zl_ev t e := by
  unfold zl_ev
  rw [zl_dt_eq e.2 (fun j hj => h j (Nat.lt_of_lt_of_le hj he))]
/-- symbols put in for symbols -/
def zl_sc (c : zl_N) (e : zl_E) : zl_E := cond (Nat.beq c.2 0) (zl_mul (Int.ofNat c.1) e) (zl_mul (zl_nv c) e)
theorem zl_sc_ev (s : Nat → Int) (c : zl_N) (e : zl_E) : zl_ev s (zl_sc c e) = zl_nv c * zl_ev s e := by
  unfold zl_sc
  cases hb : Nat.beq c.2 0 with
  | true =>
    have hb : c.2 = 0 := Nat.eq_of_beq_eq_true hb
    have h1 : zl_nv c = Int.ofNat c.1 := by
      rw [zl_nv_eq, hb]
      show (c.1 : Int) - ((0 : Nat) : Int) = (c.1 : Int)
      omega
    show zl_ev s (zl_mul (Int.ofNat c.1) e) = zl_nv c * zl_ev s e
    rw [zl_mul_ev, h1]
  | false => exact zl_mul_ev s _ e
def zl_sb (t : List zl_E) (l : List (Nat × zl_N)) : zl_E := List.rec (motive := fun _ => zl_E) (zl_con 0) (fun c _ ih => Option.rec (motive := fun _ => zl_E) ih (fun q => zl_add (zl_sc c.2 q) ih) (zl_nth t c.1)) l
def zl_subst (t : List zl_E) (e : zl_E) : zl_E := List.rec (motive := fun _ => zl_E) e (fun _ _ _ => zl_add (e.1, []) (zl_sb t e.2)) e.2
theorem zl_sb_ev (s u : Nat → Int) (t : List zl_E) (hu : ∀ (j : Nat) (q : zl_E), t[j]? = some q → u j = zl_ev s q) : ∀ (a : List (Nat × zl_N)), zl_mx a ≤ t.length → zl_ev s (zl_sb t a) = zl_dt u a
  | [], _ => zl_con_ev s 0
  | c :: r, h => by
    have hc : c.1 < t.length := Nat.lt_of_lt_of_le (zl_mx_lt List.mem_cons_self) h
    have hm : zl_mx r ≤ t.length := by
      rw [zl_mx_cons] at h
      cases hb : Nat.ble (zl_mx r) c.1 with
      | true =>
        have := Nat.le_of_ble_eq_true hb
        omega
      | false =>
        rw [hb] at h
        exact h
    have hr := zl_sb_ev s u t hu r hm
    have hq : zl_nth t c.1 = some t[c.1] := by rw [zl_nth_eq]; exact List.getElem?_eq_getElem hc
    show zl_ev s (Option.rec (motive := fun _ => zl_E) (zl_sb t r) (fun q => zl_add (zl_sc c.2 q) (zl_sb t r)) (zl_nth t c.1)) = zl_nv c.2 * u c.1 + zl_dt u r
    rw [hq]
    show zl_ev s (zl_add (zl_sc c.2 t[c.1]) (zl_sb t r)) = _
    rw [zl_add_ev, zl_sc_ev, hr, hu c.1 t[c.1] (List.getElem?_eq_getElem hc)]
theorem zl_subst_ev {s u : Nat → Int} {t : List zl_E} {e : zl_E} (h : zl_mx e.2 ≤ t.length) (hu : ∀ (j : Nat) (q : zl_E), t[j]? = some q → u j = zl_ev s q) : zl_ev s (zl_subst t e) = zl_ev u e := by
  obtain ⟨c, l⟩ := e
  have h0 : zl_ev s (zl_add (c, []) (zl_sb t l)) = zl_nv c + zl_dt u l := by
    rw [zl_add_ev, zl_sb_ev s u t hu l h]
    show zl_nv c + 0 + zl_dt u l = _
    omega
  cases l with
  | nil => rfl
  | cons q r => exact h0
end
