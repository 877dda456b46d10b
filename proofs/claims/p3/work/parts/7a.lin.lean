section
/-! LINEAR SUMS over symbols: a constant, and pairs (symbol, coefficient) for the symbols that are there; a number is (p, n): p - n; bounds of symbols; what follows from what, by multipliers that are handed in -/
noncomputable section
abbrev zl_N : Type := Nat × Nat
def zl_nv (a : zl_N) : Int := Int.subNatNat a.1 a.2
theorem zl_nv_eq (a : zl_N) : zl_nv a = (a.1 : Int) - (a.2 : Int) := Int.subNatNat_eq_coe
abbrev zl_E : Type := zl_N × List (Nat × zl_N)
/-- one more than the greatest symbol -/
def zl_mx (l : List (Nat × zl_N)) : Nat := List.rec (motive := fun _ => Nat) 0 (fun q _ ih => cond (Nat.ble ih q.1) (Nat.succ q.1) ih) l
theorem zl_mx_cons (q : Nat × zl_N) (l : List (Nat × zl_N)) : zl_mx (q :: l) = cond (Nat.ble (zl_mx l) q.1) (Nat.succ q.1) (zl_mx l) := rfl
theorem zl_mx_lt : ∀ {l : List (Nat × zl_N)} {q : Nat × zl_N}, q ∈ l → q.1 < zl_mx l
  | [], _, h => absurd h List.not_mem_nil
  | x :: l, q, h => by
    rw [zl_mx_cons]
    rcases List.mem_cons.mp h with h | h
    · subst h
      cases hb : Nat.ble (zl_mx l) q.1 with
      | true => exact Nat.lt_succ_self _
      | false =>
        show q.1 < zl_mx l
        have : ¬ zl_mx l ≤ q.1 := fun hc => by rw [Nat.ble_eq_true_of_le hc] at hb; cases hb
        omega
    · have h1 := zl_mx_lt h
      cases hb : Nat.ble (zl_mx l) x.1 with
      | true =>
        show q.1 < x.1 + 1
        have := Nat.le_of_ble_eq_true hb
        omega
      | false => exact h1
def zl_dt (s : Nat → Int) : List (Nat × zl_N) → Int
  | [] => 0
  | c :: r => zl_nv c.2 * s c.1 + zl_dt s r
def zl_ev (s : Nat → Int) (e : zl_E) : Int := zl_nv e.1 + zl_dt s e.2
def zl_na (a b : zl_N) : zl_N := (Nat.add a.1 b.1, Nat.add a.2 b.2)
theorem zl_na_nv (a b : zl_N) : zl_nv (zl_na a b) = zl_nv a + zl_nv b := by
  rw [zl_nv_eq, zl_nv_eq, zl_nv_eq]
  show ((a.1 + b.1 : Nat) : Int) - ((a.2 + b.2 : Nat) : Int) = _
  omega
/-- one more term -/
def zl_i1 (k : Nat) (c : zl_N) (l : List (Nat × zl_N)) : List (Nat × zl_N) :=
  List.rec (motive := fun _ => List (Nat × zl_N)) [(k, c)] (fun q r ih => cond (Nat.beq k q.1) (cond (Nat.beq (Nat.add c.1 q.2.1) (Nat.add c.2 q.2.2)) r ((k, zl_na c q.2) :: r)) (cond (Nat.blt k q.1) ((k, c) :: q :: r) (q :: ih))) l
theorem zl_i1_cons (k : Nat) (c : zl_N) (q : Nat × zl_N) (r : List (Nat × zl_N)) : zl_i1 k c (q :: r) = cond (Nat.beq k q.1) (cond (Nat.beq (Nat.add c.1 q.2.1) (Nat.add c.2 q.2.2)) r ((k, zl_na c q.2) :: r)) (cond (Nat.blt k q.1) ((k, c) :: q :: r) (q :: zl_i1 k c r)) := rfl
theorem zl_i1_dt (s : Nat → Int) (k : Nat) (c : zl_N) : ∀ l : List (Nat × zl_N), zl_dt s (zl_i1 k c l) = zl_nv c * s k + zl_dt s l
  | [] => rfl
  | q :: r => by
    rw [zl_i1_cons]
    show _ = zl_nv c * s k + (zl_nv q.2 * s q.1 + zl_dt s r)
    cases hk : Nat.beq k q.1 with
    | true =>
      have hk : k = q.1 := Nat.eq_of_beq_eq_true hk
      subst hk
      have hna := zl_na_nv c q.2
      have hmul : zl_nv (zl_na c q.2) * s q.1 = zl_nv c * s q.1 + zl_nv q.2 * s q.1 := by rw [hna, Int.add_mul]
      show zl_dt s (cond (Nat.beq (Nat.add c.1 q.2.1) (Nat.add c.2 q.2.2)) r ((q.1, zl_na c q.2) :: r)) = _
      cases hz : Nat.beq (Nat.add c.1 q.2.1) (Nat.add c.2 q.2.2) with
      | true =>
        have hz : Nat.add c.1 q.2.1 = Nat.add c.2 q.2.2 := Nat.eq_of_beq_eq_true hz
        have h0 : zl_nv (zl_na c q.2) = 0 := by
          rw [zl_nv_eq]
          show ((Nat.add c.1 q.2.1 : Nat) : Int) - ((Nat.add c.2 q.2.2 : Nat) : Int) = 0
          rw [hz]
          omega
        rw [h0, Int.zero_mul] at hmul
        show zl_dt s r = _
        omega
      | false =>
        show zl_nv (zl_na c q.2) * s q.1 + zl_dt s r = _
        omega
    | false =>
      show zl_dt s (cond (Nat.blt k q.1) ((k, c) :: q :: r) (q :: zl_i1 k c r)) = _
      cases Nat.blt k q.1 with
      | true => rfl
      | false =>
        show zl_nv q.2 * s q.1 + zl_dt s (zl_i1 k c r) = _
        rw [zl_i1_dt s k c r]
        omega
def zl_va (a b : List (Nat × zl_N)) : List (Nat × zl_N) := List.rec (motive := fun _ => List (Nat × zl_N)) b (fun q _ ih => zl_i1 q.1 q.2 ih) a
theorem zl_va_dt (s : Nat → Int) (b : List (Nat × zl_N)) : ∀ a : List (Nat × zl_N), zl_dt s (zl_va a b) = zl_dt s a + zl_dt s b
  | [] => by
    show zl_dt s b = 0 + zl_dt s b
    omega
  | q :: a => by
    show zl_dt s (zl_i1 q.1 q.2 (zl_va a b)) = zl_nv q.2 * s q.1 + zl_dt s a + zl_dt s b
    rw [zl_i1_dt, zl_va_dt s b a]
    omega
/-- so many times -/
def zl_nm (m : Nat) (a : zl_N) : zl_N := (Nat.mul m a.1, Nat.mul m a.2)
def zl_sw (a : zl_N) : zl_N := (a.2, a.1)
theorem zl_nm_nv (m : Nat) (a : zl_N) : zl_nv (zl_nm m a) = (m : Int) * zl_nv a := by
  rw [zl_nv_eq, zl_nv_eq]
  show ((m * a.1 : Nat) : Int) - ((m * a.2 : Nat) : Int) = _
  rw [Int.natCast_mul, Int.natCast_mul, Int.mul_sub]
theorem zl_sw_nv (a : zl_N) : zl_nv (zl_sw a) = - zl_nv a := by
  rw [zl_nv_eq, zl_nv_eq]
  show (a.2 : Int) - (a.1 : Int) = _
  omega
def zl_mp (f : zl_N → zl_N) (l : List (Nat × zl_N)) : List (Nat × zl_N) := List.rec (motive := fun _ => List (Nat × zl_N)) [] (fun q _ ih => (q.1, f q.2) :: ih) l
theorem zl_mp_dt (s : Nat → Int) {f : zl_N → zl_N} {m : Int} (hf : ∀ a, zl_nv (f a) = m * zl_nv a) : ∀ l : List (Nat × zl_N), zl_dt s (zl_mp f l) = m * zl_dt s l
  | [] => by
    show (0 : Int) = m * 0
    rw [Int.mul_zero]
  | q :: r => by
    show zl_nv (f q.2) * s q.1 + zl_dt s (zl_mp f r) = m * (zl_nv q.2 * s q.1 + zl_dt s r)
    rw [hf, zl_mp_dt s hf r, Int.mul_add, Int.mul_assoc]
def zl_add (a b : zl_E) : zl_E := (zl_na a.1 b.1, zl_va a.2 b.2)
def zl_neg (a : zl_E) : zl_E := (zl_sw a.1, zl_mp zl_sw a.2)
def zl_mul (m : Int) (a : zl_E) : zl_E := match m with
  | .ofNat n => cond (Nat.beq n 1) a (zl_nm n a.1, zl_mp (zl_nm n) a.2)
  | .negSucc n => cond (Nat.beq n 0) (zl_neg a) (zl_sw (zl_nm (n + 1) a.1), zl_mp (fun x => zl_sw (zl_nm (n + 1) x)) a.2)
def zl_sub (a b : zl_E) : zl_E := (zl_na a.1 (zl_sw b.1), zl_va (zl_mp zl_sw b.2) a.2)
def zl_con (c : Int) : zl_E := match c with
  | .ofNat n => ((n, 0), [])
  | .negSucc n => ((0, n + 1), [])
def zl_sym (k : Nat) : zl_E := ((0, 0), [(k, 1, 0)])
theorem zl_add_ev (s : Nat → Int) (a b : zl_E) : zl_ev s (zl_add a b) = zl_ev s a + zl_ev s b := by
  show zl_nv (zl_na a.1 b.1) + zl_dt s (zl_va a.2 b.2) = (zl_nv a.1 + zl_dt s a.2) + (zl_nv b.1 + zl_dt s b.2)
  rw [zl_na_nv, zl_va_dt]
  omega
theorem zl_neg_ev (s : Nat → Int) (a : zl_E) : zl_ev s (zl_neg a) = - zl_ev s a := by
  show zl_nv (zl_sw a.1) + zl_dt s (zl_mp zl_sw a.2) = - (zl_nv a.1 + zl_dt s a.2)
  rw [zl_sw_nv, zl_mp_dt s (m := -1) (fun x => by rw [zl_sw_nv]; omega)]
  omega
theorem zl_mul_ev (s : Nat → Int) (m : Int) (a : zl_E) : zl_ev s (zl_mul m a) = m * zl_ev s a := by
  unfold zl_mul
  split
  · rename_i n
    cases hn : Nat.beq n 1 with
    | true =>
      have hn : n = 1 := Nat.eq_of_beq_eq_true hn
      subst hn
      show zl_ev s a = 1 * zl_ev s a
      omega
    | false =>
      show zl_nv (zl_nm n a.1) + zl_dt s (zl_mp (zl_nm n) a.2) = (n : Int) * (zl_nv a.1 + zl_dt s a.2)
      rw [zl_nm_nv, zl_mp_dt s (m := (n : Int)) (fun x => zl_nm_nv n x), Int.mul_add]
  · rename_i n
    cases hn : Nat.beq n 0 with
    | true =>
      have hn : n = 0 := Nat.eq_of_beq_eq_true hn
      subst hn
      show zl_ev s (zl_neg a) = (-1) * zl_ev s a
      rw [zl_neg_ev]
      omega
    | false =>
      have hf : ∀ x, zl_nv (zl_sw (zl_nm (n + 1) x)) = Int.negSucc n * zl_nv x := fun x => by
        rw [zl_sw_nv, zl_nm_nv, Int.negSucc_eq, Int.neg_mul]
        rfl
      show zl_nv (zl_sw (zl_nm (n + 1) a.1)) + zl_dt s (zl_mp (fun x => zl_sw (zl_nm (n + 1) x)) a.2) = Int.negSucc n * (zl_nv a.1 + zl_dt s a.2)
      rw [hf, zl_mp_dt s (m := Int.negSucc n) hf, Int.mul_add]
theorem zl_sub_ev (s : Nat → Int) (a b : zl_E) : zl_ev s (zl_sub a b) = zl_ev s a - zl_ev s b := by
  show zl_nv (zl_na a.1 (zl_sw b.1)) + zl_dt s (zl_va (zl_mp zl_sw b.2) a.2) = (zl_nv a.1 + zl_dt s a.2) - (zl_nv b.1 + zl_dt s b.2)
  rw [zl_na_nv, zl_sw_nv, zl_va_dt, zl_mp_dt s (m := -1) (fun x => by rw [zl_sw_nv]; omega)]
  omega
theorem zl_con_ev (s : Nat → Int) (c : Int) : zl_ev s (zl_con c) = c := by
  unfold zl_con
  split
  · rename_i n
    show zl_nv (n, 0) + 0 = (n : Int)
    rw [zl_nv_eq]
    show (n : Int) - ((0 : Nat) : Int) + 0 = n
    omega
  · rename_i n
    show zl_nv (0, n + 1) + 0 = Int.negSucc n
    rw [zl_nv_eq, Int.negSucc_eq]
    show ((0 : Nat) : Int) - ((n + 1 : Nat) : Int) + 0 = -((n : Int) + 1)
    omega
theorem zl_sym_ev (s : Nat → Int) (k : Nat) : zl_ev s (zl_sym k) = s k := by
  show zl_nv (0, 0) + (zl_nv (1, 0) * s k + 0) = s k
  rw [zl_nv_eq, zl_nv_eq]
  show ((0 : Nat) : Int) - ((0 : Nat) : Int) + ((((1 : Nat) : Int) - ((0 : Nat) : Int)) * s k + 0) = s k
  omega
/-- the k-th of a list -/
def zlm_n {α : Type} (l : List α) : Nat → Option α := List.rec (motive := fun _ => Nat → Option α) (fun _ => none) (fun a _ ih k => Nat.casesOn (motive := fun _ => Option α) k (some a) ih) l
theorem zlm_n_eq {α : Type} : ∀ (l : List α) (k : Nat), zlm_n l k = l[k]?
  | [], k => by
    rw [List.getElem?_nil]
    rfl
  | a :: l, 0 => rfl
  | a :: l, k + 1 => by
    rw [List.getElem?_cons_succ, ← zlm_n_eq l k]
    rfl
/-- without its first, without its first sixteen, without its first 16 j: what the kernel keeps of a list once it went there -/
def zl_tl {α : Type} (l : List α) : List α := List.casesOn (motive := fun _ => List α) l [] (fun _ r => r)
theorem zlm_n_tl {α : Type} (l : List α) (i : Nat) : zlm_n (zl_tl l) i = zlm_n l (i + 1) := by cases l <;> rfl
def zl_d4 {α : Type} (l : List α) : List α := zl_tl (zl_tl (zl_tl (zl_tl l)))
theorem zlm_n_d4 {α : Type} (l : List α) (i : Nat) : zlm_n (zl_d4 l) i = zlm_n l (i + 4) := (zlm_n_tl _ _).trans ((zlm_n_tl _ _).trans ((zlm_n_tl _ _).trans (zlm_n_tl _ _)))
def zl_d16 {α : Type} (l : List α) : List α := zl_d4 (zl_d4 (zl_d4 (zl_d4 l)))
theorem zlm_n_d16 {α : Type} (l : List α) (i : Nat) : zlm_n (zl_d16 l) i = zlm_n l (i + 16) := (zlm_n_d4 _ _).trans ((zlm_n_d4 _ _).trans ((zlm_n_d4 _ _).trans (zlm_n_d4 _ _)))
def zl_dr {α : Type} (l : List α) (j : Nat) : List α := Nat.rec (motive := fun _ => List α) l (fun _ r => zl_d16 r) j
theorem zlm_n_dr {α : Type} (l : List α) : ∀ j i : Nat, zlm_n (zl_dr l j) i = zlm_n l (i + 16 * j)
  | 0, i => by
    show zlm_n l i = zlm_n l (i + 16 * 0)
    exact congrArg (zlm_n l) (by omega)
  | j + 1, i => by
    show zlm_n (zl_d16 (zl_dr l j)) i = zlm_n l (i + 16 * (j + 1))
    exact (zlm_n_d16 _ _).trans ((zlm_n_dr l j (i + 16)).trans (congrArg (zlm_n l) (by omega)))
def zl_nth {α : Type} (l : List α) (k : Nat) : Option α := zz_fN (Nat.div k 16) (fun j => zlm_n (zl_dr l j) (Nat.mod k 16))
theorem zl_nth_eq {α : Type} (l : List α) (k : Nat) : zl_nth l k = l[k]? := by
  have h1 : zl_nth l k = zlm_n (zl_dr l (Nat.div k 16)) (Nat.mod k 16) := zz_fN_eq (Nat.div k 16) (fun j => zlm_n (zl_dr l j) (Nat.mod k 16))
  have h2 : Nat.mod k 16 + 16 * Nat.div k 16 = k := Nat.mod_add_div k 16
  rw [h1, zlm_n_dr, zlm_n_eq, h2]
/-- the symbols are within their bounds -/
def zl_in (s : Nat → Int) (S : List (Int × Int)) : Prop := ∀ (k : Nat) (q : Int × Int), S[k]? = some q → q.1 ≤ s k ∧ s k ≤ q.2
/-- the least value that the bounds allow -/
def zl_tm (c : zl_N) (q : Int × Int) : Int := cond (Nat.ble c.2 c.1) (Int.mul (Int.ofNat (Nat.sub c.1 c.2)) q.1) (Int.mul (Int.negOfNat (Nat.sub c.2 c.1)) q.2)
theorem zl_tm_ok {c : zl_N} {q : Int × Int} {x : Int} (h : q.1 ≤ x ∧ x ≤ q.2) : zl_tm c q ≤ zl_nv c * x := by
  unfold zl_tm
  cases hb : Nat.ble c.2 c.1 with
  | true =>
    have hb : c.2 ≤ c.1 := Nat.le_of_ble_eq_true hb
    have h1 : zl_nv c = ((c.1 - c.2 : Nat) : Int) := by
      rw [zl_nv_eq]
      omega
    rw [h1]
    exact Int.mul_le_mul_of_nonneg_left h.1 (Int.natCast_nonneg _)
  | false =>
    have hb : ¬ c.2 ≤ c.1 := fun hc => by rw [Nat.ble_eq_true_of_le hc] at hb; cases hb
    have h1 : zl_nv c = Int.negOfNat (c.2 - c.1) := by
      rw [zl_nv_eq, Int.negOfNat_eq]
      show (c.1 : Int) - (c.2 : Int) = -((c.2 - c.1 : Nat) : Int)
      omega
    rw [h1]
    refine Int.mul_le_mul_of_nonpos_left (?_ : Int.negOfNat (c.2 - c.1) ≤ 0) h.2
    rw [Int.negOfNat_eq]
    show -((c.2 - c.1 : Nat) : Int) ≤ 0
    omega
def zl_lb (S : List (Int × Int)) (l : List (Nat × zl_N)) : Option Int := List.rec (motive := fun _ => Option Int) (some 0) (fun c _ ih => Option.rec (motive := fun _ => Option Int) none (fun q => Option.rec (motive := fun _ => Option Int) none (fun v => some (Int.add (zl_tm c.2 q) v)) ih) (zl_nth S c.1)) l
theorem zl_lb_ok (s : Nat → Int) (S : List (Int × Int)) (hS : zl_in s S) : ∀ (a : List (Nat × zl_N)) (v : Int), zl_lb S a = some v → v ≤ zl_dt s a
  | [], v, h => by
    have h : some (0 : Int) = some v := h
    cases h
    exact Int.le_refl _
  | c :: r, v, h => by
    have h : (Option.rec (motive := fun _ => Option Int) none (fun q => Option.rec (motive := fun _ => Option Int) none (fun v => some (Int.add (zl_tm c.2 q) v)) (zl_lb S r)) (zl_nth S c.1) : Option Int) = some v := h
    cases hn : zl_nth S c.1 with
    | none =>
      rw [hn] at h
      cases h
    | some q =>
      rw [hn] at h
      cases hr : zl_lb S r with
      | none =>
        rw [hr] at h
        cases h
      | some u =>
        rw [hr] at h
        have h : some (Int.add (zl_tm c.2 q) u) = some v := h
        cases h
        rw [zl_nth_eq] at hn
        have h1 := zl_tm_ok (c := c.2) (hS c.1 q hn)
        have h2 := zl_lb_ok s S hS r u hr
        show zl_tm c.2 q + u ≤ zl_nv c.2 * s c.1 + zl_dt s r
        omega
/-- a sum of given ones, each so many times -/
def zl_cmb (h : List Nat) : List zl_E → zl_E := List.rec (motive := fun _ => List zl_E → zl_E) (fun _ => zl_con 0) (fun h _ ih cs => List.casesOn (motive := fun _ => zl_E) cs (zl_con 0) (fun c cs => cond (Nat.beq h 0) (ih cs) (zl_add (zl_mul (Int.ofNat h) c) (ih cs)))) h
theorem zl_cmb_ok (s : Nat → Int) : ∀ (h : List Nat) (C : List zl_E), (∀ c ∈ C, 0 ≤ zl_ev s c) → 0 ≤ zl_ev s (zl_cmb h C)
  | [], C, _ => by
    show 0 ≤ zl_ev s (zl_con 0)
    rw [zl_con_ev]
    exact Int.le_refl _
  | h :: hs, [], _ => by
    show 0 ≤ zl_ev s (zl_con 0)
    rw [zl_con_ev]
    exact Int.le_refl _
  | h :: hs, c :: cs, hC => by
    have h1 := hC c List.mem_cons_self
    have h2 := zl_cmb_ok s hs cs (fun x hx => hC x (List.mem_cons_of_mem _ hx))
    show 0 ≤ zl_ev s (cond (Nat.beq h 0) (zl_cmb hs cs) (zl_add (zl_mul (Int.ofNat h) c) (zl_cmb hs cs)))
    cases Nat.beq h 0 with
    | true => exact h2
    | false =>
      show 0 ≤ zl_ev s (zl_add (zl_mul (Int.ofNat h) c) (zl_cmb hs cs))
      rw [zl_add_ev, zl_mul_ev]
      have h3 : 0 ≤ Int.ofNat h * zl_ev s c := Int.mul_nonneg (Int.natCast_nonneg h) h1
      omega
/-- not below 0 -/
def zl_nn (x : Int) : Bool := Int.casesOn (motive := fun _ => Bool) x (fun _ => true) (fun _ => false)
theorem zl_nn_ok {x : Int} (h : zl_nn x = true) : 0 ≤ x := by
  cases x with
  | ofNat n => exact Int.natCast_nonneg n
  | negSucc n => cases h
def zl_pos (S : List (Int × Int)) (d : zl_E) : Bool := Option.rec (motive := fun _ => Bool) false (fun v => zl_nn (Int.add (zl_nv d.1) v)) (zl_lb S d.2)
theorem zl_pos_ok {s : Nat → Int} {S : List (Int × Int)} {d : zl_E} (hS : zl_in s S) (h : zl_pos S d = true) : 0 ≤ zl_ev s d := by
  unfold zl_pos at h
  cases hv : zl_lb S d.2 with
  | none =>
    rw [hv] at h
    cases h
  | some v =>
    rw [hv] at h
    have h1 := zl_lb_ok s S hS d.2 v hv
    have h2 : 0 ≤ zl_nv d.1 + v := zl_nn_ok h
    show 0 ≤ zl_nv d.1 + zl_dt s d.2
    omega
/-- the same, by places: place + 65536 times how many times -/
def zl_cms (C : List zl_E) (h : List Nat) : zl_E := List.rec (motive := fun _ => zl_E) (zl_con 0) (fun n _ ih => Option.rec (motive := fun _ => zl_E) ih (fun c => zl_add (zl_mul (Int.ofNat (Nat.div n 65536)) c) ih) (zl_nth C (Nat.mod n 65536))) h
theorem zl_cms_ok (s : Nat → Int) (C : List zl_E) (hC : ∀ c ∈ C, 0 ≤ zl_ev s c) : ∀ (h : List Nat), 0 ≤ zl_ev s (zl_cms C h)
  | [] => by
    show 0 ≤ zl_ev s (zl_con 0)
    rw [zl_con_ev]
    exact Int.le_refl _
  | n :: r => by
    have h2 := zl_cms_ok s C hC r
    show 0 ≤ zl_ev s (Option.rec (motive := fun _ => zl_E) (zl_cms C r) (fun c => zl_add (zl_mul (Int.ofNat (Nat.div n 65536)) c) (zl_cms C r)) (zl_nth C (Nat.mod n 65536)))
    cases hn : zl_nth C (Nat.mod n 65536) with
    | none => exact h2
    | some c =>
      show 0 ≤ zl_ev s (zl_add (zl_mul (Int.ofNat (Nat.div n 65536)) c) (zl_cms C r))
      rw [zl_nth_eq] at hn
      rw [zl_add_ev, zl_mul_ev]
      have h3 : 0 ≤ Int.ofNat (Nat.div n 65536) * zl_ev s c := Int.mul_nonneg (Int.natCast_nonneg _) (hC c (List.mem_of_getElem? hn))
      first | omega | exact Int.add_nonneg h3 h2
/-- from here on a first number says that places follow -/
def zlm_mk : Nat := 100000000000000000000000000000000000000000000000000000000000000000000000000000000000000000000000000000000000000000000000000000000000000000000000000000000000000000000000000000000000000000000000000000000
/-- e is not below 0, by bounds and given sums -/
def zl_en (S : List (Int × Int)) (C : List zl_E) (h : List Nat) (e : zl_E) : Bool := List.casesOn (motive := fun _ => Bool) h (zl_pos S e) (fun x r => cond (Nat.ble zlm_mk x) (zl_pos S (zl_sub e (zl_cms C r))) (zl_pos S (zl_sub e (zl_cmb (x :: r) C))))
theorem zl_en_ok {s : Nat → Int} {S : List (Int × Int)} {C : List zl_E} {h : List Nat} {e : zl_E} (hS : zl_in s S) (hC : ∀ c ∈ C, 0 ≤ zl_ev s c) (he : zl_en S C h e = true) : 0 ≤ zl_ev s e := by
  cases h with
  | nil => exact zl_pos_ok hS he
  | cons x h =>
    have he : cond (Nat.ble zlm_mk x) (zl_pos S (zl_sub e (zl_cms C h))) (zl_pos S (zl_sub e (zl_cmb (x :: h) C))) = true := he
    cases hb : Nat.ble zlm_mk x with
    | true =>
      rw [hb] at he
      have h1 := zl_pos_ok hS (show zl_pos S (zl_sub e (zl_cms C h)) = true from he)
      rw [zl_sub_ev] at h1
      have h2 := zl_cms_ok s C hC h
      omega
    | false =>
      rw [hb] at he
      have h1 := zl_pos_ok hS (show zl_pos S (zl_sub e (zl_cmb (x :: h) C)) = true from he)
      rw [zl_sub_ev] at h1
      have h2 := zl_cmb_ok s (x :: h) C hC
      omega
/-- one symbol more -/
theorem zl_in_snoc {s : Nat → Int} {S : List (Int × Int)} {lo hi : Int} (h : zl_in s S) (h1 : lo ≤ s S.length) (h2 : s S.length ≤ hi) : zl_in s (S ++ [(lo, hi)]) := by
  intro k q hq
  by_cases hk : k < S.length
  · rw [List.getElem?_append_left hk] at hq
    exact h k q hq
  · by_cases he : k = S.length
    · subst he
      rw [List.getElem?_append_right (Nat.le_refl _), Nat.sub_self] at hq
      cases hq
      exact ⟨h1, h2⟩
    · rw [List.getElem?_append_right (by omega), List.getElem?_eq_none (by simp; omega)] at hq
      cases hq
/-- a sum has no symbol from n on -/
def zl_lt (n : Nat) (e : zl_E) : Prop := zl_mx e.2 ≤ n
theorem zl_dt_eq {s t : Nat → Int} : ∀ (a : List (Nat × zl_N)), (∀ j, j < zl_mx a → s j = t j) → zl_dt s a = zl_dt t a
  | [], _ => rfl
  | c :: r, h => by
    show zl_nv c.2 * s c.1 + zl_dt s r = zl_nv c.2 * t c.1 + zl_dt t r
    have hm : zl_mx r ≤ zl_mx (c :: r) := by
      rw [zl_mx_cons]
      cases hb : Nat.ble (zl_mx r) c.1 with
      | true =>
        have := Nat.le_of_ble_eq_true hb
        show zl_mx r ≤ c.1 + 1
        omega
      | false => exact Nat.le_refl _
    rw [h c.1 (zl_mx_lt List.mem_cons_self), zl_dt_eq r (fun j hj => h j (by omega))]
theorem zl_ev_eq {s t : Nat → Int} {n : Nat} {e : zl_E} (he : zl_lt n e) (h : ∀ j, j < n → s j = t j) : zl_ev s e = zl_ev t e := by
  unfold zl_ev
  rw [zl_dt_eq e.2 (fun j hj => h j (Nat.lt_of_lt_of_le hj he))]
/-- symbols put in for symbols -/
def zl_sc (c : zl_N) (e : zl_E) : zl_E := cond (Nat.beq c.2 0) (zl_mul (Int.ofNat c.1) e) (zl_mul (zl_nv c) e)
theorem zl_sc_ev (s : Nat → Int) (c : zl_N) (e : zl_E) : zl_ev s (zl_sc c e) = zl_nv c * zl_ev s e := by
  unfold zl_sc
  cases hb : Nat.beq c.2 0 with
  | true =>
    have hb : c.2 = 0 := Nat.eq_of_beq_eq_true hb
    have h1 : zl_nv c = Int.ofNat c.1 := by
      rw [zl_nv_eq, hb]
      show (c.1 : Int) - ((0 : Nat) : Int) = (c.1 : Int)
      omega
    show zl_ev s (zl_mul (Int.ofNat c.1) e) = zl_nv c * zl_ev s e
    rw [zl_mul_ev, h1]
  | false => exact zl_mul_ev s _ e
def zl_sb (t : List zl_E) (l : List (Nat × zl_N)) : zl_E := List.rec (motive := fun _ => zl_E) (zl_con 0) (fun c _ ih => Option.rec (motive := fun _ => zl_E) ih (fun q => zl_add (zl_sc c.2 q) ih) (zl_nth t c.1)) l
def zl_subst (t : List zl_E) (e : zl_E) : zl_E := List.rec (motive := fun _ => zl_E) e (fun _ _ _ => zl_add (e.1, []) (zl_sb t e.2)) e.2
theorem zl_sb_ev (s u : Nat → Int) (t : List zl_E) (hu : ∀ (j : Nat) (q : zl_E), t[j]? = some q → u j = zl_ev s q) : ∀ (a : List (Nat × zl_N)), zl_mx a ≤ t.length → zl_ev s (zl_sb t a) = zl_dt u a
  | [], _ => zl_con_ev s 0
  | c :: r, h => by
    have hc : c.1 < t.length := Nat.lt_of_lt_of_le (zl_mx_lt List.mem_cons_self) h
    have hm : zl_mx r ≤ t.length := by
      rw [zl_mx_cons] at h
      cases hb : Nat.ble (zl_mx r) c.1 with
      | true =>
        have := Nat.le_of_ble_eq_true hb
        omega
      | false =>
        rw [hb] at h
        exact h
    have hr := zl_sb_ev s u t hu r hm
    have hq : zl_nth t c.1 = some t[c.1] := by rw [zl_nth_eq]; exact List.getElem?_eq_getElem hc
    show zl_ev s (Option.rec (motive := fun _ => zl_E) (zl_sb t r) (fun q => zl_add (zl_sc c.2 q) (zl_sb t r)) (zl_nth t c.1)) = zl_nv c.2 * u c.1 + zl_dt u r
    rw [hq]
    show zl_ev s (zl_add (zl_sc c.2 t[c.1]) (zl_sb t r)) = _
    rw [zl_add_ev, zl_sc_ev, hr, hu c.1 t[c.1] (List.getElem?_eq_getElem hc)]
theorem zl_subst_ev {s u : Nat → Int} {t : List zl_E} {e : zl_E} (h : zl_mx e.2 ≤ t.length) (hu : ∀ (j : Nat) (q : zl_E), t[j]? = some q → u j = zl_ev s q) : zl_ev s (zl_subst t e) = zl_ev u e := by
  obtain ⟨c, l⟩ := e
  have h0 : zl_ev s (zl_add (c, []) (zl_sb t l)) = zl_nv c + zl_dt u l := by
    rw [zl_add_ev, zl_sb_ev s u t hu l h]
    show zl_nv c + 0 + zl_dt u l = _
    omega
  cases l with
  | nil => rfl
  | cons q r => exact h0
end
end
section
/-! ABSTRACT FRAMES: locals and operands as sums of symbols, fields that are followed, bounds of symbols, sums that are not below 0; what they say of a frame -/
noncomputable section
/-- a value: 0 an int (the sum), 1 a long (its second number 1: the sum), 2 a reference (the address), 3 null; others: anything -/
abbrev zk_V : Type := Nat × Nat × zl_E
/-- locals, operands, fields, bounds, sums -/
abbrev zk_A : Type := List (Nat × zk_V) × List zk_V × List ((Nat × Nat) × zk_V) × List (Int × Int) × List zl_E
def zk_v (s : Nat → Int) (a : zk_V) (v : Value) : Prop :=
  (a.1 = 0 → ∃ x : Int32, v = .int x ∧ x.toInt = zl_ev s a.2.2) ∧ (a.1 = 1 → ∃ x : Int64, v = .long x ∧ (a.2.1 = 1 → x.toInt = zl_ev s a.2.2)) ∧ (a.1 = 2 → v = .ref a.2.1) ∧ (a.1 = 3 → v = .null)
def zk_st (s : Nat → Int) : List zk_V → List Value → Prop
  | [], [] => True
  | a :: as, v :: vs => zk_v s a v ∧ zk_st s as vs
  | _, _ => False
/-- the number in field k of cell i -/
def zk_fd (w : zz_W) (q : Nat × Nat) : Nat := zz_at 64 (zz_g w q.1).2.2.2 q.2
/-- what a value says of a field's number -/
def zk_n (s : Nat → Int) (a : zk_V) (n : Nat) : Prop := (a.1 = 0 → (Int32.ofNat n).toInt = zl_ev s a.2.2) ∧ (a.1 = 2 → n = a.2.1 + 1) ∧ (a.1 = 3 → n = 0)
def zk_lc (s : Nat → Int) (L : List (Nat × zk_V)) (lv : List (Nat × Value)) : Prop := ∀ q ∈ L, ∃ v, zz_lg lv q.1 = some v ∧ zk_v s q.2 v
def zk_fl (s : Nat → Int) (F : List ((Nat × Nat) × zk_V)) (w : zz_W) : Prop := ∀ q ∈ F, zk_n s q.2 (zk_fd w q.1)
def zk_cs (s : Nat → Int) (C : List zl_E) : Prop := ∀ c ∈ C, 0 ≤ zl_ev s c
def zk_G (I : zz_W → Prop) (s : Nat → Int) (A : zk_A) (f : zz_F) : Prop :=
  zk_lc s A.1 f.2.1 ∧ zk_st s A.2.1 f.2.2.1 ∧ zk_fl s A.2.2.1 f.2.2.2 ∧ zl_in s A.2.2.2.1 ∧ zk_cs s A.2.2.2.2 ∧ I f.2.2.2
/-- an instruction takes frames of A to frames of A' at n -/
def zk_S (I : zz_W → Prop) (act : zz_A) (n : Nat) (A A' : zk_A) : Prop :=
  A.2.2.2.1.length ≤ A'.2.2.2.1.length ∧ ∀ (K : zz_K) (s : Nat → Int) (f : zz_F), zk_G I s A f → ∃ (s' : Nat → Int) (f' : zz_F), act K f = some f' ∧ f'.1 = n ∧ zk_G I s' A' f' ∧ ∀ j, j < A.2.2.2.1.length → s' j = s j
theorem zk_st_cons {s : Nat → Int} {a : zk_V} {as : List zk_V} : ∀ {st : List Value}, zk_st s (a :: as) st → ∃ v r, st = v :: r ∧ zk_v s a v ∧ zk_st s as r
  | [], h => h.elim
  | v :: r, h => ⟨v, r, rfl, h.1, h.2⟩
theorem zk_st_int {s : Nat → Int} {a : zk_V} {as : List zk_V} {st : List Value} (h : zk_st s (a :: as) st) (ha : a.1 = 0) : ∃ x r, st = .int x :: r ∧ x.toInt = zl_ev s a.2.2 ∧ zk_st s as r := by
  obtain ⟨v, r, e, h1, h2⟩ := zk_st_cons h
  obtain ⟨x, e1, e2⟩ := h1.1 ha
  exact ⟨x, r, by rw [e, e1], e2, h2⟩
theorem zk_v_int {s : Nat → Int} {x : Int32} {k : Nat} {e : zl_E} (h : x.toInt = zl_ev s e) : zk_v s (0, k, e) (.int x) :=
  ⟨fun _ => ⟨x, rfl, h⟩, fun h => absurd (show (0 : Nat) = 1 from h) (by decide), fun h => absurd (show (0 : Nat) = 2 from h) (by decide), fun h => absurd (show (0 : Nat) = 3 from h) (by decide)⟩
theorem zk_v_lv {s : Nat → Int} {x : Int64} {k : Nat} {e : zl_E} (h : x.toInt = zl_ev s e) : zk_v s (1, k, e) (.long x) :=
  ⟨fun h => absurd (show (1 : Nat) = 0 from h) (by decide), fun _ => ⟨x, rfl, fun _ => h⟩, fun h => absurd (show (1 : Nat) = 2 from h) (by decide), fun h => absurd (show (1 : Nat) = 3 from h) (by decide)⟩
theorem zk_v_long {s : Nat → Int} {x : Int64} {e : zl_E} : zk_v s (1, 0, e) (.long x) :=
  ⟨fun h => absurd (show (1 : Nat) = 0 from h) (by decide), fun _ => ⟨x, rfl, fun h => absurd (show (0 : Nat) = 1 from h) (by decide)⟩, fun h => absurd (show (1 : Nat) = 2 from h) (by decide), fun h => absurd (show (1 : Nat) = 3 from h) (by decide)⟩
theorem zk_v_ref {s : Nat → Int} {k : Nat} {e : zl_E} : zk_v s (2, k, e) (.ref k) :=
  ⟨fun h => absurd (show (2 : Nat) = 0 from h) (by decide), fun h => absurd (show (2 : Nat) = 1 from h) (by decide), fun _ => rfl, fun h => absurd (show (2 : Nat) = 3 from h) (by decide)⟩
theorem zk_v_null {s : Nat → Int} {k : Nat} {e : zl_E} : zk_v s (3, k, e) .null :=
  ⟨fun h => absurd (show (3 : Nat) = 0 from h) (by decide), fun h => absurd (show (3 : Nat) = 1 from h) (by decide), fun h => absurd (show (3 : Nat) = 2 from h) (by decide), fun _ => rfl⟩
/-- no symbol from n on -/
def zk_wv (n : Nat) (a : zk_V) : Bool := Nat.ble (zl_mx a.2.2.2) n
def zk_wf (n : Nat) (L : List (Nat × zk_V)) (T : List zk_V) (F : List ((Nat × Nat) × zk_V)) (C : List zl_E) : Bool :=
  L.all (fun q => zk_wv n q.2) && (T.all (zk_wv n) && (F.all (fun q => zk_wv n q.2) && C.all (fun c => Nat.ble (zl_mx c.2) n)))
theorem zk_v_eq {s t : Nat → Int} {n : Nat} {a : zk_V} {v : Value} (hw : zk_wv n a = true) (h : ∀ j, j < n → t j = s j) (hv : zk_v s a v) : zk_v t a v := by
  refine ⟨fun h0 => ?_, fun h1 => ?_, hv.2.2⟩
  · obtain ⟨x, e1, e2⟩ := hv.1 h0
    exact ⟨x, e1, by rw [e2]; exact (zl_ev_eq (n := n) (zz_ble hw) h).symm⟩
  · obtain ⟨x, e1, e2⟩ := hv.2.1 h1
    exact ⟨x, e1, fun h2 => by rw [e2 h2]; exact (zl_ev_eq (n := n) (zz_ble hw) h).symm⟩
theorem zk_st_eq {s t : Nat → Int} {n : Nat} (h : ∀ j, j < n → t j = s j) : ∀ {T : List zk_V} {st : List Value}, T.all (zk_wv n) = true → zk_st s T st → zk_st t T st
  | [], [], _, _ => trivial
  | [], _ :: _, _, h2 => h2.elim
  | _ :: _, [], _, h2 => h2.elim
  | a :: as, v :: vs, hw, h2 => by
    rw [List.all_cons] at hw
    obtain ⟨h3, h4⟩ := zz_and hw
    exact ⟨zk_v_eq h3 h h2.1, zk_st_eq h h4 h2.2⟩
/-- the same with another number for a symbol that is not used -/
theorem zk_wf_ok {s t : Nat → Int} {n : Nat} {L : List (Nat × zk_V)} {T : List zk_V} {F : List ((Nat × Nat) × zk_V)} {C : List zl_E} {lv : List (Nat × Value)} {st : List Value} {w : zz_W} (hw : zk_wf n L T F C = true) (h : ∀ j, j < n → t j = s j)
    (h1 : zk_lc s L lv) (h2 : zk_st s T st) (h3 : zk_fl s F w) (h4 : zk_cs s C) : zk_lc t L lv ∧ zk_st t T st ∧ zk_fl t F w ∧ zk_cs t C := by
  unfold zk_wf at hw
  obtain ⟨w1, hw⟩ := zz_and hw
  obtain ⟨w2, hw⟩ := zz_and hw
  obtain ⟨w3, w4⟩ := zz_and hw
  refine ⟨fun q hq => ?_, zk_st_eq h w2 h2, fun q hq => ?_, fun c hc => ?_⟩
  · obtain ⟨v, e1, e2⟩ := h1 q hq
    exact ⟨v, e1, zk_v_eq (List.all_eq_true.mp w1 q hq) h e2⟩
  · obtain ⟨e1, e2⟩ := h3 q hq
    exact ⟨fun h0 => by rw [e1 h0]; exact (zl_ev_eq (n := n) (zz_ble (List.all_eq_true.mp w3 q hq)) h).symm, e2⟩
  · have := h4 c hc
    rw [zl_ev_eq (n := n) (zz_ble (List.all_eq_true.mp w4 c hc)) h]
    exact this
/-- an int of which only bounds are known comes onto the operands T -/
def zk_new (A : zk_A) (T : List zk_V) (lo hi : Int) : Option zk_A :=
  cond (zk_wf A.2.2.2.1.length A.1 T A.2.2.1 A.2.2.2.2) (some (A.1, (0, 0, zl_sym A.2.2.2.1.length) :: T, A.2.2.1, A.2.2.2.1 ++ [(lo, hi)], A.2.2.2.2)) none
theorem zk_new_ok {I : zz_W → Prop} {A A' : zk_A} {T : List zk_V} {lo hi : Int} {s : Nat → Int} {lv : List (Nat × Value)} {r : List Value} {w : zz_W} {x : Int32} {n : Nat} (h : zk_new A T lo hi = some A') (h1 : zk_lc s A.1 lv) (h2 : zk_st s T r) (h3 : zk_fl s A.2.2.1 w) (h4 : zl_in s A.2.2.2.1) (h5 : zk_cs s A.2.2.2.2) (h6 : I w) (hlo : lo ≤ x.toInt) (hhi : x.toInt ≤ hi) :
    A.2.2.2.1.length ≤ A'.2.2.2.1.length ∧ ∃ s' : Nat → Int, zk_G I s' A' (n, lv, .int x :: r, w) ∧ ∀ j, j < A.2.2.2.1.length → s' j = s j := by
  obtain ⟨hw, h⟩ := zz_cond h
  cases h
  refine ⟨by show _ ≤ (A.2.2.2.1 ++ [(lo, hi)]).length; simp, fun j => if j = A.2.2.2.1.length then x.toInt else s j, ?_, fun j hj => if_neg (by omega)⟩
  have hs : ∀ j, j < A.2.2.2.1.length → (fun j => if j = A.2.2.2.1.length then x.toInt else s j) j = s j := fun j hj => if_neg (by omega)
  obtain ⟨g1, g2, g3, g4⟩ := zk_wf_ok hw hs h1 h2 h3 h5
  refine ⟨g1, ⟨zk_v_int ?_, g2⟩, g3, zl_in_snoc (fun k q hq => ?_) ?_ ?_, g4, h6⟩
  · rw [zl_sym_ev]
    exact (if_pos rfl).symm
  · have hk : k < A.2.2.2.1.length := (List.getElem?_eq_some_iff.mp hq).1
    show q.1 ≤ (if k = A.2.2.2.1.length then x.toInt else s k) ∧ (if k = A.2.2.2.1.length then x.toInt else s k) ≤ q.2
    rw [if_neg (by omega)]
    exact h4 k q hq
  · show lo ≤ (if A.2.2.2.1.length = A.2.2.2.1.length then x.toInt else s _)
    rw [if_pos rfl]
    exact hlo
  · show (if A.2.2.2.1.length = A.2.2.2.1.length then x.toInt else s _) ≤ hi
    rw [if_pos rfl]
    exact hhi
/-- an int that is a sum, if the bounds say that it doesn't wrap; else any int -/
def zk_lin (A : zk_A) (T : List zk_V) (e : zl_E) : Option zk_A :=
  cond (zl_pos A.2.2.2.1 (zl_add e (zl_con 2147483648)) && zl_pos A.2.2.2.1 (zl_sub (zl_con 2147483647) e)) (some (A.1, (0, 0, e) :: T, A.2.2.1, A.2.2.2.1, A.2.2.2.2)) (zk_new A T (-2147483648) 2147483647)
theorem zk_lo (x : Int32) : -2147483648 ≤ x.toInt := Int32.le_toInt x
theorem zk_hi (x : Int32) : x.toInt ≤ 2147483647 := by
  have := Int32.toInt_lt x
  omega
theorem zk_lin_ok {I : zz_W → Prop} {A A' : zk_A} {T : List zk_V} {e : zl_E} {s : Nat → Int} {lv : List (Nat × Value)} {r : List Value} {w : zz_W} {x : Int32} {n : Nat} (h : zk_lin A T e = some A') (h1 : zk_lc s A.1 lv) (h2 : zk_st s T r) (h3 : zk_fl s A.2.2.1 w) (h4 : zl_in s A.2.2.2.1) (h5 : zk_cs s A.2.2.2.2) (h6 : I w) (hx : -2147483648 ≤ zl_ev s e → zl_ev s e ≤ 2147483647 → x.toInt = zl_ev s e) :
    A.2.2.2.1.length ≤ A'.2.2.2.1.length ∧ ∃ s' : Nat → Int, zk_G I s' A' (n, lv, .int x :: r, w) ∧ ∀ j, j < A.2.2.2.1.length → s' j = s j := by
  unfold zk_lin at h
  cases hb : (zl_pos A.2.2.2.1 (zl_add e (zl_con 2147483648)) && zl_pos A.2.2.2.1 (zl_sub (zl_con 2147483647) e)) with
  | false =>
    rw [hb] at h
    exact zk_new_ok h h1 h2 h3 h4 h5 h6 (zk_lo x) (zk_hi x)
  | true =>
    rw [hb] at h
    cases h
    obtain ⟨b1, b2⟩ := zz_and hb
    have c1 := zl_pos_ok h4 b1
    have c2 := zl_pos_ok h4 b2
    rw [zl_add_ev, zl_con_ev] at c1
    rw [zl_sub_ev, zl_con_ev] at c2
    exact ⟨Nat.le_refl _, s, ⟨h1, ⟨zk_v_int (hx (by omega) (by omega)), h2⟩, h3, h4, h5, h6⟩, fun _ _ => rfl⟩
theorem zk_bmod {a : Int} (h1 : -2147483648 ≤ a) (h2 : a ≤ 2147483647) : a.bmod (2 ^ 32) = a := by
  rw [Int.bmod_def]
  omega
theorem zk_new_len {A A' : zk_A} {T : List zk_V} {lo hi : Int} (h : zk_new A T lo hi = some A') : A.2.2.2.1.length ≤ A'.2.2.2.1.length := by
  obtain ⟨-, h⟩ := zz_cond h
  cases h
  show _ ≤ (A.2.2.2.1 ++ [(lo, hi)]).length
  simp
theorem zk_lin_len {A A' : zk_A} {T : List zk_V} {e : zl_E} (h : zk_lin A T e = some A') : A.2.2.2.1.length ≤ A'.2.2.2.1.length := by
  unfold zk_lin at h
  cases hb : (zl_pos A.2.2.2.1 (zl_add e (zl_con 2147483648)) && zl_pos A.2.2.2.1 (zl_sub (zl_con 2147483647) e)) with
  | false =>
    rw [hb] at h
    exact zk_new_len h
  | true =>
    rw [hb] at h
    cases h
    exact Nat.le_refl _
/-- two ints make one that is a sum of theirs -/
def zt_2l (le : zl_E → zl_E → zl_E) (A : zk_A) : Option zk_A := match A.2.1 with
  | (0, _, e2) :: (0, _, e1) :: r => zk_lin A r (le e1 e2)
  | _ => none
theorem zt_2l_ok {I : zz_W → Prop} {A A' : zk_A} {n : Nat} {act : zz_A} {le : zl_E → zl_E → zl_E} {g : Int32 → Int32 → Int32} (ha : ∀ (K : zz_K) (p : Nat) (lv : List (Nat × Value)) (x y : Int32) (r : List Value) (w : zz_W), act K (p, lv, .int y :: .int x :: r, w) = some (n, lv, .int (g x y) :: r, w))
    (hl : ∀ (s : Nat → Int) (x y : Int32) (e1 e2 : zl_E), x.toInt = zl_ev s e1 → y.toInt = zl_ev s e2 → -2147483648 ≤ zl_ev s (le e1 e2) → zl_ev s (le e1 e2) ≤ 2147483647 → (g x y).toInt = zl_ev s (le e1 e2)) (h : zt_2l le A = some A') : zk_S I act n A A' := by
  obtain ⟨L, T, F, B, C⟩ := A
  unfold zt_2l at h
  split at h
  · rename_i k2 e2 k1 e1 r hT
    have hT : T = (0, k2, e2) :: (0, k1, e1) :: r := hT
    subst hT
    refine ⟨zk_lin_len h, fun K s f hG => ?_⟩
    obtain ⟨p, lv, st, w⟩ := f
    obtain ⟨g1, g2, g3, g4, g5, g6⟩ := hG
    obtain ⟨y, st1, q1, q2, q3⟩ := zk_st_int g2 rfl
    obtain ⟨x, st2, q4, q5, q6⟩ := zk_st_int q3 rfl
    have hst : st = .int y :: .int x :: st2 := by rw [← q4]; exact q1
    subst hst
    obtain ⟨-, s', hg, hs⟩ := zk_lin_ok (I := I) (x := g x y) (n := n) (w := w) (lv := lv) h g1 q6 g3 g4 g5 g6 (hl s x y e1 e2 q5 q2)
    exact ⟨s', _, ha K p lv x y st2 w, rfl, hg, hs⟩
  · cases h
/-- two ints make one within bounds that theirs tell -/
def zt_2b (bd : List (Int × Int) → zl_E → zl_E → Int × Int) (A : zk_A) : Option zk_A := match A.2.1 with
  | (0, _, e2) :: (0, _, e1) :: r => zk_new A r (bd A.2.2.2.1 e1 e2).1 (bd A.2.2.2.1 e1 e2).2
  | _ => none
theorem zt_2b_ok {I : zz_W → Prop} {A A' : zk_A} {n : Nat} {act : zz_A} {bd : List (Int × Int) → zl_E → zl_E → Int × Int} {g : Int32 → Int32 → Int32} {P : Int32 → Prop} (hP : ∀ (e1 e2 : zl_E) (k1 k2 : Nat) (r : List zk_V), A.2.1 = (0, k2, e2) :: (0, k1, e1) :: r → ∀ (s : Nat → Int) (y : Int32), zl_in s A.2.2.2.1 → zk_cs s A.2.2.2.2 → y.toInt = zl_ev s e2 → P y)
    (ha : ∀ (K : zz_K) (p : Nat) (lv : List (Nat × Value)) (x y : Int32) (r : List Value) (w : zz_W), P y → act K (p, lv, .int y :: .int x :: r, w) = some (n, lv, .int (g x y) :: r, w))
    (hl : ∀ (s : Nat → Int) (B : List (Int × Int)) (x y : Int32) (e1 e2 : zl_E), zl_in s B → x.toInt = zl_ev s e1 → y.toInt = zl_ev s e2 → (bd B e1 e2).1 ≤ (g x y).toInt ∧ (g x y).toInt ≤ (bd B e1 e2).2) (h : zt_2b bd A = some A') : zk_S I act n A A' := by
  obtain ⟨L, T, F, B, C⟩ := A
  unfold zt_2b at h
  split at h
  · rename_i k2 e2 k1 e1 r hT
    have hT : T = (0, k2, e2) :: (0, k1, e1) :: r := hT
    subst hT
    refine ⟨zk_new_len h, fun K s f hG => ?_⟩
    obtain ⟨p, lv, st, w⟩ := f
    obtain ⟨g1, g2, g3, g4, g5, g6⟩ := hG
    obtain ⟨y, st1, q1, q2, q3⟩ := zk_st_int g2 rfl
    obtain ⟨x, st2, q4, q5, q6⟩ := zk_st_int q3 rfl
    have hst : st = .int y :: .int x :: st2 := by rw [← q4]; exact q1
    subst hst
    have hb := hl s B x y e1 e2 g4 q5 q2
    obtain ⟨-, s', hg, hs⟩ := zk_new_ok (I := I) (x := g x y) (n := n) (w := w) (lv := lv) h g1 q6 g3 g4 g5 g6 hb.1 hb.2
    exact ⟨s', _, ha K p lv x y st2 w (hP e1 e2 k1 k2 r rfl s y g4 g5 q2), rfl, hg, hs⟩
  · cases h
/-- one int makes one within bounds -/
def zt_1b (bd : List (Int × Int) → zl_E → Int × Int) (A : zk_A) : Option zk_A := match A.2.1 with
  | (0, _, e1) :: r => zk_new A r (bd A.2.2.2.1 e1).1 (bd A.2.2.2.1 e1).2
  | _ => none
theorem zt_1b_ok {I : zz_W → Prop} {A A' : zk_A} {n : Nat} {act : zz_A} {bd : List (Int × Int) → zl_E → Int × Int} {g : Int32 → Int32} (ha : ∀ (K : zz_K) (p : Nat) (lv : List (Nat × Value)) (x : Int32) (r : List Value) (w : zz_W), act K (p, lv, .int x :: r, w) = some (n, lv, .int (g x) :: r, w))
    (hl : ∀ (s : Nat → Int) (B : List (Int × Int)) (x : Int32) (e1 : zl_E), zl_in s B → x.toInt = zl_ev s e1 → (bd B e1).1 ≤ (g x).toInt ∧ (g x).toInt ≤ (bd B e1).2) (h : zt_1b bd A = some A') : zk_S I act n A A' := by
  obtain ⟨L, T, F, B, C⟩ := A
  unfold zt_1b at h
  split at h
  · rename_i k1 e1 r hT
    have hT : T = (0, k1, e1) :: r := hT
    subst hT
    refine ⟨zk_new_len h, fun K s f hG => ?_⟩
    obtain ⟨p, lv, st, w⟩ := f
    obtain ⟨g1, g2, g3, g4, g5, g6⟩ := hG
    obtain ⟨x, st2, q4, q5, q6⟩ := zk_st_int g2 rfl
    have q4 : st = .int x :: st2 := q4
    subst q4
    have hb := hl s B x e1 g4 q5
    obtain ⟨-, s', hg, hs⟩ := zk_new_ok (I := I) (x := g x) (n := n) (w := w) (lv := lv) h g1 q6 g3 g4 g5 g6 hb.1 hb.2
    exact ⟨s', _, ha K p lv x st2 w, rfl, hg, hs⟩
  · cases h
theorem zt_iadd_ok {I : zz_W → Prop} {A A' : zk_A} {n : Nat} (h : zt_2l zl_add A = some A') : zk_S I (za_iadd n) n A A' :=
  zt_2l_ok (g := fun x y => x + y) (fun K p lv x y r w => ze_iadd rfl) (fun s x y e1 e2 h1 h2 a b => by
    rw [zl_add_ev] at a b ⊢
    rw [Int32.toInt_add, h1, h2, zk_bmod a b]) h
theorem zt_isub_ok {I : zz_W → Prop} {A A' : zk_A} {n : Nat} (h : zt_2l zl_sub A = some A') : zk_S I (za_isub n) n A A' :=
  zt_2l_ok (g := fun x y => x - y) (fun K p lv x y r w => ze_isub rfl) (fun s x y e1 e2 h1 h2 a b => by
    rw [zl_sub_ev] at a b ⊢
    rw [Int32.toInt_sub, h1, h2, zk_bmod a b]) h
/-- any int -/
def zk_top (_ : List (Int × Int)) (_ _ : zl_E) : Int × Int := (-2147483648, 2147483647)
def zk_top1 (_ : List (Int × Int)) (_ : zl_E) : Int × Int := (-2147483648, 2147483647)
theorem zk_topE {x : Int32} : -2147483648 ≤ x.toInt ∧ x.toInt ≤ 2147483647 := ⟨zk_lo x, zk_hi x⟩
theorem zt_imul_ok {I : zz_W → Prop} {A A' : zk_A} {n : Nat} (h : zt_2b zk_top A = some A') : zk_S I (za_imul n) n A A' :=
  zt_2b_ok (g := fun x y => x * y) (P := fun _ => True) (fun _ _ _ _ _ _ _ _ _ _ _ => trivial) (fun K p lv x y r w _ => ze_imul rfl) (fun _ _ _ _ _ _ _ _ _ => zk_topE) h
theorem zt_ior_ok {I : zz_W → Prop} {A A' : zk_A} {n : Nat} (h : zt_2b zk_top A = some A') : zk_S I (za_ior n) n A A' :=
  zt_2b_ok (g := fun x y => x ||| y) (P := fun _ => True) (fun _ _ _ _ _ _ _ _ _ _ _ => trivial) (fun K p lv x y r w _ => ze_ior rfl) (fun _ _ _ _ _ _ _ _ _ => zk_topE) h
theorem zt_ixor_ok {I : zz_W → Prop} {A A' : zk_A} {n : Nat} (h : zt_2b zk_top A = some A') : zk_S I (za_ixor n) n A A' :=
  zt_2b_ok (g := fun x y => x ^^^ y) (P := fun _ => True) (fun _ _ _ _ _ _ _ _ _ _ _ => trivial) (fun K p lv x y r w _ => ze_ixor rfl) (fun _ _ _ _ _ _ _ _ _ => zk_topE) h
theorem zt_ishl_ok {I : zz_W → Prop} {A A' : zk_A} {n : Nat} (h : zt_2b zk_top A = some A') : zk_S I (za_ishl n) n A A' :=
  zt_2b_ok (g := fun x y => x <<< (y &&& 31)) (P := fun _ => True) (fun _ _ _ _ _ _ _ _ _ _ _ => trivial) (fun K p lv x y r w _ => ze_ishl rfl) (fun _ _ _ _ _ _ _ _ _ => zk_topE) h
theorem zt_ishr_ok {I : zz_W → Prop} {A A' : zk_A} {n : Nat} (h : zt_2b zk_top A = some A') : zk_S I (za_ishr n) n A A' :=
  zt_2b_ok (g := fun x y => x >>> (y &&& 31)) (P := fun _ => True) (fun _ _ _ _ _ _ _ _ _ _ _ => trivial) (fun K p lv x y r w _ => ze_ishr rfl) (fun _ _ _ _ _ _ _ _ _ => zk_topE) h
theorem zt_iushr_ok {I : zz_W → Prop} {A A' : zk_A} {n : Nat} (h : zt_2b zk_top A = some A') : zk_S I (za_iushr n) n A A' :=
  zt_2b_ok (g := fun x y => (x.toUInt32 >>> (y.toUInt32 &&& Int32.toUInt32 31)).toInt32) (P := fun _ => True) (fun _ _ _ _ _ _ _ _ _ _ _ => trivial) (fun K p lv x y r w _ => ze_iushr rfl) (fun _ _ _ _ _ _ _ _ _ => zk_topE) h
theorem zt_iand_ok {I : zz_W → Prop} {A A' : zk_A} {n : Nat} (h : zt_2b zk_top A = some A') : zk_S I (za_iand n) n A A' :=
  zt_2b_ok (g := fun x y => x &&& y) (P := fun _ => True) (fun _ _ _ _ _ _ _ _ _ _ _ => trivial) (fun K p lv x y r w _ => ze_iand rfl) (fun _ _ _ _ _ _ _ _ _ => zk_topE) h
theorem zt_ineg_ok {I : zz_W → Prop} {A A' : zk_A} {n : Nat} (h : zt_1b zk_top1 A = some A') : zk_S I (za_ineg n) n A A' :=
  zt_1b_ok (g := fun x => -x) (fun K p lv x r w => ze_ineg rfl) (fun _ _ _ _ _ _ => zk_topE) h
end
end
section
/-! ABSTRACT FRAMES, on: constants, locals, copies, branches, switches -/
noncomputable section
/-- an instruction takes a frame of A to one of the frames R -/
def zk_R (I : zz_W → Prop) (act : zz_A) (A : zk_A) (R : List (Nat × zk_A)) : Prop :=
  ∀ (K : zz_K) (s : Nat → Int) (f : zz_F), zk_G I s A f → ∃ (s' : Nat → Int) (f' : zz_F) (q : Nat × zk_A), act K f = some f' ∧ q ∈ R ∧ f'.1 = q.1 ∧ zk_G I s' q.2 f' ∧ A.2.2.2.1.length ≤ q.2.2.2.2.1.length ∧ ∀ j, j < A.2.2.2.1.length → s' j = s j
theorem zk_S_R {I : zz_W → Prop} {act : zz_A} {n : Nat} {A A' : zk_A} (h : zk_S I act n A A') : zk_R I act A [(n, A')] := by
  intro K s f hG
  obtain ⟨s', f', e1, e2, e3, e4⟩ := h.2 K s f hG
  exact ⟨s', f', (n, A'), e1, List.mem_cons_self, e2, e3, h.1, e4⟩
/-- nothing but operands changes -/
theorem zk_S_st {I : zz_W → Prop} {act : zz_A} {n : Nat} {L : List (Nat × zk_V)} {T T' : List zk_V} {F : List ((Nat × Nat) × zk_V)} {B : List (Int × Int)} {C : List zl_E} (h : ∀ (K : zz_K) (s : Nat → Int) (p : Nat) (lv : List (Nat × Value)) (st : List Value) (w : zz_W), zk_lc s L lv → zk_st s T st → ∃ st', act K (p, lv, st, w) = some (n, lv, st', w) ∧ zk_st s T' st') : zk_S I act n (L, T, F, B, C) (L, T', F, B, C) := by
  refine ⟨Nat.le_refl _, fun K s f hG => ?_⟩
  obtain ⟨p, lv, st, w⟩ := f
  obtain ⟨g1, g2, g3, g4, g5, g6⟩ := hG
  obtain ⟨st', e1, e2⟩ := h K s p lv st w g1 g2
  exact ⟨s, _, e1, rfl, ⟨g1, e2, g3, g4, g5, g6⟩, fun _ _ => rfl⟩
def zk_push (A : zk_A) (a : zk_V) : zk_A := (A.1, a :: A.2.1, A.2.2.1, A.2.2.2.1, A.2.2.2.2)
theorem zt_cI_ok {I : zz_W → Prop} {A : zk_A} {n : Nat} {v : Int32} : zk_S I (za_const (.int v) n) n A (zk_push A (0, 0, zl_con v.toInt)) :=
  zk_S_st (fun K s p lv st w _ h => ⟨.int v :: st, rfl, zk_v_int (zl_con_ev s _).symm, h⟩)
theorem zt_cL_ok {I : zz_W → Prop} {A : zk_A} {n : Nat} {v : Int64} : zk_S I (za_const (.long v) n) n A (zk_push A (1, 1, zl_con v.toInt)) :=
  zk_S_st (fun K s p lv st w _ h => ⟨.long v :: st, rfl, zk_v_lv (zl_con_ev s _).symm, h⟩)
theorem zt_cR_ok {I : zz_W → Prop} {A : zk_A} {n k : Nat} : zk_S I (za_const (.ref k) n) n A (zk_push A (2, k, zl_con 0)) :=
  zk_S_st (fun K s p lv st w _ h => ⟨.ref k :: st, rfl, zk_v_ref, h⟩)
theorem zt_cN_ok {I : zz_W → Prop} {A : zk_A} {n : Nat} : zk_S I (za_const .null n) n A (zk_push A (3, 0, zl_con 0)) :=
  zk_S_st (fun K s p lv st w _ h => ⟨.null :: st, rfl, zk_v_null, h⟩)
/-- the local at i -/
def zk_lk (L : List (Nat × zk_V)) (i : Nat) : Option zk_V := match L with
  | [] => none
  | q :: r => cond (Nat.beq q.1 i) (some q.2) (zk_lk r i)
theorem zk_lk_mem {i : Nat} {a : zk_V} : ∀ {L : List (Nat × zk_V)}, zk_lk L i = some a → (i, a) ∈ L
  | [], h => by cases h
  | q :: r, h => by
    unfold zk_lk at h
    cases hb : Nat.beq q.1 i with
    | true =>
      rw [hb] at h
      cases h
      rw [← zz_beq hb]
      exact List.mem_cons_self
    | false =>
      rw [hb] at h
      exact List.mem_cons_of_mem _ (zk_lk_mem h)
def zt_iload (i : Nat) (A : zk_A) : Option zk_A := match zk_lk A.1 i with
  | some (0, k, e) => some (zk_push A (0, k, e))
  | _ => none
theorem zt_iload_ok {I : zz_W → Prop} {A A' : zk_A} {i n : Nat} (h : zt_iload i A = some A') : zk_S I (za_iload i n) n A A' := by
  unfold zt_iload at h
  split at h
  · rename_i k e hk
    cases h
    refine zk_S_st (fun K s p lv st w hL hT => ?_)
    obtain ⟨v, e1, e2⟩ := hL _ (zk_lk_mem hk)
    obtain ⟨x, e3, e4⟩ := e2.1 rfl
    subst e3
    refine ⟨.int x :: st, ?_, e2, hT⟩
    have e1 : zz_lg lv i = some (.int x) := e1
    show (match zz_lg lv i with | some (.int v) => some ((n, lv, .int v :: st, w) : zz_F) | _ => none) = _
    rw [e1]
  · cases h
def zt_lload (i : Nat) (A : zk_A) : Option zk_A := match zk_lk A.1 i with
  | some (1, k, e) => some (zk_push A (1, k, e))
  | _ => none
theorem zt_lload_ok {I : zz_W → Prop} {A A' : zk_A} {i n : Nat} (h : zt_lload i A = some A') : zk_S I (za_lload i n) n A A' := by
  unfold zt_lload at h
  split at h
  · rename_i k e hk
    cases h
    refine zk_S_st (fun K s p lv st w hL hT => ?_)
    obtain ⟨v, e1, e2⟩ := hL _ (zk_lk_mem hk)
    obtain ⟨x, e3, -⟩ := e2.2.1 rfl
    subst e3
    refine ⟨.long x :: st, ?_, e2, hT⟩
    have e1 : zz_lg lv i = some (.long x) := e1
    show (match zz_lg lv i with | some (.long v) => some ((n, lv, .long v :: st, w) : zz_F) | _ => none) = _
    rw [e1]
  · cases h
def zt_aload (i : Nat) (A : zk_A) : Option zk_A := match zk_lk A.1 i with
  | some (2, k, e) => some (zk_push A (2, k, e))
  | some (3, k, e) => some (zk_push A (3, k, e))
  | _ => none
theorem zt_aload_ok {I : zz_W → Prop} {A A' : zk_A} {i n : Nat} (h : zt_aload i A = some A') : zk_S I (za_aload i n) n A A' := by
  unfold zt_aload at h
  split at h
  · rename_i k e hk
    cases h
    refine zk_S_st (fun K s p lv st w hL hT => ?_)
    obtain ⟨v, e1, e2⟩ := hL _ (zk_lk_mem hk)
    have e3 : v = .ref k := e2.2.2.1 rfl
    subst e3
    refine ⟨.ref k :: st, ?_, e2, hT⟩
    have e1 : zz_lg lv i = some (.ref k) := e1
    show (match zz_lg lv i with | some (.ref v) => some ((n, lv, .ref v :: st, w) : zz_F) | some .null => some (n, lv, .null :: st, w) | _ => none) = _
    rw [e1]
  · rename_i k e hk
    cases h
    refine zk_S_st (fun K s p lv st w hL hT => ?_)
    obtain ⟨v, e1, e2⟩ := hL _ (zk_lk_mem hk)
    have e3 : v = .null := e2.2.2.2 rfl
    subst e3
    refine ⟨.null :: st, ?_, e2, hT⟩
    have e1 : zz_lg lv i = some .null := e1
    show (match zz_lg lv i with | some (.ref v) => some ((n, lv, .ref v :: st, w) : zz_F) | some .null => some (n, lv, .null :: st, w) | _ => none) = _
    rw [e1]
  · cases h
/-- whether a value is one that a long's second place isn't -/
def zk_c1 (t : Nat) : Bool := Nat.beq t 0 || (Nat.beq t 2 || Nat.beq t 3)
theorem zk_c1_ok {s : Nat → Int} {a : zk_V} {v : Value} (h : zk_c1 a.1 = true) (hv : zk_v s a v) : v.category = 1 := by
  unfold zk_c1 at h
  rcases Bool.or_eq_true_iff.mp h with h | h
  · obtain ⟨x, e, -⟩ := hv.1 (zz_beq h)
    rw [e]; rfl
  · rcases Bool.or_eq_true_iff.mp h with h | h
    · rw [hv.2.2.1 (zz_beq h)]; rfl
    · rw [hv.2.2.2 (zz_beq h)]; rfl
/-- the locals that a store to i leaves -/
def zk_kp (two : Bool) (i : Nat) (q : Nat × zk_V) : Bool := !(Nat.beq q.1 i) && (!(two && Nat.beq q.1 (i + 1)) && (!(Nat.beq (q.1 + 1) i) || zk_c1 q.2.1))
theorem zk_lg_kp {two : Bool} {i k : Nat} {v : Value} (h2 : zz_lk two i (k, v) = true) : ∀ {l : List (Nat × Value)}, zz_lg l k = some v → zz_lg (l.filter (zz_lk two i)) k = some v
  | [], h => by cases h
  | q :: r, h => by
    unfold zz_lg at h
    split at h
    · rename_i hq
      cases h
      have hk : q.1 = k := by simpa using hq
      have hq2 : q = (k, q.2) := by rw [← hk]
      rw [List.filter_cons_of_pos (by rw [hq2]; exact h2)]
      unfold zz_lg
      rw [if_pos hq]
    · rename_i hq
      have ih := zk_lg_kp h2 h
      by_cases hp : zz_lk two i q = true
      · rw [List.filter_cons_of_pos hp]
        unfold zz_lg
        rw [if_neg hq]
        exact ih
      · rw [List.filter_cons_of_neg hp]
        exact ih
theorem zk_nbeq {a b : Nat} (h : (!(Nat.beq a b)) = true) : a ≠ b := by
  intro e
  subst e
  rw [Nat.beq_refl] at h
  cases h
theorem zk_lc_kp {s : Nat → Int} {two : Bool} {i : Nat} {L : List (Nat × zk_V)} {lv : List (Nat × Value)} {a : zk_V} {v : Value} (h : zk_lc s L lv) (ha : zk_v s a v) : zk_lc s ((i, a) :: L.filter (zk_kp two i)) ((i, v) :: lv.filter (zz_lk two i)) := by
  intro q hq
  rcases List.mem_cons.mp hq with e | hq
  · subst e
    exact ⟨v, by unfold zz_lg; rw [if_pos (by simp)], ha⟩
  · obtain ⟨hq1, hq2⟩ := List.mem_filter.mp hq
    obtain ⟨u, e1, e2⟩ := h q hq1
    unfold zk_kp at hq2
    obtain ⟨c1, hq2⟩ := zz_and hq2
    obtain ⟨c2, c3⟩ := zz_and hq2
    have n1 := zk_nbeq c1
    refine ⟨u, ?_, e2⟩
    unfold zz_lg
    rw [if_neg (by simpa using fun e => n1 e.symm)]
    refine zk_lg_kp ?_ e1
    unfold zz_lk
    have b1 : (q.1 == i) = false := by simpa using n1
    have b2 : (two && (q.1 == i + 1)) = false := by
      cases two with
      | false => rfl
      | true =>
        have : (!(Nat.beq q.1 (i + 1))) = true := c2
        have := zk_nbeq this
        simpa using this
    have b3 : (q.1 + 1 == i && u.category == 2) = false := by
      rcases Bool.or_eq_true_iff.mp c3 with c3 | c3
      · have := zk_nbeq c3
        have : (q.1 + 1 == i) = false := by simpa using this
        rw [this]
        rfl
      · have := zk_c1_ok c3 e2
        rw [this]
        simp
    show (!(q.1 == i) && (!(two && (q.1 == i + 1)) && !(q.1 + 1 == i && u.category == 2))) = true
    rw [b1, b2, b3]
    rfl
def zk_store (two : Bool) (i : Nat) (A : zk_A) : Option zk_A := match A.2.1 with
  | a :: T => some ((i, a) :: A.1.filter (zk_kp two i), T, A.2.2.1, A.2.2.2.1, A.2.2.2.2)
  | _ => none
def zt_istore (i : Nat) (A : zk_A) : Option zk_A := match A.2.1 with
  | (0, _, _) :: _ => zk_store false i A
  | _ => none
theorem zt_istore_ok {I : zz_W → Prop} {A A' : zk_A} {i n : Nat} (h : zt_istore i A = some A') : zk_S I (za_istore i n) n A A' := by
  obtain ⟨L, T, F, B, C⟩ := A
  unfold zt_istore at h
  split at h
  · rename_i k e r hT
    have hT : T = (0, k, e) :: r := hT
    subst hT
    cases h
    refine ⟨Nat.le_refl _, fun K s f hG => ?_⟩
    obtain ⟨p, lv, st, w⟩ := f
    obtain ⟨g1, g2, g3, g4, g5, g6⟩ := hG
    obtain ⟨x, st2, q4, q5, q6⟩ := zk_st_int g2 rfl
    have q4 : st = .int x :: st2 := q4
    subst q4
    exact ⟨s, (n, (i, .int x) :: lv.filter (zz_lk false i), st2, w), zz_lf_eq false i lv _, rfl, ⟨zk_lc_kp g1 (zk_v_int q5), q6, g3, g4, g5, g6⟩, fun _ _ => rfl⟩
  · cases h
def zt_lstore (i : Nat) (A : zk_A) : Option zk_A := match A.2.1 with
  | (1, _, _) :: _ => zk_store true i A
  | _ => none
theorem zt_lstore_ok {I : zz_W → Prop} {A A' : zk_A} {i n : Nat} (h : zt_lstore i A = some A') : zk_S I (za_lstore i n) n A A' := by
  obtain ⟨L, T, F, B, C⟩ := A
  unfold zt_lstore at h
  split at h
  · rename_i k e r hT
    have hT : T = (1, k, e) :: r := hT
    subst hT
    cases h
    refine ⟨Nat.le_refl _, fun K s f hG => ?_⟩
    obtain ⟨p, lv, st, w⟩ := f
    obtain ⟨g1, g2, g3, g4, g5, g6⟩ := hG
    obtain ⟨v, st2, q4, q5, q6⟩ := zk_st_cons g2
    obtain ⟨x, e3, -⟩ := q5.2.1 rfl
    subst e3
    have q4 : st = .long x :: st2 := q4
    subst q4
    exact ⟨s, (n, (i, .long x) :: lv.filter (zz_lk true i), st2, w), zz_lf_eq true i lv _, rfl, ⟨zk_lc_kp g1 q5, q6, g3, g4, g5, g6⟩, fun _ _ => rfl⟩
  · cases h
def zt_astore (i : Nat) (A : zk_A) : Option zk_A := match A.2.1 with
  | (2, _, _) :: _ => zk_store false i A
  | (3, _, _) :: _ => zk_store false i A
  | _ => none
theorem zt_astore_ok {I : zz_W → Prop} {A A' : zk_A} {i n : Nat} (h : zt_astore i A = some A') : zk_S I (za_astore i n) n A A' := by
  obtain ⟨L, T, F, B, C⟩ := A
  unfold zt_astore at h
  split at h
  · rename_i k e r hT
    have hT : T = (2, k, e) :: r := hT
    subst hT
    cases h
    refine ⟨Nat.le_refl _, fun K s f hG => ?_⟩
    obtain ⟨p, lv, st, w⟩ := f
    obtain ⟨g1, g2, g3, g4, g5, g6⟩ := hG
    obtain ⟨v, st2, q4, q5, q6⟩ := zk_st_cons g2
    have e3 : v = .ref k := q5.2.2.1 rfl
    subst e3
    have q4 : st = .ref k :: st2 := q4
    subst q4
    exact ⟨s, (n, (i, .ref k) :: lv.filter (zz_lk false i), st2, w), zz_lf_eq false i lv _, rfl, ⟨zk_lc_kp g1 q5, q6, g3, g4, g5, g6⟩, fun _ _ => rfl⟩
  · rename_i k e r hT
    have hT : T = (3, k, e) :: r := hT
    subst hT
    cases h
    refine ⟨Nat.le_refl _, fun K s f hG => ?_⟩
    obtain ⟨p, lv, st, w⟩ := f
    obtain ⟨g1, g2, g3, g4, g5, g6⟩ := hG
    obtain ⟨v, st2, q4, q5, q6⟩ := zk_st_cons g2
    have e3 : v = .null := q5.2.2.2 rfl
    subst e3
    have q4 : st = .null :: st2 := q4
    subst q4
    exact ⟨s, (n, (i, .null) :: lv.filter (zz_lk false i), st2, w), zz_lf_eq false i lv _, rfl, ⟨zk_lc_kp g1 q5, q6, g3, g4, g5, g6⟩, fun _ _ => rfl⟩
  · cases h
def zt_iinc (i : Nat) (c : Int) (A : zk_A) : Option zk_A := match zk_lk A.1 i with
  | some (0, _, e) => match zk_lin A A.2.1 (zl_add e (zl_con c)) with
    | some A1 => zk_store false i A1
    | none => none
  | _ => none
theorem zt_iinc_ok {I : zz_W → Prop} {A A' : zk_A} {i n : Nat} {v : Int32} (h : zt_iinc i v.toInt A = some A') : zk_S I (za_iinc i v n) n A A' := by
  unfold zt_iinc at h
  split at h
  · rename_i k e hk
    split at h
    · rename_i A1 hA
      refine ⟨?_, fun K s f hG => ?_⟩
      · have h1 := zk_lin_len hA
        unfold zk_store at h
        split at h
        · cases h
          exact h1
        · cases h
      · obtain ⟨p, lv, st, w⟩ := f
        obtain ⟨g1, g2, g3, g4, g5, g6⟩ := hG
        obtain ⟨u, e1, e2⟩ := g1 _ (zk_lk_mem hk)
        obtain ⟨x, e3, e4⟩ := e2.1 rfl
        subst e3
        obtain ⟨-, s', hg, hs⟩ := zk_lin_ok (I := I) (x := x + v) (n := n) (w := w) (lv := lv) hA g1 g2 g3 g4 g5 g6 (fun a b => by
          rw [zl_add_ev, zl_con_ev] at a b ⊢
          rw [Int32.toInt_add, e4, zk_bmod a b])
        unfold zk_store at h
        split at h
        · rename_i a T hT
          cases h
          obtain ⟨j1, j2, j3, j4, j5, j6⟩ := hg
          rw [hT] at j2
          have e1 : zz_lg lv i = some (.int x) := e1
          refine ⟨s', (n, (i, .int (x + v)) :: lv.filter (zz_lk false i), st, w), ?_, rfl, ⟨zk_lc_kp j1 j2.1, j2.2, j3, j4, j5, j6⟩, hs⟩
          show (match zz_lg lv i with | some (.int x) => zz_fI (x + v) (fun z => zz_lf false i lv (fun l => some ((n, (i, .int z) :: l, st, w) : zz_F))) | _ => none) = _
          rw [e1]
          show zz_fI (x + v) (fun z => zz_lf false i lv (fun l => some ((n, (i, .int z) :: l, st, w) : zz_F))) = _
          rw [zz_fI_eq, zz_lf_eq]
        · cases h
    · cases h
  · cases h
def zt_dup (A : zk_A) : Option zk_A := match A.2.1 with
  | a :: T => cond (zk_c1 a.1) (some (A.1, a :: a :: T, A.2.2.1, A.2.2.2.1, A.2.2.2.2)) none
  | _ => none
theorem zt_dup_ok {I : zz_W → Prop} {A A' : zk_A} {n : Nat} (h : zt_dup A = some A') : zk_S I (za_dup n) n A A' := by
  obtain ⟨L, T, F, B, C⟩ := A
  unfold zt_dup at h
  split at h
  · rename_i a r hT
    have hT : T = a :: r := hT
    subst hT
    obtain ⟨hc, h⟩ := zz_cond h
    cases h
    refine zk_S_st (fun K s p lv st w hL hT => ?_)
    obtain ⟨v, st2, q4, q5, q6⟩ := zk_st_cons hT
    subst q4
    exact ⟨v :: v :: st2, if_pos (zk_c1_ok hc q5), q5, q5, q6⟩
  · cases h
def zt_dup_x1 (A : zk_A) : Option zk_A := match A.2.1 with
  | a :: b :: T => cond (zk_c1 a.1 && zk_c1 b.1) (some (A.1, a :: b :: a :: T, A.2.2.1, A.2.2.2.1, A.2.2.2.2)) none
  | _ => none
theorem zt_dup_x1_ok {I : zz_W → Prop} {A A' : zk_A} {n : Nat} (h : zt_dup_x1 A = some A') : zk_S I (za_dup_x1 n) n A A' := by
  obtain ⟨L, T, F, B, C⟩ := A
  unfold zt_dup_x1 at h
  split at h
  · rename_i a b r hT
    have hT : T = a :: b :: r := hT
    subst hT
    obtain ⟨hc, h⟩ := zz_cond h
    obtain ⟨c1, c2⟩ := zz_and hc
    cases h
    refine zk_S_st (fun K s p lv st w hL hT => ?_)
    obtain ⟨v, st2, q4, q5, q6⟩ := zk_st_cons hT
    obtain ⟨u, st3, q7, q8, q9⟩ := zk_st_cons q6
    subst q4
    subst q7
    exact ⟨v :: u :: v :: st3, if_pos ⟨zk_c1_ok c1 q5, zk_c1_ok c2 q8⟩, q5, q8, q5, q9⟩
  · cases h
def zt_dup2 (A : zk_A) : Option zk_A := match A.2.1 with
  | a :: b :: T => cond (zk_c1 a.1 && zk_c1 b.1) (some (A.1, a :: b :: a :: b :: T, A.2.2.1, A.2.2.2.1, A.2.2.2.2)) none
  | _ => none
theorem zt_dup2_ok {I : zz_W → Prop} {A A' : zk_A} {n : Nat} (h : zt_dup2 A = some A') : zk_S I (za_dup2_11 n) n A A' := by
  obtain ⟨L, T, F, B, C⟩ := A
  unfold zt_dup2 at h
  split at h
  · rename_i a b r hT
    have hT : T = a :: b :: r := hT
    subst hT
    obtain ⟨hc, h⟩ := zz_cond h
    obtain ⟨c1, c2⟩ := zz_and hc
    cases h
    refine zk_S_st (fun K s p lv st w hL hT => ?_)
    obtain ⟨v, st2, q4, q5, q6⟩ := zk_st_cons hT
    obtain ⟨u, st3, q7, q8, q9⟩ := zk_st_cons q6
    subst q4
    subst q7
    exact ⟨v :: u :: v :: u :: st3, if_pos ⟨zk_c1_ok c1 q5, zk_c1_ok c2 q8⟩, q5, q8, q5, q8, q9⟩
  · cases h
def zt_pop (A : zk_A) : Option zk_A := match A.2.1 with
  | a :: T => cond (zk_c1 a.1) (some (A.1, T, A.2.2.1, A.2.2.2.1, A.2.2.2.2)) none
  | _ => none
theorem zt_pop_ok {I : zz_W → Prop} {A A' : zk_A} {n : Nat} (h : zt_pop A = some A') : zk_S I (za_pop n) n A A' := by
  obtain ⟨L, T, F, B, C⟩ := A
  unfold zt_pop at h
  split at h
  · rename_i a r hT
    have hT : T = a :: r := hT
    subst hT
    obtain ⟨hc, h⟩ := zz_cond h
    cases h
    refine zk_S_st (fun K s p lv st w hL hT => ?_)
    obtain ⟨v, st2, q4, q5, q6⟩ := zk_st_cons hT
    subst q4
    exact ⟨st2, if_pos (zk_c1_ok hc q5), q6⟩
  · cases h
theorem zt_goto_ok {I : zz_W → Prop} {A : zk_A} {n : Nat} : zk_S I (za_goto n) n A A :=
  zk_S_st (fun K s p lv st w _ h => ⟨st, rfl, h⟩)
/-- with sums that are not below 0 besides; none if one of them can't be -/
def zk_and (A : zk_A) (T : List zk_V) (hs : List Nat) (cs : List zl_E) : List zk_A :=
  cond (cs.any (fun c => zl_en A.2.2.2.1 A.2.2.2.2 hs (zl_sub (zl_con (-1)) c))) [] [(A.1, T, A.2.2.1, A.2.2.2.1, cs ++ A.2.2.2.2)]
theorem zk_and_ok {I : zz_W → Prop} {A : zk_A} {T : List zk_V} {hs : List Nat} {cs : List zl_E} {s : Nat → Int} {n : Nat} {lv : List (Nat × Value)} {r : List Value} {w : zz_W} (h1 : zk_lc s A.1 lv) (h2 : zk_st s T r) (h3 : zk_fl s A.2.2.1 w) (h4 : zl_in s A.2.2.2.1) (h5 : zk_cs s A.2.2.2.2) (h6 : I w) (hc : zk_cs s cs) : ∃ A' ∈ zk_and A T hs cs, zk_G I s A' (n, lv, r, w) ∧ A.2.2.2.1.length ≤ A'.2.2.2.1.length := by
  unfold zk_and
  cases hb : cs.any (fun c => zl_en A.2.2.2.1 A.2.2.2.2 hs (zl_sub (zl_con (-1)) c)) with
  | true =>
    obtain ⟨c, c1, c2⟩ := List.any_eq_true.mp hb
    have h7 := zl_en_ok h4 h5 c2
    rw [zl_sub_ev, zl_con_ev] at h7
    have h8 := hc c c1
    omega
  | false =>
    refine ⟨_, List.mem_cons_self, ⟨h1, h2, h3, h4, fun c hc' => ?_, h6⟩, Nat.le_refl _⟩
    rcases List.mem_append.mp hc' with h | h
    · exact hc c h
    · exact h5 c h
/-- of two that are not the same the one that can't be less is more -/
def zk_ne (A : zk_A) (hs : List Nat) (e1 e2 : zl_E) : List zl_E :=
  cond (zl_en A.2.2.2.1 A.2.2.2.2 hs (zl_sub e1 e2)) [zl_sub (zl_sub e1 e2) (zl_con 1)] (cond (zl_en A.2.2.2.1 A.2.2.2.2 hs (zl_sub e2 e1)) [zl_sub (zl_sub e2 e1) (zl_con 1)] [])
theorem zk_ne_ok {A : zk_A} {hs : List Nat} {e1 e2 : zl_E} {s : Nat → Int} (h4 : zl_in s A.2.2.2.1) (h5 : zk_cs s A.2.2.2.2) (h : zl_ev s e1 ≠ zl_ev s e2) : zk_cs s (zk_ne A hs e1 e2) := by
  unfold zk_ne
  intro c hc
  cases hb : zl_en A.2.2.2.1 A.2.2.2.2 hs (zl_sub e1 e2) with
  | true =>
    rw [hb] at hc
    have hc : c ∈ [zl_sub (zl_sub e1 e2) (zl_con 1)] := hc
    rw [List.mem_singleton.mp hc]
    have h7 := zl_en_ok h4 h5 hb
    rw [zl_sub_ev] at h7
    rw [zl_sub_ev, zl_sub_ev, zl_con_ev]
    omega
  | false =>
    rw [hb] at hc
    cases hb2 : zl_en A.2.2.2.1 A.2.2.2.2 hs (zl_sub e2 e1) with
    | true =>
      rw [hb2] at hc
      have hc : c ∈ [zl_sub (zl_sub e2 e1) (zl_con 1)] := hc
      rw [List.mem_singleton.mp hc]
      have h7 := zl_en_ok h4 h5 hb2
      rw [zl_sub_ev] at h7
      rw [zl_sub_ev, zl_sub_ev, zl_con_ev]
      omega
    | false =>
      rw [hb2] at hc
      cases hc
/-- what holds where e1 stands to e2 so: 0 same, 1 not, 2 less, 3 not less, 4 more, 5 not more -/
def zk_rel (A : zk_A) (hs : List Nat) (c : Nat) (e1 e2 : zl_E) : List zl_E := match c with
  | 0 => [zl_sub e1 e2, zl_sub e2 e1]
  | 1 => zk_ne A hs e1 e2
  | 2 => [zl_sub (zl_sub e2 e1) (zl_con 1)]
  | 3 => [zl_sub e1 e2]
  | 4 => [zl_sub (zl_sub e1 e2) (zl_con 1)]
  | _ => [zl_sub e2 e1]
def zk_holds (c : Nat) (a b : Int) : Prop := match c with
  | 0 => a = b
  | 1 => a ≠ b
  | 2 => a < b
  | 3 => b ≤ a
  | 4 => b < a
  | _ => a ≤ b
theorem zk_rel_ok {A : zk_A} {hs : List Nat} {c : Nat} {e1 e2 : zl_E} {s : Nat → Int} (h4 : zl_in s A.2.2.2.1) (h5 : zk_cs s A.2.2.2.2) (h : zk_holds c (zl_ev s e1) (zl_ev s e2)) : zk_cs s (zk_rel A hs c e1 e2) := by
  unfold zk_rel
  unfold zk_holds at h
  split
  · intro q hq
    have h : zl_ev s e1 = zl_ev s e2 := h
    rcases List.mem_cons.mp hq with e | hq
    · rw [e, zl_sub_ev]; omega
    · rw [List.mem_singleton.mp hq, zl_sub_ev]; omega
  · exact zk_ne_ok h4 h5 h
  · intro q hq
    have h : zl_ev s e1 < zl_ev s e2 := h
    rw [List.mem_singleton.mp hq, zl_sub_ev, zl_sub_ev, zl_con_ev]
    omega
  · intro q hq
    have h : zl_ev s e2 ≤ zl_ev s e1 := h
    rw [List.mem_singleton.mp hq, zl_sub_ev]
    omega
  · intro q hq
    have h : zl_ev s e2 < zl_ev s e1 := h
    rw [List.mem_singleton.mp hq, zl_sub_ev, zl_sub_ev, zl_con_ev]
    omega
  · rename_i c0 c1 c2 c3 c4
    intro q hq
    have h : zl_ev s e1 ≤ zl_ev s e2 := by
      split at h
      · exact absurd rfl c0
      · exact absurd rfl c1
      · exact absurd rfl c2
      · exact absurd rfl c3
      · exact absurd rfl c4
      · exact h
    rw [List.mem_singleton.mp hq, zl_sub_ev]
    omega
def zk_not (c : Nat) : Nat := match c with
  | 0 => 1
  | 1 => 0
  | 2 => 3
  | 3 => 2
  | 4 => 5
  | _ => 4
/-- a branch on two ints, or on one and 0: where it goes, with what is known there -/
def zk_br (A : zk_A) (T : List zk_V) (hs : List Nat) (c t n : Nat) (e1 e2 : zl_E) : List (Nat × zk_A) :=
  (zk_and A T hs (zk_rel A hs c e1 e2)).map (fun B => (t, B)) ++ (zk_and A T hs (zk_rel A hs (zk_not c) e1 e2)).map (fun B => (n, B))
def zt_icmp (hs : List Nat) (c t n : Nat) (A : zk_A) : Option (List (Nat × zk_A)) := match A.2.1 with
  | (0, _, e2) :: (0, _, e1) :: T => some (zk_br A T hs c t n e1 e2)
  | _ => none
def zt_if (hs : List Nat) (c t n : Nat) (A : zk_A) : Option (List (Nat × zk_A)) := match A.2.1 with
  | (0, _, e1) :: T => some (zk_br A T hs c t n e1 (zl_con 0))
  | _ => none
theorem zt_icmp_ok {I : zz_W → Prop} {A : zk_A} {R : List (Nat × zk_A)} {hs : List Nat} {c t n : Nat} {act : zz_A} (ha : ∀ (K : zz_K) (p : Nat) (lv : List (Nat × Value)) (x y : Int32) (r : List Value) (w : zz_W), (zk_holds c x.toInt y.toInt ∧ act K (p, lv, .int y :: .int x :: r, w) = some (t, lv, r, w)) ∨ (zk_holds (zk_not c) x.toInt y.toInt ∧ act K (p, lv, .int y :: .int x :: r, w) = some (n, lv, r, w))) (h : zt_icmp hs c t n A = some R) : zk_R I act A R := by
  obtain ⟨L, T, F, B, C⟩ := A
  unfold zt_icmp at h
  split at h
  · rename_i k2 e2 k1 e1 r hT
    have hT : T = (0, k2, e2) :: (0, k1, e1) :: r := hT
    subst hT
    cases h
    intro K s f hG
    obtain ⟨p, lv, st, w⟩ := f
    obtain ⟨g1, g2, g3, g4, g5, g6⟩ := hG
    obtain ⟨y, st1, q1, q2, q3⟩ := zk_st_int g2 rfl
    obtain ⟨x, st2, q4, q5, q6⟩ := zk_st_int q3 rfl
    have hst : st = .int y :: .int x :: st2 := by rw [← q4]; exact q1
    subst hst
    rcases ha K p lv x y st2 w with ⟨h1, h2⟩ | ⟨h1, h2⟩
    · rw [q5, q2] at h1
      obtain ⟨A', m1, m2, m3⟩ := zk_and_ok (I := I) (A := (L, (0, k2, e2) :: (0, k1, e1) :: r, F, B, C)) (T := r) (hs := hs) (n := t) (w := w) g1 q6 g3 g4 g5 g6 (zk_rel_ok (A := (L, (0, k2, e2) :: (0, k1, e1) :: r, F, B, C)) (hs := hs) g4 g5 h1)
      exact ⟨s, _, (t, A'), h2, List.mem_append_left _ (List.mem_map.mpr ⟨A', m1, rfl⟩), rfl, m2, m3, fun _ _ => rfl⟩
    · rw [q5, q2] at h1
      obtain ⟨A', m1, m2, m3⟩ := zk_and_ok (I := I) (A := (L, (0, k2, e2) :: (0, k1, e1) :: r, F, B, C)) (T := r) (hs := hs) (n := n) (w := w) g1 q6 g3 g4 g5 g6 (zk_rel_ok (A := (L, (0, k2, e2) :: (0, k1, e1) :: r, F, B, C)) (hs := hs) g4 g5 h1)
      exact ⟨s, _, (n, A'), h2, List.mem_append_right _ (List.mem_map.mpr ⟨A', m1, rfl⟩), rfl, m2, m3, fun _ _ => rfl⟩
  · cases h
theorem zt_if_ok {I : zz_W → Prop} {A : zk_A} {R : List (Nat × zk_A)} {hs : List Nat} {c t n : Nat} {act : zz_A} (ha : ∀ (K : zz_K) (p : Nat) (lv : List (Nat × Value)) (x : Int32) (r : List Value) (w : zz_W), (zk_holds c x.toInt 0 ∧ act K (p, lv, .int x :: r, w) = some (t, lv, r, w)) ∨ (zk_holds (zk_not c) x.toInt 0 ∧ act K (p, lv, .int x :: r, w) = some (n, lv, r, w))) (h : zt_if hs c t n A = some R) : zk_R I act A R := by
  obtain ⟨L, T, F, B, C⟩ := A
  unfold zt_if at h
  split at h
  · rename_i k1 e1 r hT
    have hT : T = (0, k1, e1) :: r := hT
    subst hT
    cases h
    intro K s f hG
    obtain ⟨p, lv, st, w⟩ := f
    obtain ⟨g1, g2, g3, g4, g5, g6⟩ := hG
    obtain ⟨x, st2, q4, q5, q6⟩ := zk_st_int g2 rfl
    have q4 : st = .int x :: st2 := q4
    subst q4
    have z : zl_ev s (zl_con 0) = 0 := zl_con_ev s 0
    rcases ha K p lv x st2 w with ⟨h1, h2⟩ | ⟨h1, h2⟩
    · rw [q5, ← z] at h1
      obtain ⟨A', m1, m2, m3⟩ := zk_and_ok (I := I) (A := (L, (0, k1, e1) :: r, F, B, C)) (T := r) (hs := hs) (n := t) (w := w) g1 q6 g3 g4 g5 g6 (zk_rel_ok (A := (L, (0, k1, e1) :: r, F, B, C)) (hs := hs) g4 g5 h1)
      exact ⟨s, _, (t, A'), h2, List.mem_append_left _ (List.mem_map.mpr ⟨A', m1, rfl⟩), rfl, m2, m3, fun _ _ => rfl⟩
    · rw [q5, ← z] at h1
      obtain ⟨A', m1, m2, m3⟩ := zk_and_ok (I := I) (A := (L, (0, k1, e1) :: r, F, B, C)) (T := r) (hs := hs) (n := n) (w := w) g1 q6 g3 g4 g5 g6 (zk_rel_ok (A := (L, (0, k1, e1) :: r, F, B, C)) (hs := hs) g4 g5 h1)
      exact ⟨s, _, (n, A'), h2, List.mem_append_right _ (List.mem_map.mpr ⟨A', m1, rfl⟩), rfl, m2, m3, fun _ _ => rfl⟩
  · cases h
end
end
section
/-! ABSTRACT FRAMES, on: each branch, switches -/
noncomputable section
theorem zk_i_eq {x y : Int32} : x = y ↔ x.toInt = y.toInt := Int32.toInt_inj.symm
theorem zk_i_lt {x y : Int32} : x < y ↔ x.toInt < y.toInt := Int32.lt_iff_toInt_lt
theorem zk_i_le {x y : Int32} : x ≤ y ↔ x.toInt ≤ y.toInt := Int32.le_iff_toInt_le
theorem zt_icmp_eq_ok {I : zz_W → Prop} {A : zk_A} {R : List (Nat × zk_A)} {hs : List Nat} {t n : Nat} (h : zt_icmp hs 0 t n A = some R) : zk_R I (za_icmp_eq t n) A R :=
  zt_icmp_ok (fun K p lv x y r w => by
    by_cases hc : x = y
    · refine Or.inl ⟨?_, ze_icmp_eq_t hc⟩
      rw [zk_i_eq] at hc
      exact hc
    · refine Or.inr ⟨?_, ze_icmp_eq_f hc⟩
      rw [zk_i_eq] at hc
      show x.toInt ≠ y.toInt
      omega) h
theorem zt_if_eq_ok {I : zz_W → Prop} {A : zk_A} {R : List (Nat × zk_A)} {hs : List Nat} {t n : Nat} (h : zt_if hs 0 t n A = some R) : zk_R I (za_if_eq t n) A R :=
  zt_if_ok (fun K p lv x r w => by
    have z : (0 : Int32).toInt = 0 := rfl
    by_cases hc : x = 0
    · refine Or.inl ⟨?_, ze_if_eq_t hc⟩
      rw [zk_i_eq, z] at hc
      exact hc
    · refine Or.inr ⟨?_, ze_if_eq_f hc⟩
      rw [zk_i_eq, z] at hc
      show x.toInt ≠ 0
      omega) h
theorem zt_icmp_ne_ok {I : zz_W → Prop} {A : zk_A} {R : List (Nat × zk_A)} {hs : List Nat} {t n : Nat} (h : zt_icmp hs 1 t n A = some R) : zk_R I (za_icmp_ne t n) A R :=
  zt_icmp_ok (fun K p lv x y r w => by
    by_cases hc : ¬ x = y
    · refine Or.inl ⟨?_, ze_icmp_ne_t hc⟩
      rw [zk_i_eq] at hc
      exact hc
    · refine Or.inr ⟨?_, ze_icmp_ne_f hc⟩
      rw [zk_i_eq] at hc
      show x.toInt = y.toInt
      omega) h
theorem zt_if_ne_ok {I : zz_W → Prop} {A : zk_A} {R : List (Nat × zk_A)} {hs : List Nat} {t n : Nat} (h : zt_if hs 1 t n A = some R) : zk_R I (za_if_ne t n) A R :=
  zt_if_ok (fun K p lv x r w => by
    have z : (0 : Int32).toInt = 0 := rfl
    by_cases hc : ¬ x = 0
    · refine Or.inl ⟨?_, ze_if_ne_t hc⟩
      rw [zk_i_eq, z] at hc
      exact hc
    · refine Or.inr ⟨?_, ze_if_ne_f hc⟩
      rw [zk_i_eq, z] at hc
      show x.toInt = 0
      omega) h
theorem zt_icmp_lt_ok {I : zz_W → Prop} {A : zk_A} {R : List (Nat × zk_A)} {hs : List Nat} {t n : Nat} (h : zt_icmp hs 2 t n A = some R) : zk_R I (za_icmp_lt t n) A R :=
  zt_icmp_ok (fun K p lv x y r w => by
    by_cases hc : x < y
    · refine Or.inl ⟨?_, ze_icmp_lt_t hc⟩
      rw [zk_i_lt] at hc
      exact hc
    · refine Or.inr ⟨?_, ze_icmp_lt_f hc⟩
      rw [zk_i_lt] at hc
      show y.toInt ≤ x.toInt
      omega) h
theorem zt_if_lt_ok {I : zz_W → Prop} {A : zk_A} {R : List (Nat × zk_A)} {hs : List Nat} {t n : Nat} (h : zt_if hs 2 t n A = some R) : zk_R I (za_if_lt t n) A R :=
  zt_if_ok (fun K p lv x r w => by
    have z : (0 : Int32).toInt = 0 := rfl
    by_cases hc : x < 0
    · refine Or.inl ⟨?_, ze_if_lt_t hc⟩
      rw [zk_i_lt, z] at hc
      exact hc
    · refine Or.inr ⟨?_, ze_if_lt_f hc⟩
      rw [zk_i_lt, z] at hc
      show 0 ≤ x.toInt
      omega) h
theorem zt_icmp_ge_ok {I : zz_W → Prop} {A : zk_A} {R : List (Nat × zk_A)} {hs : List Nat} {t n : Nat} (h : zt_icmp hs 3 t n A = some R) : zk_R I (za_icmp_ge t n) A R :=
  zt_icmp_ok (fun K p lv x y r w => by
    by_cases hc : y ≤ x
    · refine Or.inl ⟨?_, ze_icmp_ge_t hc⟩
      rw [zk_i_le] at hc
      exact hc
    · refine Or.inr ⟨?_, ze_icmp_ge_f hc⟩
      rw [zk_i_le] at hc
      show x.toInt < y.toInt
      omega) h
theorem zt_if_ge_ok {I : zz_W → Prop} {A : zk_A} {R : List (Nat × zk_A)} {hs : List Nat} {t n : Nat} (h : zt_if hs 3 t n A = some R) : zk_R I (za_if_ge t n) A R :=
  zt_if_ok (fun K p lv x r w => by
    have z : (0 : Int32).toInt = 0 := rfl
    by_cases hc : 0 ≤ x
    · refine Or.inl ⟨?_, ze_if_ge_t hc⟩
      rw [zk_i_le, z] at hc
      exact hc
    · refine Or.inr ⟨?_, ze_if_ge_f hc⟩
      rw [zk_i_le, z] at hc
      show x.toInt < 0
      omega) h
theorem zt_icmp_gt_ok {I : zz_W → Prop} {A : zk_A} {R : List (Nat × zk_A)} {hs : List Nat} {t n : Nat} (h : zt_icmp hs 4 t n A = some R) : zk_R I (za_icmp_gt t n) A R :=
  zt_icmp_ok (fun K p lv x y r w => by
    by_cases hc : y < x
    · refine Or.inl ⟨?_, ze_icmp_gt_t hc⟩
      rw [zk_i_lt] at hc
      exact hc
    · refine Or.inr ⟨?_, ze_icmp_gt_f hc⟩
      rw [zk_i_lt] at hc
      show x.toInt ≤ y.toInt
      omega) h
theorem zt_if_gt_ok {I : zz_W → Prop} {A : zk_A} {R : List (Nat × zk_A)} {hs : List Nat} {t n : Nat} (h : zt_if hs 4 t n A = some R) : zk_R I (za_if_gt t n) A R :=
  zt_if_ok (fun K p lv x r w => by
    have z : (0 : Int32).toInt = 0 := rfl
    by_cases hc : 0 < x
    · refine Or.inl ⟨?_, ze_if_gt_t hc⟩
      rw [zk_i_lt, z] at hc
      exact hc
    · refine Or.inr ⟨?_, ze_if_gt_f hc⟩
      rw [zk_i_lt, z] at hc
      show x.toInt ≤ 0
      omega) h
theorem zt_icmp_le_ok {I : zz_W → Prop} {A : zk_A} {R : List (Nat × zk_A)} {hs : List Nat} {t n : Nat} (h : zt_icmp hs 5 t n A = some R) : zk_R I (za_icmp_le t n) A R :=
  zt_icmp_ok (fun K p lv x y r w => by
    by_cases hc : x ≤ y
    · refine Or.inl ⟨?_, ze_icmp_le_t hc⟩
      rw [zk_i_le] at hc
      exact hc
    · refine Or.inr ⟨?_, ze_icmp_le_f hc⟩
      rw [zk_i_le] at hc
      show y.toInt < x.toInt
      omega) h
theorem zt_if_le_ok {I : zz_W → Prop} {A : zk_A} {R : List (Nat × zk_A)} {hs : List Nat} {t n : Nat} (h : zt_if hs 5 t n A = some R) : zk_R I (za_if_le t n) A R :=
  zt_if_ok (fun K p lv x r w => by
    have z : (0 : Int32).toInt = 0 := rfl
    by_cases hc : x ≤ 0
    · refine Or.inl ⟨?_, ze_if_le_t hc⟩
      rw [zk_i_le, z] at hc
      exact hc
    · refine Or.inr ⟨?_, ze_if_le_f hc⟩
      rw [zk_i_le, z] at hc
      show 0 < x.toInt
      omega) h
def zt_ifnull (t n : Nat) (A : zk_A) : Option (List (Nat × zk_A)) := match A.2.1 with
  | (2, _, _) :: T => some [(n, (A.1, T, A.2.2.1, A.2.2.2.1, A.2.2.2.2))]
  | (3, _, _) :: T => some [(t, (A.1, T, A.2.2.1, A.2.2.2.1, A.2.2.2.2))]
  | _ => none
theorem zt_ifnull_ok {I : zz_W → Prop} {A : zk_A} {R : List (Nat × zk_A)} {t n : Nat} (h : zt_ifnull t n A = some R) : zk_R I (za_ifnull t n) A R := by
  obtain ⟨L, T, F, B, C⟩ := A
  unfold zt_ifnull at h
  split at h
  · rename_i k e r hT
    have hT : T = (2, k, e) :: r := hT
    subst hT
    cases h
    refine zk_S_R (zk_S_st (fun K s p lv st w hL hT => ?_))
    obtain ⟨v, st2, q4, q5, q6⟩ := zk_st_cons hT
    have e3 : v = .ref k := q5.2.2.1 rfl
    subst e3
    subst q4
    exact ⟨st2, rfl, q6⟩
  · rename_i k e r hT
    have hT : T = (3, k, e) :: r := hT
    subst hT
    cases h
    refine zk_S_R (zk_S_st (fun K s p lv st w hL hT => ?_))
    obtain ⟨v, st2, q4, q5, q6⟩ := zk_st_cons hT
    have e3 : v = .null := q5.2.2.2 rfl
    subst e3
    subst q4
    exact ⟨st2, rfl, q6⟩
  · cases h
theorem zt_ifnonnull_ok {I : zz_W → Prop} {A : zk_A} {R : List (Nat × zk_A)} {t n : Nat} (h : zt_ifnull n t A = some R) : zk_R I (za_ifnonnull t n) A R := by
  obtain ⟨L, T, F, B, C⟩ := A
  unfold zt_ifnull at h
  split at h
  · rename_i k e r hT
    have hT : T = (2, k, e) :: r := hT
    subst hT
    cases h
    refine zk_S_R (zk_S_st (fun K s p lv st w hL hT => ?_))
    obtain ⟨v, st2, q4, q5, q6⟩ := zk_st_cons hT
    have e3 : v = .ref k := q5.2.2.1 rfl
    subst e3
    subst q4
    exact ⟨st2, rfl, q6⟩
  · rename_i k e r hT
    have hT : T = (3, k, e) :: r := hT
    subst hT
    cases h
    refine zk_S_R (zk_S_st (fun K s p lv st w hL hT => ?_))
    obtain ⟨v, st2, q4, q5, q6⟩ := zk_st_cons hT
    have e3 : v = .null := q5.2.2.2 rfl
    subst e3
    subst q4
    exact ⟨st2, rfl, q6⟩
  · cases h
/-- the cases of a switch: v, v + 1, .. go to these places -/
def zk_sw (A : zk_A) (T : List zk_V) (hs : List Nat) (e : zl_E) : Int → List Nat → List (Nat × zk_A)
  | _, [] => []
  | v, t :: ts => (zk_and A T hs [zl_sub e (zl_con v), zl_sub (zl_con v) e]).map (fun B => (t, B)) ++ zk_sw A T hs e (v + 1) ts
theorem zk_sw_in {A : zk_A} {T : List zk_V} {hs : List Nat} {e : zl_E} : ∀ {ts : List Nat} {v : Int} {i t : Nat}, ts[i]? = some t → ∀ A' ∈ zk_and A T hs [zl_sub e (zl_con (v + (i : Int))), zl_sub (zl_con (v + (i : Int))) e], (t, A') ∈ zk_sw A T hs e v ts
  | [], _, _, _, h, _, _ => by cases h
  | u :: ts, v, 0, t, h, A', hA => by
    cases h
    have e0 : v + ((0 : Nat) : Int) = v := by omega
    rw [e0] at hA
    exact List.mem_append_left _ (List.mem_map.mpr ⟨A', hA, rfl⟩)
  | u :: ts, v, i + 1, t, h, A', hA => by
    have e0 : v + ((i + 1 : Nat) : Int) = v + 1 + (i : Int) := by omega
    rw [e0] at hA
    exact List.mem_append_right _ (zk_sw_in (ts := ts) (v := v + 1) (i := i) h A' hA)
def zt_tsw (hs : List Nat) (lo hi : Int) (dt : Nat) (ts : List Nat) (A : zk_A) : Option (List (Nat × zk_A)) := match A.2.1 with
  | (0, _, e) :: T => cond (decide (hi - lo + 1 = (ts.length : Int))) (some ((zk_and A T hs [zl_sub (zl_con (lo - 1)) e]).map (fun B => (dt, B)) ++ ((zk_and A T hs [zl_sub e (zl_con (hi + 1))]).map (fun B => (dt, B)) ++ zk_sw A T hs e lo ts))) none
  | _ => none
theorem zt_tsw_ok {I : zz_W → Prop} {A : zk_A} {R : List (Nat × zk_A)} {hs : List Nat} {lo hi : Int} {dt : Nat} {ts : List Nat} (h : zt_tsw hs lo hi dt ts A = some R) : zk_R I (za_tsw lo hi dt ts) A R := by
  obtain ⟨L, T, F, B, C⟩ := A
  unfold zt_tsw at h
  split at h
  · rename_i k1 e1 r hT
    have hT : T = (0, k1, e1) :: r := hT
    subst hT
    obtain ⟨hlen, h⟩ := zz_cond h
    have hlen := of_decide_eq_true hlen
    cases h
    intro K s f hG
    obtain ⟨p, lv, st, w⟩ := f
    obtain ⟨g1, g2, g3, g4, g5, g6⟩ := hG
    obtain ⟨x, st2, q4, q5, q6⟩ := zk_st_int g2 rfl
    have q4 : st = .int x :: st2 := q4
    subst q4
    by_cases hr : x.toInt < lo ∨ hi < x.toInt
    · have q5 : x.toInt = zl_ev s e1 := q5
      rcases hr with hr1 | hr1
      · obtain ⟨A', m1, m2, m3⟩ := zk_and_ok (I := I) (A := (L, (0, k1, e1) :: r, F, B, C)) (T := r) (hs := hs) (cs := [zl_sub (zl_con (lo - 1)) e1]) (n := dt) (w := w) g1 q6 g3 g4 g5 g6 (fun c hc => by rw [List.mem_singleton.mp hc, zl_sub_ev, zl_con_ev]; omega)
        exact ⟨s, (dt, lv, st2, w), (dt, A'), if_pos (Or.inl hr1), List.mem_append_left _ (List.mem_map.mpr ⟨A', m1, rfl⟩), rfl, m2, m3, fun _ _ => rfl⟩
      · obtain ⟨A', m1, m2, m3⟩ := zk_and_ok (I := I) (A := (L, (0, k1, e1) :: r, F, B, C)) (T := r) (hs := hs) (cs := [zl_sub e1 (zl_con (hi + 1))]) (n := dt) (w := w) g1 q6 g3 g4 g5 g6 (fun c hc => by rw [List.mem_singleton.mp hc, zl_sub_ev, zl_con_ev]; omega)
        exact ⟨s, (dt, lv, st2, w), (dt, A'), if_pos (Or.inr hr1), List.mem_append_right _ (List.mem_append_left _ (List.mem_map.mpr ⟨A', m1, rfl⟩)), rfl, m2, m3, fun _ _ => rfl⟩
    · have hr2 : lo ≤ x.toInt ∧ x.toInt ≤ hi := by omega
      have hi2 : (x.toInt - lo).toNat < ts.length := by omega
      have ht : ts[(x.toInt - lo).toNat]? = some ts[(x.toInt - lo).toNat] := List.getElem?_eq_getElem hi2
      have hv : lo + ((x.toInt - lo).toNat : Int) = x.toInt := by omega
      have hcs : zk_cs s [zl_sub e1 (zl_con (lo + ((x.toInt - lo).toNat : Int))), zl_sub (zl_con (lo + ((x.toInt - lo).toNat : Int))) e1] := by
        intro c hc
        have q5 : x.toInt = zl_ev s e1 := q5
        rcases List.mem_cons.mp hc with e | hc
        · rw [e, zl_sub_ev, zl_con_ev]; omega
        · rw [List.mem_singleton.mp hc, zl_sub_ev, zl_con_ev]; omega
      obtain ⟨A', m1, m2, m3⟩ := zk_and_ok (I := I) (A := (L, (0, k1, e1) :: r, F, B, C)) (T := r) (hs := hs) (n := ts[(x.toInt - lo).toNat]) (w := w) g1 q6 g3 g4 g5 g6 hcs
      refine ⟨s, (ts[(x.toInt - lo).toNat], lv, st2, w), (ts[(x.toInt - lo).toNat], A'), ?_, List.mem_append_right _ (List.mem_append_right _ (zk_sw_in ht A' m1)), rfl, m2, m3, fun _ _ => rfl⟩
      show (if x.toInt < lo ∨ hi < x.toInt then some ((dt, lv, st2, w) : zz_F) else match ts[(x.toInt - lo).toNat]? with | some t => some (t, lv, st2, w) | none => none) = _
      rw [if_neg hr, ht]
  · cases h
/-- the cases of a switch by a list -/
def zk_sl (A : zk_A) (T : List zk_V) (hs : List Nat) (e : zl_E) : List (Int × Nat) → List (Nat × zk_A)
  | [] => []
  | q :: l => (zk_and A T hs [zl_sub e (zl_con q.1), zl_sub (zl_con q.1) e]).map (fun B => (q.2, B)) ++ zk_sl A T hs e l
def zt_lsw (hs : List Nat) (dt : Nat) (l : List (Int × Nat)) (A : zk_A) : Option (List (Nat × zk_A)) := match A.2.1 with
  | (0, _, e) :: T => some (cond (l.any (fun q => zl_pos A.2.2.2.1 (zl_sub e (zl_con q.1)) && zl_pos A.2.2.2.1 (zl_sub (zl_con q.1) e))) [] [(dt, (A.1, T, A.2.2.1, A.2.2.2.1, A.2.2.2.2))] ++ zk_sl A T hs e l)
  | _ => none
theorem zk_lo_case {dt : Nat} {x : Int} : ∀ {l : List (Int × Nat)}, (zz_lo dt l x = some dt ∧ ∀ q ∈ l, x ≠ q.1) ∨ ∃ q ∈ l, x = q.1 ∧ zz_lo dt l x = some q.2
  | [] => Or.inl ⟨rfl, fun q hq => absurd hq List.not_mem_nil⟩
  | q :: l => by
    unfold zz_lo
    by_cases hx : x = q.1
    · rw [if_pos hx]
      exact Or.inr ⟨q, List.mem_cons_self, hx, rfl⟩
    · rw [if_neg hx]
      rcases zk_lo_case (dt := dt) (x := x) (l := l) with ⟨h, h9⟩ | ⟨q', h1, h2, h3⟩
      · exact Or.inl ⟨h, fun q' hq' => by
          rcases List.mem_cons.mp hq' with e | hq'
          · rw [e]
            exact hx
          · exact h9 q' hq'⟩
      · exact Or.inr ⟨q', List.mem_cons_of_mem _ h1, h2, h3⟩
theorem zk_sl_in {A : zk_A} {T : List zk_V} {hs : List Nat} {e : zl_E} : ∀ {l : List (Int × Nat)} {q : Int × Nat}, q ∈ l → ∀ A' ∈ zk_and A T hs [zl_sub e (zl_con q.1), zl_sub (zl_con q.1) e], (q.2, A') ∈ zk_sl A T hs e l
  | [], _, h, _, _ => by cases h
  | u :: l, q, h, A', hA => by
    rcases List.mem_cons.mp h with h | h
    · subst h
      exact List.mem_append_left _ (List.mem_map.mpr ⟨A', hA, rfl⟩)
    · exact List.mem_append_right _ (zk_sl_in h A' hA)
theorem zt_lsw_ok {I : zz_W → Prop} {A : zk_A} {R : List (Nat × zk_A)} {hs : List Nat} {dt : Nat} {l : List (Int × Nat)} (h : zt_lsw hs dt l A = some R) : zk_R I (za_lsw (zz_lo dt l)) A R := by
  obtain ⟨L, T, F, B, C⟩ := A
  unfold zt_lsw at h
  split at h
  · rename_i k1 e1 r hT
    have hT : T = (0, k1, e1) :: r := hT
    subst hT
    cases h
    intro K s f hG
    obtain ⟨p, lv, st, w⟩ := f
    obtain ⟨g1, g2, g3, g4, g5, g6⟩ := hG
    obtain ⟨x, st2, q4, q5, q6⟩ := zk_st_int g2 rfl
    have q4 : st = .int x :: st2 := q4
    subst q4
    have q5 : x.toInt = zl_ev s e1 := q5
    have hact : ∀ t, zz_lo dt l x.toInt = some t → za_lsw (zz_lo dt l) K (p, lv, .int x :: st2, w) = some (t, lv, st2, w) := by
      intro t ht
      show (match zz_lo dt l x.toInt with | some t => some ((t, lv, st2, w) : zz_F) | none => none) = _
      rw [ht]
    rcases zk_lo_case (dt := dt) (x := x.toInt) (l := l) with ⟨hd, hne⟩ | ⟨q, h1, h2, h3⟩
    · have hdef : l.any (fun q => zl_pos B (zl_sub e1 (zl_con q.1)) && zl_pos B (zl_sub (zl_con q.1) e1)) = false := by
        cases hb : l.any (fun q => zl_pos B (zl_sub e1 (zl_con q.1)) && zl_pos B (zl_sub (zl_con q.1) e1)) with
        | false => rfl
        | true =>
          obtain ⟨q, w1, w2⟩ := List.any_eq_true.mp hb
          obtain ⟨c1, c2⟩ := zz_and w2
          have c1 := zl_pos_ok g4 c1
          have c2 := zl_pos_ok g4 c2
          rw [zl_sub_ev, zl_con_ev] at c1 c2
          exact absurd (show x.toInt = q.1 by omega) (hne q w1)
      refine ⟨s, (dt, lv, st2, w), (dt, (L, r, F, B, C)), hact _ hd, List.mem_append_left _ ?_, rfl, ⟨g1, q6, g3, g4, g5, g6⟩, Nat.le_refl _, fun _ _ => rfl⟩
      show (dt, (L, r, F, B, C)) ∈ cond (l.any (fun q => zl_pos B (zl_sub e1 (zl_con q.1)) && zl_pos B (zl_sub (zl_con q.1) e1))) [] [(dt, (L, r, F, B, C))]
      rw [hdef]
      exact List.mem_cons_self
    · have hcs : zk_cs s [zl_sub e1 (zl_con q.1), zl_sub (zl_con q.1) e1] := by
        intro c hc
        rcases List.mem_cons.mp hc with e | hc
        · rw [e, zl_sub_ev, zl_con_ev]; omega
        · rw [List.mem_singleton.mp hc, zl_sub_ev, zl_con_ev]; omega
      obtain ⟨A', m1, m2, m3⟩ := zk_and_ok (I := I) (A := (L, (0, k1, e1) :: r, F, B, C)) (T := r) (hs := hs) (n := q.2) (w := w) g1 q6 g3 g4 g5 g6 hcs
      exact ⟨s, (q.2, lv, st2, w), (q.2, A'), hact _ h3, List.mem_append_right _ (zk_sl_in h1 A' m1), rfl, m2, m3, fun _ _ => rfl⟩
  · cases h
end
end
section
/-! ABSTRACT FRAMES, on: cells. What is known of each cell all the time (zk_H): its kind, class or elements, length; bounds of ints; references that stay -/
noncomputable section
/-- kind, class or element, length, bounds of elements, fields (of a row of ints: closer bounds by the rest of the place, none or as many as the stride): (0, _, bounds) an int, (1, ..) a long, (2, number, ..) a reference that stays, (3, ..) any reference -/
abbrev zk_H : Type := Nat × Nat × Nat × Int × Int × List (Nat × Nat × Int × Int)
def zk_h0 : zk_H := (9, 0, 0, 0, 0, [])
def zk_h (HT : List (List zk_H)) (i : Nat) : zk_H := (HT.getD (i / 16) []).getD (i % 16) zk_h0
def zk_Hok (H : zk_H) (c : zz_C) : Prop :=
  c.1 = H.1 ∧ c.2.1 = H.2.1 ∧ c.2.2.1 = H.2.2.1 ∧
  (H.1 = 0 → ∀ j, j < H.2.2.1 → (H.2.2.2.1 ≤ (Int32.ofNat (zz_at 32 c.2.2.2 j)).toInt ∧ (Int32.ofNat (zz_at 32 c.2.2.2 j)).toInt ≤ H.2.2.2.2.1) ∧ ∀ q : Nat × Nat × Int × Int, H.2.2.2.2.2[j % H.2.2.2.2.2.length]? = some q → q.2.2.1 ≤ (Int32.ofNat (zz_at 32 c.2.2.2 j)).toInt ∧ (Int32.ofNat (zz_at 32 c.2.2.2 j)).toInt ≤ q.2.2.2) ∧
  (H.1 = 2 → ∀ (k : Nat) (q : Nat × Nat × Int × Int), H.2.2.2.2.2[k]? = some q → zz_at 32 c.2.2.2 k = q.2.1) ∧
  (H.1 = 3 → ∀ (k : Nat) (q : Nat × Nat × Int × Int), H.2.2.2.2.2[k]? = some q → (q.1 = 0 → q.2.2.1 ≤ (Int32.ofNat (zz_at 64 c.2.2.2 k)).toInt ∧ (Int32.ofNat (zz_at 64 c.2.2.2 k)).toInt ≤ q.2.2.2) ∧ (q.1 = 2 → zz_at 64 c.2.2.2 k = q.2.1)) ∧
  (H.1 = 1 → ∀ (k : Nat) (q : Nat × Nat × Int × Int), H.2.2.2.2.2[k]? = some q → zz_at 64 c.2.2.2 k = q.2.1)
/-- so many chunks -/
def zk_sh (c : Nat) (w : zz_W) : Prop := w.2.2.length = c ∧ ∀ i, i < c → (w.2.2.getD i []).length = 16
def zk_I (c : Nat) (HT : List (List zk_H)) (w : zz_W) : Prop := zk_sh c w ∧ w.1 ≤ 16 * c ∧ w.1 ≤ 1000000 ∧ ∀ i, (zk_h HT i).1 ≠ 9 → i < w.1 ∧ zk_Hok (zk_h HT i) (zz_g w i)
/-- the element at j of row i -/
def zk_el (w : zz_W) (i : Nat) (j : Int) : Int := (Int32.ofNat (zz_at 32 (zz_g w i).2.2.2 j.toNat)).toInt
/-- what may change: fields, rows (i, 999), rows at some places alone (i, 998); these places -/
abbrev zk_M : Type := List (Nat × Nat) × List (Nat × zl_E)
/-- the world at the start, and the places as numbers -/
abbrev zk_W0 : Type := zz_W × List (Nat × Int)
def zk_pv (s : Nat → Int) (P : List (Nat × zl_E)) (V : List (Nat × Int)) : Prop := ∀ p ∈ P, (p.1, zl_ev s p.2) ∈ V
/-- place m of row i is none of those that may change: (i, x) the place x, (i + 10000000, x) all places from x on -/
def zk_fre (V : List (Nat × Int)) (i : Nat) (m : Int) : Prop := (i, m) ∉ V ∧ ∀ x, (i + 10000000, x) ∈ V → m < x
/-- all else is as in w0 -/
def zk_sm (M : zk_M) (w0 : zk_W0) (w : zz_W) : Prop := (∀ i k, k < 998 → (i, k) ∉ M.1 → i < w0.1.1 → (zz_g w0.1 i).1 = 3 → zk_fd w (i, k) = zk_fd w0.1 (i, k)) ∧ ∀ i, (i, 999) ∉ M.1 → i < w0.1.1 → (zz_g w0.1 i).1 ≠ 3 → ((i, 998) ∉ M.1 → zz_g w i = zz_g w0.1 i) ∧ ∀ m, 0 ≤ m → zk_fre w0.2 i m → zk_el w i m = zk_el w0.1 i m
/-- kind, class or element, length -/
def zk_k3 (c : zz_C) : Nat × Nat × Nat := (c.1, c.2.1, c.2.2.1)
theorem zk_k3_1 {c d : zz_C} (h : zk_k3 c = zk_k3 d) : c.1 = d.1 := congrArg (fun q => q.1) h
theorem zk_k3_2 {c d : zz_C} (h : zk_k3 c = zk_k3 d) : c.2.1 = d.2.1 := congrArg (fun q => q.2.1) h
theorem zk_k3_3 {c d : zz_C} (h : zk_k3 c = zk_k3 d) : c.2.2.1 = d.2.2.1 := congrArg (fun q => q.2.2) h
theorem zk_k3_of {a b n N : Nat} {c : zz_C} (h1 : c.1 = a) (h2 : c.2.1 = b) (h3 : c.2.2.1 = n) : zk_k3 (a, b, n, N) = zk_k3 c := by
  show (a, b, n) = (c.1, c.2.1, c.2.2.1)
  rw [h1, h2, h3]
def zk_J (c : Nat) (HT : List (List zk_H)) (M : zk_M) (w0 : zk_W0) (w : zz_W) : Prop := zk_I c HT w ∧ zk_sm M w0 w ∧ w0.1.1 ≤ w.1 ∧ (w.1 = w0.1.1 ∧ w.2.1 = w0.1.2.1) ∧ ∀ i, i < w0.1.1 → zk_k3 (zz_g w i) = zk_k3 (zz_g w0.1 i)
theorem zk_up_st {β : Sort _} {c : Nat} {w : zz_W} {i : Nat} {x : zz_C} {bad : β} {k : zz_W → β} (h : zk_sh c w) (hi : i < 16 * c) : zz_st w i x bad k = k (zz_up w i x) := by
  unfold zz_st zz_up
  have h1 : i / 16 < c := by omega
  rw [zz_ls_eq, if_pos (by rw [h.2 _ h1]; omega), zz_ls_eq, if_pos (by rw [h.1]; exact h1)]
theorem zk_up_sh {c : Nat} {w : zz_W} {i : Nat} {x : zz_C} (h : zk_sh c w) : zk_sh c (zz_up w i x) := by
  refine ⟨?_, fun j hj => ?_⟩
  · show (w.2.2.set _ _).length = c
    rw [List.length_set]
    exact h.1
  · show ((w.2.2.set (i / 16) ((w.2.2.getD (i / 16) []).set (i % 16) x)).getD j []).length = 16
    rw [List.getD_eq_getElem?_getD]
    by_cases e : i / 16 = j
    · subst e
      rw [List.getElem?_set_self (by rw [h.1]; exact hj)]
      show ((w.2.2.getD (i / 16) []).set (i % 16) x).length = 16
      rw [List.length_set]
      exact h.2 _ hj
    · rw [List.getElem?_set_ne e, ← List.getD_eq_getElem?_getD]
      exact h.2 j hj
theorem zk_up_g {c : Nat} {w : zz_W} {i : Nat} {x : zz_C} (h : zk_sh c w) (hi : i < 16 * c) (j : Nat) : zz_g (zz_up w i x) j = if j = i then x else zz_g w j := by
  obtain ⟨w', e1, -, -, e4⟩ := zz_st_ok (w := w) (i := i) (c := x) (k := fun w' => some w') (b := zz_up w i x) (zk_up_st h hi)
  cases e1
  exact e4 j
/-- the world with another content of a cell: what must be shown of the content -/
theorem zk_I_up {c : Nat} {HT : List (List zk_H)} {w : zz_W} {i : Nat} {x : zz_C} (h : zk_I c HT w) (hi : i < w.1) (hx : (zk_h HT i).1 ≠ 9 → zk_Hok (zk_h HT i) x) : zk_I c HT (zz_up w i x) := by
  obtain ⟨h1, h2, h3, h4⟩ := h
  refine ⟨zk_up_sh h1, h2, h3, fun j hj => ⟨(h4 j hj).1, ?_⟩⟩
  rw [zk_up_g h1 (by omega)]
  by_cases e : j = i
  · subst e
    rw [if_pos rfl]
    exact hx hj
  · rw [if_neg e]
    exact (h4 j hj).2
/-- the field's spec -/
def zk_fs (HT : List (List zk_H)) (ci i k : Nat) : Option (Nat × Nat × Int × Int) :=
  cond (Nat.beq (zk_h HT i).1 3 && (Nat.beq (zk_h HT i).2.1 ci && Nat.blt k (zk_h HT i).2.2.1)) ((zk_h HT i).2.2.2.2.2)[k]? none
theorem zk_fs_ok {c : Nat} {HT : List (List zk_H)} {ci i k : Nat} {q : Nat × Nat × Int × Int} {w : zz_W} (h : zk_fs HT ci i k = some q) (hI : zk_I c HT w) : i < w.1 ∧ (zk_h HT i).1 = 3 ∧ (zz_g w i) = (3, ci, (zk_h HT i).2.2.1, (zz_g w i).2.2.2) ∧ k < (zk_h HT i).2.2.1 ∧ (zk_h HT i).2.2.2.2.2[k]? = some q ∧ zz_io w i ci k = true ∧ (q.1 = 0 → q.2.2.1 ≤ (Int32.ofNat (zk_fd w (i, k))).toInt ∧ (Int32.ofNat (zk_fd w (i, k))).toInt ≤ q.2.2.2) ∧ (q.1 = 2 → zk_fd w (i, k) = q.2.1) := by
  unfold zk_fs at h
  obtain ⟨hb, h⟩ := zz_cond h
  obtain ⟨b1, hb⟩ := zz_and hb
  obtain ⟨b2, b3⟩ := zz_and hb
  have e1 := zz_beq b1
  have e2 := zz_beq b2
  have e3 := zz_blt b3
  obtain ⟨hi, g1, g2, g3, -, -, g6, -⟩ := hI.2.2.2 i (by omega)
  have g6 := g6 e1 k q h
  have hw : zz_io w i ci k = true := by
    unfold zz_io
    rw [g1, g2, g3, e1, e2]
    have a1 : Nat.blt i w.1 = true := Nat.ble_eq.mpr hi
    have a2 : Nat.blt i 1000000 = true := Nat.ble_eq.mpr (by have := hI.2.2.1; omega)
    rw [a1, a2, b3, Nat.beq_refl ci]
    rfl
  refine ⟨hi, e1, ?_, e3, h, hw, g6.1, g6.2⟩
  rw [← e2, ← g3, ← g2]
  have : (zz_g w i).1 = 3 := by rw [g1, e1]
  rw [← this]
/-- the field, if it is followed -/
def zk_fk (F : List ((Nat × Nat) × zk_V)) (i k : Nat) : Option zk_V := match F with
  | [] => none
  | q :: r => cond (Nat.beq q.1.1 i && Nat.beq q.1.2 k) (some q.2) (zk_fk r i k)
theorem zk_fk_mem {i k : Nat} {a : zk_V} : ∀ {F : List ((Nat × Nat) × zk_V)}, zk_fk F i k = some a → ((i, k), a) ∈ F
  | [], h => by cases h
  | q :: r, h => by
    unfold zk_fk at h
    cases hb : (Nat.beq q.1.1 i && Nat.beq q.1.2 k) with
    | true =>
      rw [hb] at h
      cases h
      obtain ⟨b1, b2⟩ := zz_and hb
      rw [← zz_beq b1, ← zz_beq b2]
      exact List.mem_cons_self
    | false =>
      rw [hb] at h
      exact List.mem_cons_of_mem _ (zk_fk_mem h)
/-- the int of a field: as it is followed, or any within its bounds, which is followed then -/
def zt_getI (HT : List (List zk_H)) (ci k : Nat) (A : zk_A) : Option zk_A := match A.2.1 with
  | (2, i, _) :: T => match zk_fs HT ci i k with
    | some (0, _, lo, hi) => match zk_fk A.2.2.1 i k with
      | some (0, b, e) => some (A.1, (0, b, e) :: T, A.2.2.1, A.2.2.2.1, A.2.2.2.2)
      | some _ => none
      | none => match zk_new A T lo hi with
        | some B => some (B.1, B.2.1, ((i, k), (0, 0, zl_sym A.2.2.2.1.length)) :: B.2.2.1, B.2.2.2.1, B.2.2.2.2)
        | none => none
    | _ => none
  | _ => none
theorem zt_getI_ok {c : Nat} {HT : List (List zk_H)} {I : zz_W → Prop} (hI : ∀ w, I w → zk_I c HT w) {A A' : zk_A} {ci k n : Nat} (h : zt_getI HT ci k A = some A') : zk_S I (za_getI ci k n) n A A' := by
  obtain ⟨L, T0, F, B, C⟩ := A
  unfold zt_getI at h
  split at h
  · rename_i i e0 T hT
    have hT : T0 = (2, i, e0) :: T := hT
    subst hT
    split at h
    · rename_i c0 lo hi hfs
      split at h
      · rename_i b e hfk
        cases h
        refine ⟨Nat.le_refl _, fun K s f hG => ?_⟩
        obtain ⟨p, lv, st, w⟩ := f
        obtain ⟨g1, g2, g3, g4, g5, g6⟩ := hG
        obtain ⟨v, st2, q4, q5, q6⟩ := zk_st_cons g2
        have e3 : v = .ref i := q5.2.2.1 rfl
        subst e3
        have q4 : st = .ref i :: st2 := q4
        subst q4
        obtain ⟨o1, o2, o3, o4, o5, o6, o7, o8⟩ := zk_fs_ok hfs (hI _ g6)
        have hn := (g3 _ (zk_fk_mem hfk)).1 rfl
        refine ⟨s, (n, lv, .int (Int32.ofNat (zk_fd w (i, k))) :: st2, w), ?_, rfl, ⟨g1, ⟨zk_v_int hn, q6⟩, g3, g4, g5, g6⟩, fun _ _ => rfl⟩
        show cond (zz_io w i ci k) (zz_fN (zz_at 64 (zz_g w i).2.2.2 k) (fun v => some ((n, lv, .int (Int32.ofNat v) :: st2, w) : zz_F))) none = _
        rw [o6, zz_fN_eq]
        rfl
      · cases h
      · rename_i hfk
        split at h
        · rename_i A1 hA1
          cases h
          have hl := zk_new_len hA1
          refine ⟨hl, fun K s f hG => ?_⟩
          obtain ⟨p, lv, st, w⟩ := f
          obtain ⟨g1, g2, g3, g4, g5, g6⟩ := hG
          obtain ⟨v, st2, q4, q5, q6⟩ := zk_st_cons g2
          have e3 : v = .ref i := q5.2.2.1 rfl
          subst e3
          have q4 : st = .ref i :: st2 := q4
          subst q4
          obtain ⟨o1, o2, o3, o4, o5, o6, o7, o8⟩ := zk_fs_ok hfs (hI _ g6)
          have o7 := o7 rfl
          obtain ⟨-, s', hg, hs⟩ := zk_new_ok (I := I) (x := Int32.ofNat (zk_fd w (i, k))) (n := n) (w := w) (lv := lv) hA1 g1 q6 g3 g4 g5 g6 o7.1 o7.2
          obtain ⟨j1, j2, j3, j4, j5, j6⟩ := hg
          have hsym : (Int32.ofNat (zk_fd w (i, k))).toInt = zl_ev s' (zl_sym B.length) := by
            obtain ⟨-, hA1⟩ := zz_cond hA1
            cases hA1
            obtain ⟨x, x1, x2⟩ := j2.1.1 rfl
            cases x1
            exact x2
          refine ⟨s', (n, lv, .int (Int32.ofNat (zk_fd w (i, k))) :: st2, w), ?_, rfl, ⟨j1, j2, fun q hq => ?_, j4, j5, j6⟩, hs⟩
          · show cond (zz_io w i ci k) (zz_fN (zz_at 64 (zz_g w i).2.2.2 k) (fun v => some ((n, lv, .int (Int32.ofNat v) :: st2, w) : zz_F))) none = _
            rw [o6, zz_fN_eq]
            rfl
          · rcases List.mem_cons.mp hq with e | hq
            · subst e
              exact ⟨fun _ => hsym, fun h => absurd (show (0 : Nat) = 2 from h) (by decide), fun h => absurd (show (0 : Nat) = 3 from h) (by decide)⟩
            · exact j3 q hq
        · cases h
    · cases h
  · cases h
/-- a reference in a field -/
def zt_getA (HT : List (List zk_H)) (ci k : Nat) (A : zk_A) : Option zk_A := match A.2.1 with
  | (2, i, _) :: T => match zk_fs HT ci i k with
    | some (2, m + 1, _) => some (A.1, (2, m, zl_con 0) :: T, A.2.2.1, A.2.2.2.1, A.2.2.2.2)
    | some (2, 0, _) => some (A.1, (3, 0, zl_con 0) :: T, A.2.2.1, A.2.2.2.1, A.2.2.2.2)
    | some (3, _, _) => match zk_fk A.2.2.1 i k with
      | some (2, b, e) => some (A.1, (2, b, e) :: T, A.2.2.1, A.2.2.2.1, A.2.2.2.2)
      | some (3, b, e) => some (A.1, (3, b, e) :: T, A.2.2.1, A.2.2.2.1, A.2.2.2.2)
      | _ => none
    | _ => none
  | _ => none
theorem zk_getA_ref {w : zz_W} {i ci k n p b : Nat} {lv : List (Nat × Value)} {st : List Value} {K : zz_K} (o6 : zz_io w i ci k = true) (hn : zk_fd w (i, k) = b + 1) : za_getA ci k n K (p, lv, .ref i :: st, w) = some (n, lv, .ref b :: st, w) := by
  show cond (zz_io w i ci k) (Nat.casesOn (motive := fun _ => Option zz_F) (zk_fd w (i, k)) (some (n, lv, .null :: st, w)) (fun v => some (n, lv, .ref v :: st, w))) none = _
  rw [o6, hn]
  rfl
theorem zk_getA_null {w : zz_W} {i ci k n p : Nat} {lv : List (Nat × Value)} {st : List Value} {K : zz_K} (o6 : zz_io w i ci k = true) (hn : zk_fd w (i, k) = 0) : za_getA ci k n K (p, lv, .ref i :: st, w) = some (n, lv, .null :: st, w) := by
  show cond (zz_io w i ci k) (Nat.casesOn (motive := fun _ => Option zz_F) (zk_fd w (i, k)) (some (n, lv, .null :: st, w)) (fun v => some (n, lv, .ref v :: st, w))) none = _
  rw [o6, hn]
  rfl
theorem zt_getA_ok {c : Nat} {HT : List (List zk_H)} {I : zz_W → Prop} (hI : ∀ w, I w → zk_I c HT w) {A A' : zk_A} {ci k n : Nat} (h : zt_getA HT ci k A = some A') : zk_S I (za_getA ci k n) n A A' := by
  obtain ⟨L, T0, F, B, C⟩ := A
  unfold zt_getA at h
  split at h
  · rename_i i e0 T hT
    have hT : T0 = (2, i, e0) :: T := hT
    subst hT
    have key : ∀ (a : zk_V), (∀ (s : Nat → Int) (w : zz_W), zk_fl s F w → I w → ∃ v, zk_v s a v ∧ ∀ (K : zz_K) (p : Nat) (lv : List (Nat × Value)) (st : List Value), za_getA ci k n K (p, lv, .ref i :: st, w) = some (n, lv, v :: st, w)) → zk_S I (za_getA ci k n) n (L, (2, i, e0) :: T, F, B, C) (L, a :: T, F, B, C) := by
      intro a ha
      refine ⟨Nat.le_refl _, fun K s f hG => ?_⟩
      obtain ⟨p, lv, st, w⟩ := f
      obtain ⟨g1, g2, g3, g4, g5, g6⟩ := hG
      obtain ⟨v, st2, q4, q5, q6⟩ := zk_st_cons g2
      have e3 : v = .ref i := q5.2.2.1 rfl
      subst e3
      have q4 : st = .ref i :: st2 := q4
      subst q4
      obtain ⟨u, u1, u2⟩ := ha s w g3 g6
      exact ⟨s, _, u2 K p lv st2, rfl, ⟨g1, ⟨u1, q6⟩, g3, g4, g5, g6⟩, fun _ _ => rfl⟩
    split at h
    · rename_i m r hfs
      cases h
      refine key _ (fun s w _ hJ => ?_)
      obtain ⟨o1, o2, o3, o4, o5, o6, o7, o8⟩ := zk_fs_ok hfs (hI _ hJ)
      exact ⟨.ref m, zk_v_ref, fun K p lv st => zk_getA_ref o6 (o8 rfl)⟩
    · rename_i r hfs
      cases h
      refine key _ (fun s w _ hJ => ?_)
      obtain ⟨o1, o2, o3, o4, o5, o6, o7, o8⟩ := zk_fs_ok hfs (hI _ hJ)
      exact ⟨.null, zk_v_null, fun K p lv st => zk_getA_null o6 (o8 rfl)⟩
    · rename_i c1 r hfs
      split at h
      · rename_i b e hfk
        cases h
        refine key _ (fun s w hF hJ => ?_)
        obtain ⟨o1, o2, o3, o4, o5, o6, o7, o8⟩ := zk_fs_ok hfs (hI _ hJ)
        exact ⟨.ref b, zk_v_ref, fun K p lv st => zk_getA_ref o6 ((hF _ (zk_fk_mem hfk)).2.1 rfl)⟩
      · rename_i b e hfk
        cases h
        refine key _ (fun s w hF hJ => ?_)
        obtain ⟨o1, o2, o3, o4, o5, o6, o7, o8⟩ := zk_fs_ok hfs (hI _ hJ)
        exact ⟨.null, zk_v_null, fun K p lv st => zk_getA_null o6 ((hF _ (zk_fk_mem hfk)).2.2 rfl)⟩
      · cases h
    · cases h
  · cases h
end
end
section
/-! ABSTRACT FRAMES, on: fields that are set, rows -/
noncomputable section
theorem zk_nI {x : Int32} (h : 0 ≤ x.toInt) : (zz_nI x : Int) = x.toInt := by
  have h1 : x.toInt = x.toBitVec.toInt := rfl
  rw [h1] at h ⊢
  rw [BitVec.toInt_eq_toNat_cond] at h ⊢
  have h2 := x.toBitVec.isLt
  show ((x.toBitVec.toNat : Nat) : Int) = _
  split at h
  · rw [if_pos (by assumption)]
  · omega
theorem zk_nI64 (x : Int32) : zz_nI x < 2 ^ 64 := Nat.lt_of_lt_of_le (zz_nI_lt x) (Nat.pow_le_pow_right (by omega) (by omega))
/-- only field k of cell i changes -/
def zk_rF (i k : Nat) (w w' : zz_W) : Prop := (∀ j, j ≠ i → zz_g w' j = zz_g w j) ∧ ∀ m, m ≠ k → zk_fd w' (i, m) = zk_fd w (i, m)
/-- only element j of row i changes -/
def zk_rR (i : Nat) (j : Int) (w w' : zz_W) : Prop := (∀ a, a ≠ i → zz_g w' a = zz_g w a) ∧ ∀ m, 0 ≤ m → m ≠ j → zk_el w' i m = zk_el w i m
/-- where a field is set; where an element is set, its place, its value -/
def zk_tg1 (A : zk_A) : Nat := match A.2.1 with
  | _ :: (2, i, _) :: _ => i
  | _ => 0
def zk_tg2 (A : zk_A) : Nat := match A.2.1 with
  | _ :: _ :: (2, i, _) :: _ => i
  | _ => 0
def zk_ix2 (A : zk_A) : zl_E := match A.2.1 with
  | _ :: (_, _, e) :: _ => e
  | _ => zl_con 0
def zk_vl (A : zk_A) : zl_E := match A.2.1 with
  | (_, _, e) :: _ => e
  | _ => zl_con 0
/-- an instruction that changes the world, and what it changes -/
def zk_SW (c : Nat) (HT : List (List zk_H)) (M : zk_M) (w0 : zk_W0) (act : zz_A) (n : Nat) (A A' : zk_A) (rel : (Nat → Int) → zz_W → zz_W → Prop) : Prop :=
  A.2.2.2.1 = A'.2.2.2.1 ∧ ∀ (K : zz_K) (s : Nat → Int) (f : zz_F), zk_pv s M.2 w0.2 → zk_G (zk_J c HT M w0) s A f → ∃ f' : zz_F, act K f = some f' ∧ f'.1 = n ∧ zk_G (zk_J c HT M w0) s A' f' ∧ rel s f.2.2.2 f'.2.2.2
theorem zk_el_to {w w' : zz_W} {i : Nat} {j : Int32} {x : Nat} (hj : 0 ≤ j.toInt) (hx : x < 2 ^ 32) (h1 : ∀ a, a ≠ i → zz_g w' a = zz_g w a) (h2 : (zz_g w' i).2.2.2 = zz_to 32 (zz_g w i).2.2.2 (zz_nI j) x) : zk_rR i j.toInt w w' ∧ zk_el w' i j.toInt = (Int32.ofNat x).toInt := by
  have hn := zk_nI hj
  refine ⟨⟨h1, fun m hm hne => ?_⟩, ?_⟩
  · unfold zk_el
    rw [h2, zz_at_to hx, if_neg (by omega)]
  · unfold zk_el
    rw [h2, zz_at_to hx, if_pos (by omega)]
/-- a sum that is 0 -/
def zl_az (l : List (Nat × zl_N)) : Bool := List.rec (motive := fun _ => Bool) true (fun c _ ih => cond (Nat.beq c.2.1 c.2.2) ih false) l
def zl_nul (e : zl_E) : Bool := Nat.beq e.1.1 e.1.2 && zl_az e.2
theorem zl_nv_0 {a : zl_N} (h : Nat.beq a.1 a.2 = true) : zl_nv a = 0 := by
  have h : a.1 = a.2 := Nat.eq_of_beq_eq_true h
  rw [zl_nv_eq, h]
  omega
theorem zl_nul_dt (s : Nat → Int) : ∀ (a : List (Nat × zl_N)), zl_az a = true → zl_dt s a = 0
  | [], _ => rfl
  | c :: r, h => by
    have h : cond (Nat.beq c.2.1 c.2.2) (zl_az r) false = true := h
    cases hc : Nat.beq c.2.1 c.2.2 with
    | false =>
      rw [hc] at h
      cases h
    | true =>
      rw [hc] at h
      show zl_nv c.2 * s c.1 + zl_dt s r = 0
      rw [zl_nul_dt s r h, zl_nv_0 hc]
      omega
theorem zl_nul_ok {s : Nat → Int} {e : zl_E} (h : zl_nul e = true) : zl_ev s e = 0 := by
  obtain ⟨h1, h2⟩ := zz_and h
  show zl_nv e.1 + zl_dt s e.2 = 0
  rw [zl_nul_dt s e.2 h2, zl_nv_0 h1]
  rfl
/-- a field of the world is set -/
theorem zk_J_pf {c : Nat} {HT : List (List zk_H)} {M : zk_M} {w0 : zk_W0} {w : zz_W} {ci i k x : Nat} {q : Nat × Nat × Int × Int} (hJ : zk_J c HT M w0 w) (hq : zk_fs HT ci i k = some q) (h2 : q.1 ≠ 2) (hx : x < 2 ^ 64) (hb : q.1 = 0 → q.2.2.1 ≤ (Int32.ofNat x).toInt ∧ (Int32.ofNat x).toInt ≤ q.2.2.2) (hM : (i, k) ∈ M.1) :
    ∃ w' : zz_W, (∀ (β : Type) (kk : zz_W → Option β), zz_st w i (3, ci, (zz_g w i).2.2.1, zz_to 64 (zz_g w i).2.2.2 k x) none kk = kk w') ∧ zk_J c HT M w0 w' ∧ zk_fd w' (i, k) = x ∧ (∀ j m, (j, m) ≠ (i, k) → zk_fd w' (j, m) = zk_fd w (j, m)) ∧ ∀ j, j ≠ i → zz_g w' j = zz_g w j := by
  obtain ⟨o1, o2, o3, o4, o5, o6, o7, o8⟩ := zk_fs_ok hq hJ.1
  obtain ⟨⟨s1, s2, s3, s4⟩, hsm, hw1, hw2, hk⟩ := hJ
  have hi : i < 16 * c := by omega
  have hg := zk_up_g (x := (3, ci, (zz_g w i).2.2.1, zz_to 64 (zz_g w i).2.2.2 k x)) s1 hi
  have hown : zk_fd (zz_up w i (3, ci, (zz_g w i).2.2.1, zz_to 64 (zz_g w i).2.2.2 k x)) (i, k) = x := by
    unfold zk_fd
    rw [hg, if_pos rfl]
    show zz_at 64 (zz_to 64 (zz_g w i).2.2.2 k x) k = x
    rw [zz_at_to hx, if_pos rfl]
  have hoth : ∀ j m, (j, m) ≠ (i, k) → zk_fd (zz_up w i (3, ci, (zz_g w i).2.2.1, zz_to 64 (zz_g w i).2.2.2 k x)) (j, m) = zk_fd w (j, m) := by
    intro j m hn
    unfold zk_fd
    rw [hg]
    by_cases e : j = i
    · subst e
      rw [if_pos rfl]
      show zz_at 64 (zz_to 64 (zz_g w j).2.2.2 k x) m = zz_at 64 (zz_g w j).2.2.2 m
      rw [zz_at_to hx, if_neg (fun e => hn (by rw [e]))]
    · rw [if_neg e]
  refine ⟨zz_up w i (3, ci, (zz_g w i).2.2.1, zz_to 64 (zz_g w i).2.2.2 k x), fun β kk => zk_up_st s1 hi, ⟨?_, ⟨fun j m h8 hn hl h3 => ?_, fun j hn hl h3 => ?_⟩, hw1, hw2, fun j hj => ?_⟩, hown, hoth, fun j hj => by rw [hg, if_neg hj]⟩
  · refine zk_I_up ⟨s1, s2, s3, s4⟩ o1 (fun hn => ?_)
    obtain ⟨-, g1, g2, g3, g4, g5, g6, -⟩ := s4 i hn
    refine ⟨by rw [o2], ?_, g3, fun h => absurd (o2.symm.trans h) (by decide), fun h => absurd (o2.symm.trans h) (by decide), fun _ m q' hq' => ?_, fun h => absurd (o2.symm.trans h) (by decide)⟩
    · rw [o3] at g2
      exact g2
    · have g6 := g6 o2 m q' hq'
      show (q'.1 = 0 → q'.2.2.1 ≤ (Int32.ofNat (zz_at 64 (zz_to 64 (zz_g w i).2.2.2 k x) m)).toInt ∧ _ ≤ q'.2.2.2) ∧ (q'.1 = 2 → zz_at 64 (zz_to 64 (zz_g w i).2.2.2 k x) m = q'.2.1)
      rw [zz_at_to hx]
      by_cases e : m = k
      · subst e
        rw [o5] at hq'
        cases hq'
        rw [if_pos rfl]
        exact ⟨hb, fun h => absurd h h2⟩
      · rw [if_neg e]
        exact g6
  · rw [hoth j m (fun e => hn (by rw [e]; exact hM))]
    exact hsm.1 j m h8 hn hl h3
  · have e : j ≠ i := by
      intro e
      subst e
      have := zk_k3_1 (hk j hl)
      rw [o3] at this
      exact h3 this.symm
    refine ⟨fun h8 => ?_, fun m hm hv => ?_⟩
    · rw [hg, if_neg e]
      exact (hsm.2 j hn hl h3).1 h8
    · unfold zk_el
      rw [hg, if_neg e]
      exact (hsm.2 j hn hl h3).2 m hm hv
  · rw [hg]
    by_cases e : j = i
    · subst e
      rw [if_pos rfl]
      rw [← hk j hj]
      exact zk_k3_of (by rw [o3]) (by rw [o3]) rfl
    · rw [if_neg e]
      exact hk j hj
/-- the fields that are followed but one -/
def zk_fr (F : List ((Nat × Nat) × zk_V)) (i k : Nat) : List ((Nat × Nat) × zk_V) := F.filter (fun q => !(Nat.beq q.1.1 i && Nat.beq q.1.2 k))
theorem zk_fr_ok {s : Nat → Int} {F : List ((Nat × Nat) × zk_V)} {i k : Nat} {w w' : zz_W} (h : zk_fl s F w) (ho : ∀ j m, (j, m) ≠ (i, k) → zk_fd w' (j, m) = zk_fd w (j, m)) : zk_fl s (zk_fr F i k) w' := by
  intro q hq
  obtain ⟨h1, h2⟩ := List.mem_filter.mp hq
  have hn : (q.1.1, q.1.2) ≠ (i, k) := by
    intro e
    cases e
    rw [Nat.beq_refl, Nat.beq_refl] at h2
    cases h2
  have := h q h1
  rw [show zk_fd w' q.1 = zk_fd w q.1 from ho q.1.1 q.1.2 hn]
  exact this
def zk_inM (M : List (Nat × Nat)) (i k : Nat) : Bool := M.any (fun q => Nat.beq q.1 i && Nat.beq q.2 k)
theorem zk_inM_ok {M : List (Nat × Nat)} {i k : Nat} (h : zk_inM M i k = true) : (i, k) ∈ M := by
  obtain ⟨q, h1, h2⟩ := List.any_eq_true.mp h
  obtain ⟨b1, b2⟩ := zz_and h2
  rw [← zz_beq b1, ← zz_beq b2]
  exact h1
/-- an int is set -/
def zt_putI (HT : List (List zk_H)) (M : zk_M) (h1 h2 : List Nat) (ci k : Nat) (A : zk_A) : Option zk_A := match A.2.1 with
  | (0, _, e) :: (2, i, _) :: T => match zk_fs HT ci i k with
    | some (0, _, lo, hi) => cond (zl_en A.2.2.2.1 A.2.2.2.2 h1 (zl_sub e (zl_con lo)) && (zl_en A.2.2.2.1 A.2.2.2.2 h2 (zl_sub (zl_con hi) e) && zk_inM M.1 i k)) (some (A.1, T, ((i, k), (0, 0, e)) :: zk_fr A.2.2.1 i k, A.2.2.2.1, A.2.2.2.2)) none
    | _ => none
  | _ => none
theorem zk_putI_gen {c : Nat} {HT : List (List zk_H)} {M : zk_M} {w0 : zk_W0} {A A' : zk_A} {h1 h2 : List Nat} {ci k n : Nat} {act : zz_A} {P : Int32 → Prop} (hP : ∀ x lo hi d e, (∃ i, zk_fs HT ci i k = some (0, d, lo, hi)) → lo ≤ x.toInt → x.toInt ≤ hi → e = x.toInt → P x) (ha : ∀ (K : zz_K) (p : Nat) (lv : List (Nat × Value)) (x : Int32) (i : Nat) (r : List Value) (w : zz_W), P x → act K (p, lv, .int x :: .ref i :: r, w) = zz_pf w i ci k (zz_nI x) (fun w => some (n, lv, r, w))) (h : zt_putI HT M h1 h2 ci k A = some A') : zk_SW c HT M w0 act n A A' (fun _ w w' => zk_rF (zk_tg1 A) k w w') := by
  obtain ⟨L, T0, F, B, C⟩ := A
  unfold zt_putI at h
  split at h
  · rename_i d1 e i e0 T hT
    have hT : T0 = (0, d1, e) :: (2, i, e0) :: T := hT
    subst hT
    split at h
    · rename_i d lo hi hfs
      obtain ⟨hb, h⟩ := zz_cond h
      obtain ⟨b1, hb⟩ := zz_and hb
      obtain ⟨b2, b3⟩ := zz_and hb
      cases h
      refine ⟨rfl, fun K s f hpv hG => ?_⟩
      obtain ⟨p, lv, st, w⟩ := f
      obtain ⟨g1, g2, g3, g4, g5, g6⟩ := hG
      obtain ⟨x, st1, q1, q2, q3⟩ := zk_st_int g2 rfl
      obtain ⟨v, st2, q4, q5, q6⟩ := zk_st_cons q3
      have e3 : v = .ref i := q5.2.2.1 rfl
      subst e3
      have hst : st = .int x :: .ref i :: st2 := by rw [← q4]; exact q1
      subst hst
      have q2 : x.toInt = zl_ev s e := q2
      have c1 := zl_en_ok g4 g5 b1
      have c2 := zl_en_ok g4 g5 b2
      rw [zl_sub_ev, zl_con_ev] at c1 c2
      have hx : (Int32.ofNat (zz_nI x)).toInt = x.toInt := by rw [zz_nI_of]
      obtain ⟨w', u1, u2, u3, u4, u5⟩ := zk_J_pf (x := zz_nI x) g6 hfs (fun h => absurd (show (0 : Nat) = 2 from h) (by decide)) (zk_nI64 x) (fun _ => by rw [hx]; exact ⟨show lo ≤ x.toInt by omega, show x.toInt ≤ hi by omega⟩) (zk_inM_ok b3)
      obtain ⟨o1, o2, o3, o4, o5, o6, o7, o8⟩ := zk_fs_ok hfs g6.1
      refine ⟨(n, lv, st2, w'), ?_, rfl, ⟨g1, q6, fun q hq => ?_, g4, g5, u2⟩, ⟨u5, fun m hm => u4 i m (fun e => hm (Prod.mk.inj e).2)⟩⟩
      · rw [ha K p lv x i st2 w (hP x lo hi d _ ⟨i, hfs⟩ (by omega) (by omega) rfl)]
        unfold zz_pf
        rw [o6]
        show zz_fN (zz_to 64 (zz_g w i).2.2.2 k (zz_nI x)) (fun N => zz_st w i (3, ci, (zz_g w i).2.2.1, N) none (fun w => some ((n, lv, st2, w) : zz_F))) = _
        rw [zz_fN_eq]
        exact u1 _ _
      · rcases List.mem_cons.mp hq with e1 | hq
        · subst e1
          refine ⟨fun _ => ?_, fun h => absurd (show (0 : Nat) = 2 from h) (by decide), fun h => absurd (show (0 : Nat) = 3 from h) (by decide)⟩
          rw [u3, hx]
          exact q2
        · exact zk_fr_ok g3 u4 q hq
    · cases h
  · cases h
theorem zt_putI_ok {c : Nat} {HT : List (List zk_H)} {M : zk_M} {w0 : zk_W0} {A A' : zk_A} {h1 h2 : List Nat} {ci k n : Nat} (h : zt_putI HT M h1 h2 ci k A = some A') : zk_SW c HT M w0 (za_putI ci k n) n A A' (fun _ w w' => zk_rF (zk_tg1 A) k w w') :=
  zk_putI_gen (P := fun _ => True) (fun _ _ _ _ _ _ _ _ _ => trivial) (fun K p lv x i r w _ => rfl) h
/-- a sum is not below 0, by bounds or by one of the sums, once, twice or six times -/
def zl_gq (B : List (Int × Int)) (C : List zl_E) (x : zl_E) : Bool := zl_pos B x || C.any (fun c => zl_pos B (zl_sub x c) || (zl_pos B (zl_sub x (zl_mul 2 c)) || zl_pos B (zl_sub x (zl_mul 6 c))))
theorem zl_gq_ok {s : Nat → Int} {B : List (Int × Int)} {C : List zl_E} {x : zl_E} (hB : zl_in s B) (hC : ∀ c ∈ C, 0 ≤ zl_ev s c) (h : zl_gq B C x = true) : 0 ≤ zl_ev s x := by
  rcases Bool.or_eq_true_iff.mp h with h | h
  · exact zl_pos_ok hB h
  · obtain ⟨c, c1, c2⟩ := List.any_eq_true.mp h
    have hc := hC c c1
    rcases Bool.or_eq_true_iff.mp c2 with h | h
    · have := zl_pos_ok hB h
      rw [zl_sub_ev] at this
      omega
    · rcases Bool.or_eq_true_iff.mp h with h | h
      · have := zl_pos_ok hB h
        rw [zl_sub_ev, zl_mul_ev] at this
        omega
      · have := zl_pos_ok hB h
        rw [zl_sub_ev, zl_mul_ev] at this
        omega
/-- the element at e of row i may change -/
def zk_inP (M : zk_M) (B : List (Int × Int)) (C : List zl_E) (i : Nat) (e : zl_E) : Bool := zk_inM M.1 i 999 || (zk_inM M.1 i 998 && M.2.any (fun p => (Nat.beq p.1 i && zl_nul (zl_sub p.2 e)) || (Nat.beq p.1 (i + 10000000) && zl_gq B C (zl_sub e p.2))))
theorem zk_inP_ok {M : zk_M} {B : List (Int × Int)} {C : List zl_E} {w0 : zk_W0} {i : Nat} {e : zl_E} {s : Nat → Int} {j : Nat} (hB : zl_in s B) (hC : ∀ c ∈ C, 0 ≤ zl_ev s c) (hpv : zk_pv s M.2 w0.2) (h : zk_inP M B C i e = true) (hj : (j : Int) = zl_ev s e) : (i, 999) ∈ M.1 ∨ (i, 998) ∈ M.1 ∧ ¬ zk_fre w0.2 i (j : Int) := by
  rcases Bool.or_eq_true_iff.mp h with h | h
  · exact Or.inl (zk_inM_ok h)
  · obtain ⟨b1, b2⟩ := zz_and h
    obtain ⟨p, p1, p2⟩ := List.any_eq_true.mp b2
    refine Or.inr ⟨zk_inM_ok b1, fun hf => ?_⟩
    have h2 := hpv p p1
    rcases Bool.or_eq_true_iff.mp p2 with p2 | p2
    · obtain ⟨c1, c2⟩ := zz_and p2
      have h1 := zl_nul_ok (s := s) c2
      rw [zl_sub_ev] at h1
      rw [zz_beq c1] at h2
      refine hf.1 ?_
      rw [hj, show zl_ev s e = zl_ev s p.2 by omega]
      exact h2
    · obtain ⟨c1, c2⟩ := zz_and p2
      have h1 := zl_gq_ok hB hC c2
      rw [zl_sub_ev] at h1
      rw [zz_beq c1] at h2
      have h3 := hf.2 _ h2
      omega
/-- the place of a row -/
def zk_rs (HT : List (List zk_H)) (kd t i : Nat) : Option (Nat × Int × Int) :=
  cond (Nat.beq (zk_h HT i).1 kd && (Nat.beq (zk_h HT i).2.1 t && Nat.ble (zk_h HT i).2.2.1 2147483648)) (some ((zk_h HT i).2.2.1, (zk_h HT i).2.2.2.1, (zk_h HT i).2.2.2.2.1)) none
theorem zk_rs_ok {c : Nat} {HT : List (List zk_H)} {kd t i len : Nat} {lo hi : Int} {w : zz_W} (h : zk_rs HT kd t i = some (len, lo, hi)) (hkd : kd ≠ 9) (hI : zk_I c HT w) : i < w.1 ∧ (zk_h HT i).1 = kd ∧ (zk_h HT i).2.2.1 = len ∧ (zz_g w i) = (kd, t, len, (zz_g w i).2.2.2) ∧ (kd = 0 → ∀ j, j < len → (lo ≤ (Int32.ofNat (zz_at 32 (zz_g w i).2.2.2 j)).toInt ∧ (Int32.ofNat (zz_at 32 (zz_g w i).2.2.2 j)).toInt ≤ hi) ∧ ∀ q : Nat × Nat × Int × Int, (zk_h HT i).2.2.2.2.2[j % (zk_h HT i).2.2.2.2.2.length]? = some q → q.2.2.1 ≤ (Int32.ofNat (zz_at 32 (zz_g w i).2.2.2 j)).toInt ∧ (Int32.ofNat (zz_at 32 (zz_g w i).2.2.2 j)).toInt ≤ q.2.2.2) ∧ ∀ j, j < len → zz_ir w i kd t j = true := by
  unfold zk_rs at h
  obtain ⟨hb, h⟩ := zz_cond h
  obtain ⟨b1, hb⟩ := zz_and hb
  obtain ⟨b2, b3⟩ := zz_and hb
  have e1 := zz_beq b1
  have e2 := zz_beq b2
  have h : ((zk_h HT i).2.2.1, (zk_h HT i).2.2.2.1, (zk_h HT i).2.2.2.2.1) = (len, lo, hi) := Option.some.inj h
  have e4 : (zk_h HT i).2.2.1 = len := congrArg (fun q => q.1) h
  have e5 : (zk_h HT i).2.2.2.1 = lo := congrArg (fun q => q.2.1) h
  have e6 : (zk_h HT i).2.2.2.2.1 = hi := congrArg (fun q => q.2.2) h
  obtain ⟨hi', g1, g2, g3, g4, -, -⟩ := hI.2.2.2 i (by omega)
  have a0 : (zz_g w i) = (kd, t, len, (zz_g w i).2.2.2) := by
    rw [← e1, ← e2, ← e4, ← g1, ← g2, ← g3]
  refine ⟨hi', e1, e4, a0, fun h0 j hj => ?_, fun j hj => ?_⟩
  · have := g4 (e1.trans h0) j (by rw [e4]; exact hj)
    rw [e5, e6] at this
    exact this
  · unfold zz_ir
    have a1 : Nat.blt i w.1 = true := Nat.ble_eq.mpr hi'
    have a2 : Nat.blt i 1000000 = true := Nat.ble_eq.mpr (by have := hI.2.2.1; omega)
    have a3 : Nat.blt j len = true := Nat.ble_eq.mpr hj
    rw [e4] at b3
    rw [g1, g2, g3, e1, e2, e4, a1, a2, a3, b3, Nat.beq_refl, Nat.beq_refl]
    rfl
/-- an index is within a row -/
def zk_ix (A : zk_A) (h1 h2 : List Nat) (e : zl_E) (len : Nat) : Bool := zl_en A.2.2.2.1 A.2.2.2.2 h1 e && zl_en A.2.2.2.1 A.2.2.2.2 h2 (zl_sub (zl_con ((len : Int) - 1)) e)
theorem zk_ix_ok {A : zk_A} {h1 h2 : List Nat} {e : zl_E} {len : Nat} {s : Nat → Int} {j : Int32} (h : zk_ix A h1 h2 e len = true) (h4 : zl_in s A.2.2.2.1) (h5 : zk_cs s A.2.2.2.2) (hj : j.toInt = zl_ev s e) : zz_nI j < len := by
  obtain ⟨b1, b2⟩ := zz_and h
  have c1 := zl_en_ok h4 h5 b1
  have c2 := zl_en_ok h4 h5 b2
  rw [zl_sub_ev, zl_con_ev] at c2
  have := zk_nI (x := j) (by omega)
  omega
def zt_aldI (HT : List (List zk_H)) (h1 h2 : List Nat) (t : Nat) (A : zk_A) : Option zk_A := match A.2.1 with
  | (0, _, e) :: (2, i, _) :: T => match zk_rs HT 0 t i with
    | some (len, lo, hi) => cond (zk_ix A h1 h2 e len) (zk_new A T lo hi) none
    | none => none
  | _ => none
theorem zt_aldI_ok {c : Nat} {HT : List (List zk_H)} {I : zz_W → Prop} (hI : ∀ w, I w → zk_I c HT w) {A A' : zk_A} {h1 h2 : List Nat} {t n : Nat} (h : zt_aldI HT h1 h2 t A = some A') : zk_S I (za_aldI t n) n A A' := by
  obtain ⟨L, T0, F, B, C⟩ := A
  unfold zt_aldI at h
  split at h
  · rename_i d1 e i e0 T hT
    have hT : T0 = (0, d1, e) :: (2, i, e0) :: T := hT
    subst hT
    split at h
    · rename_i len lo hi hrs
      obtain ⟨hb, h⟩ := zz_cond h
      refine ⟨zk_new_len h, fun K s f hG => ?_⟩
      obtain ⟨p, lv, st, w⟩ := f
      obtain ⟨g1, g2, g3, g4, g5, g6⟩ := hG
      obtain ⟨j, st1, q1, q2, q3⟩ := zk_st_int g2 rfl
      obtain ⟨v, st2, q4, q5, q6⟩ := zk_st_cons q3
      have e3 : v = .ref i := q5.2.2.1 rfl
      subst e3
      have hst : st = .int j :: .ref i :: st2 := by rw [← q4]; exact q1
      subst hst
      have hj := zk_ix_ok hb g4 g5 q2
      obtain ⟨o1, o2, o3, o4, o5, o6⟩ := zk_rs_ok hrs (by decide) (hI _ g6)
      have o5 := (o5 rfl _ hj).1
      obtain ⟨-, s', hg, hs⟩ := zk_new_ok (I := I) (x := Int32.ofNat (zz_at 32 (zz_g w i).2.2.2 (zz_nI j))) (n := n) (w := w) (lv := lv) h g1 q6 g3 g4 g5 g6 o5.1 o5.2
      refine ⟨s', _, ?_, rfl, hg, hs⟩
      show cond (zz_ir w i 0 t (zz_nI j)) (zz_fN (zz_at 32 (zz_g w i).2.2.2 (zz_nI j)) (fun v => some ((n, lv, .int (Int32.ofNat v) :: st2, w) : zz_F))) none = _
      rw [o6 _ hj, zz_fN_eq]
      rfl
    · cases h
  · cases h
/-- rows with a stride: the rest of a place is known, if all factors are multiples of the stride -/
def zl_md (n : Nat) (e : zl_E) : Bool := e.2.all (fun q => Nat.beq (q.2.1 % n) (q.2.2 % n))
theorem zl_md_dt {n : Nat} {s : Nat → Int} : ∀ {l : List (Nat × zl_N)}, l.all (fun q => Nat.beq (q.2.1 % n) (q.2.2 % n)) = true → (n : Int) ∣ zl_dt s l
  | [], _ => ⟨0, by rw [Int.mul_zero]; rfl⟩
  | q :: l, h => by
    rw [List.all_cons] at h
    obtain ⟨h1, h2⟩ := zz_and h
    have h3 := zz_beq h1
    have h4 : (n : Int) ∣ zl_nv q.2 := by
      rw [zl_nv_eq]
      have a1 := Nat.div_add_mod q.2.1 n
      have a2 := Nat.div_add_mod q.2.2 n
      rw [h3] at a1
      refine ⟨((q.2.1 / n : Nat) : Int) - ((q.2.2 / n : Nat) : Int), ?_⟩
      rw [Int.mul_sub]
      have b1 : ((n * (q.2.1 / n) + q.2.2 % n : Nat) : Int) = (q.2.1 : Int) := by rw [a1]
      have b2 : ((n * (q.2.2 / n) + q.2.2 % n : Nat) : Int) = (q.2.2 : Int) := by rw [a2]
      rw [Int.natCast_add, Int.natCast_mul] at b1 b2
      omega
    obtain ⟨x, hx⟩ := h4
    obtain ⟨y, hy⟩ := zl_md_dt (s := s) h2
    refine ⟨x * s q.1 + y, ?_⟩
    show zl_nv q.2 * s q.1 + zl_dt s l = _
    rw [hx, hy, Int.mul_add, Int.mul_assoc]
theorem zl_md_ok {n : Nat} {s : Nat → Int} {e : zl_E} {j : Nat} (h : zl_md n e = true) (hj : (j : Int) = zl_ev s e) : (Int.emod (zl_nv e.1) (n : Int)).toNat = j % n := by
  obtain ⟨y, hy⟩ := zl_md_dt (s := s) h
  have h1 : (j : Int) = zl_nv e.1 + (n : Int) * y := by
    rw [hj, ← hy]
    rfl
  have h2 : Int.emod (zl_nv e.1) (n : Int) = ((j % n : Nat) : Int) := by
    show zl_nv e.1 % (n : Int) = _
    rw [Int.natCast_emod, h1, Int.add_mul_emod_self_left]
  rw [h2]
  rfl
def zk_sb (L : List (Nat × Nat × Int × Int)) (lo hi : Int) (e : zl_E) : Int × Int := cond (zl_md L.length e) (match L[(Int.emod (zl_nv e.1) (L.length : Int)).toNat]? with
  | some q => (cond (decide (lo ≤ q.2.2.1)) q.2.2.1 lo, cond (decide (q.2.2.2 ≤ hi)) q.2.2.2 hi)
  | none => (lo, hi)) (lo, hi)
theorem zk_mx (a b : Int) : (cond (decide (a ≤ b)) b a = b ∧ a ≤ b) ∨ (cond (decide (a ≤ b)) b a = a ∧ b < a) := by
  by_cases h : a ≤ b
  · rw [decide_eq_true h]
    exact Or.inl ⟨rfl, h⟩
  · rw [decide_eq_false h]
    exact Or.inr ⟨rfl, by omega⟩
theorem zk_mn (a b : Int) : (cond (decide (b ≤ a)) b a = b ∧ b ≤ a) ∨ (cond (decide (b ≤ a)) b a = a ∧ a < b) := by
  by_cases h : b ≤ a
  · rw [decide_eq_true h]
    exact Or.inl ⟨rfl, h⟩
  · rw [decide_eq_false h]
    exact Or.inr ⟨rfl, by omega⟩
theorem zk_sb_le (L : List (Nat × Nat × Int × Int)) (lo hi : Int) (e : zl_E) : lo ≤ (zk_sb L lo hi e).1 ∧ (zk_sb L lo hi e).2 ≤ hi := by
  unfold zk_sb
  cases zl_md L.length e with
  | false => exact ⟨Int.le_refl _, Int.le_refl _⟩
  | true =>
    cases L[(Int.emod (zl_nv e.1) (L.length : Int)).toNat]? with
    | none => exact ⟨Int.le_refl _, Int.le_refl _⟩
    | some q =>
      show lo ≤ cond (decide (lo ≤ q.2.2.1)) q.2.2.1 lo ∧ cond (decide (q.2.2.2 ≤ hi)) q.2.2.2 hi ≤ hi
      have h1 := zk_mx lo q.2.2.1
      have h2 := zk_mn hi q.2.2.2
      omega
theorem zk_sb_r {L : List (Nat × Nat × Int × Int)} {lo hi x : Int} {e : zl_E} {s : Nat → Int} {j : Nat} (hj : (j : Int) = zl_ev s e) (hb : lo ≤ x ∧ x ≤ hi) (hq : ∀ q : Nat × Nat × Int × Int, L[j % L.length]? = some q → q.2.2.1 ≤ x ∧ x ≤ q.2.2.2) : (zk_sb L lo hi e).1 ≤ x ∧ x ≤ (zk_sb L lo hi e).2 := by
  unfold zk_sb
  cases hm : zl_md L.length e with
  | false => exact hb
  | true =>
    rw [zl_md_ok hm hj]
    cases hk : L[j % L.length]? with
    | none => exact hb
    | some q =>
      show cond (decide (lo ≤ q.2.2.1)) q.2.2.1 lo ≤ x ∧ x ≤ cond (decide (q.2.2.2 ≤ hi)) q.2.2.2 hi
      have h0 := hq q hk
      have h1 := zk_mx lo q.2.2.1
      have h2 := zk_mn hi q.2.2.2
      omega
def zk_swz (L : List (Nat × Nat × Int × Int)) (e : zl_E) : Bool := cond (Nat.beq L.length 0) true (zl_md L.length e)
theorem zk_sb_w {L : List (Nat × Nat × Int × Int)} {lo hi x : Int} {e : zl_E} {s : Nat → Int} {j : Nat} (hw : zk_swz L e = true) (hj : (j : Int) = zl_ev s e) (h1 : (zk_sb L lo hi e).1 ≤ x) (h2 : x ≤ (zk_sb L lo hi e).2) (q : Nat × Nat × Int × Int) (hq : L[j % L.length]? = some q) : q.2.2.1 ≤ x ∧ x ≤ q.2.2.2 := by
  unfold zk_swz at hw
  cases hb : Nat.beq L.length 0 with
  | true =>
    have : L = [] := List.length_eq_zero_iff.mp (zz_beq hb)
    rw [this] at hq
    cases hq
  | false =>
    rw [hb] at hw
    have hw : zl_md L.length e = true := hw
    unfold zk_sb at h1 h2
    rw [hw, zl_md_ok hw hj, hq] at h1 h2
    have h1 : cond (decide (lo ≤ q.2.2.1)) q.2.2.1 lo ≤ x := h1
    have h2 : x ≤ cond (decide (q.2.2.2 ≤ hi)) q.2.2.2 hi := h2
    have h3 := zk_mx lo q.2.2.1
    have h4 := zk_mn hi q.2.2.2
    omega
/-- a row's element is set -/
theorem zk_J_pr {c : Nat} {HT : List (List zk_H)} {M : zk_M} {w0 : zk_W0} {w : zz_W} {t i len j x : Nat} {lo hi : Int} (hJ : zk_J c HT M w0 w) (hr : zk_rs HT 0 t i = some (len, lo, hi)) (hx : x < 2 ^ 32) (hb : lo ≤ (Int32.ofNat x).toInt ∧ (Int32.ofNat x).toInt ≤ hi) (hq : ∀ q : Nat × Nat × Int × Int, (zk_h HT i).2.2.2.2.2[j % (zk_h HT i).2.2.2.2.2.length]? = some q → q.2.2.1 ≤ (Int32.ofNat x).toInt ∧ (Int32.ofNat x).toInt ≤ q.2.2.2) (hM : (i, 999) ∈ M.1 ∨ (i, 998) ∈ M.1 ∧ ¬ zk_fre w0.2 i (j : Int)) :
    ∃ w' : zz_W, (∀ (β : Type) (kk : zz_W → Option β), zz_st w i (0, t, (zz_g w i).2.2.1, zz_to 32 (zz_g w i).2.2.2 j x) none kk = kk w') ∧ zk_J c HT M w0 w' ∧ (∀ a m, (zk_h HT a).1 = 3 → zk_fd w' (a, m) = zk_fd w (a, m)) ∧ (∀ a, a ≠ i → zz_g w' a = zz_g w a) ∧ (zz_g w' i).2.2.2 = zz_to 32 (zz_g w i).2.2.2 j x := by
  obtain ⟨o1, o2, o3, o4, o5, o6⟩ := zk_rs_ok hr (by decide) hJ.1
  obtain ⟨⟨s1, s2, s3, s4⟩, hsm, hw1, hw2, hk⟩ := hJ
  have hi' : i < 16 * c := by omega
  have hg := zk_up_g (x := (0, t, (zz_g w i).2.2.1, zz_to 32 (zz_g w i).2.2.2 j x)) s1 hi'
  have h0 : (zz_g w i).1 = 0 := by rw [o4]
  refine ⟨zz_up w i (0, t, (zz_g w i).2.2.1, zz_to 32 (zz_g w i).2.2.2 j x), fun β kk => zk_up_st s1 hi', ⟨?_, ⟨fun a m h8 hn hl h3 => ?_, fun a hn hl h3 => ?_⟩, hw1, hw2, fun a ha => ?_⟩, fun a m h3 => ?_, fun a ha => by rw [hg, if_neg ha], by rw [hg, if_pos rfl]⟩
  · refine zk_I_up ⟨s1, s2, s3, s4⟩ o1 (fun hn => ?_)
    obtain ⟨-, g1, g2, g3, g4, g5, g6, -⟩ := s4 i hn
    refine ⟨o2.symm, ?_, g3, fun _ m hm => ?_, fun h => absurd (o2.symm.trans h) (by decide), fun h => absurd (o2.symm.trans h) (by decide), fun h => absurd (o2.symm.trans h) (by decide)⟩
    · rw [o4] at g2
      exact g2
    · show (_ ≤ (Int32.ofNat (zz_at 32 (zz_to 32 (zz_g w i).2.2.2 j x) m)).toInt ∧ (Int32.ofNat (zz_at 32 (zz_to 32 (zz_g w i).2.2.2 j x) m)).toInt ≤ _) ∧ ∀ q : Nat × Nat × Int × Int, _ → q.2.2.1 ≤ (Int32.ofNat (zz_at 32 (zz_to 32 (zz_g w i).2.2.2 j x) m)).toInt ∧ (Int32.ofNat (zz_at 32 (zz_to 32 (zz_g w i).2.2.2 j x) m)).toInt ≤ q.2.2.2
      rw [zz_at_to hx]
      by_cases e : m = j
      · rw [if_pos e]
        unfold zk_rs at hr
        obtain ⟨-, hr⟩ := zz_cond hr
        have hr : ((zk_h HT i).2.2.1, (zk_h HT i).2.2.2.1, (zk_h HT i).2.2.2.2.1) = (len, lo, hi) := Option.some.inj hr
        have e5 : (zk_h HT i).2.2.2.1 = lo := congrArg (fun q => q.2.1) hr
        have e6 : (zk_h HT i).2.2.2.2.1 = hi := congrArg (fun q => q.2.2) hr
        rw [e5, e6]
        refine ⟨hb, ?_⟩
        rw [e]
        exact hq
      · rw [if_neg e]
        exact g4 o2 m hm
  · unfold zk_fd
    rw [hg]
    by_cases e : a = i
    · exfalso
      subst e
      have := zk_k3_1 (hk a hl)
      omega
    · rw [if_neg e]
      exact hsm.1 a m h8 hn hl h3
  · by_cases e : a = i
    · subst e
      rcases hM with hM | ⟨hM1, hM2⟩
      · exact absurd hM hn
      · refine ⟨fun h8 => absurd hM1 h8, fun m hm hv => ?_⟩
        rw [← (hsm.2 a hn hl h3).2 m hm hv]
        unfold zk_el
        rw [hg, if_pos rfl]
        show (Int32.ofNat (zz_at 32 (zz_to 32 (zz_g w a).2.2.2 j x) m.toNat)).toInt = _
        have hne : m.toNat ≠ j := by
          intro e2
          have : m = (j : Int) := by omega
          rw [this] at hv
          exact hM2 hv
        rw [zz_at_to hx, if_neg hne]
    · refine ⟨fun h8 => ?_, fun m hm hv => ?_⟩
      · rw [hg, if_neg e]
        exact (hsm.2 a hn hl h3).1 h8
      · unfold zk_el
        rw [hg, if_neg e]
        exact (hsm.2 a hn hl h3).2 m hm hv
  · rw [hg]
    by_cases e : a = i
    · subst e
      rw [if_pos rfl]
      rw [← hk a ha]
      exact zk_k3_of h0 (by rw [o4]) rfl
    · rw [if_neg e]
      exact hk a ha
  · unfold zk_fd
    rw [hg]
    by_cases e : a = i
    · subst e
      omega
    · rw [if_neg e]
def zt_astI (HT : List (List zk_H)) (M : zk_M) (h1 h2 h3 h4 : List Nat) (t : Nat) (A : zk_A) : Option zk_A := match A.2.1 with
  | (0, _, ev) :: (0, _, e) :: (2, i, _) :: T => match zk_rs HT 0 t i with
    | some (len, lo, hi) => cond (zk_ix A h1 h2 e len && (zl_en A.2.2.2.1 A.2.2.2.2 h3 (zl_sub ev (zl_con (zk_sb (zk_h HT i).2.2.2.2.2 lo hi e).1)) && (zl_en A.2.2.2.1 A.2.2.2.2 h4 (zl_sub (zl_con (zk_sb (zk_h HT i).2.2.2.2.2 lo hi e).2) ev) && (zk_inP M A.2.2.2.1 A.2.2.2.2 i e && (A.2.2.1.all (fun q => Nat.beq (zk_h HT q.1.1).1 3) && zk_swz (zk_h HT i).2.2.2.2.2 e))))) (some (A.1, T, A.2.2.1, A.2.2.2.1, A.2.2.2.2)) none
    | none => none
  | _ => none
theorem zt_astI_ok {c : Nat} {HT : List (List zk_H)} {M : zk_M} {w0 : zk_W0} {A A' : zk_A} {h1 h2 h3 h4 : List Nat} {t n : Nat} (h : zt_astI HT M h1 h2 h3 h4 t A = some A') : zk_SW c HT M w0 (za_astI t n) n A A' (fun s w w' => zk_rR (zk_tg2 A) (zl_ev s (zk_ix2 A)) w w' ∧ 0 ≤ zl_ev s (zk_ix2 A) ∧ (true = true → zk_el w' (zk_tg2 A) (zl_ev s (zk_ix2 A)) = zl_ev s (zk_vl A))) := by
  obtain ⟨L, T0, F, B, C⟩ := A
  unfold zt_astI at h
  split at h
  · rename_i d0 ev d1 e i e0 T hT
    have hT : T0 = (0, d0, ev) :: (0, d1, e) :: (2, i, e0) :: T := hT
    subst hT
    split at h
    · rename_i len lo hi hrs
      obtain ⟨hb, h⟩ := zz_cond h
      obtain ⟨b1, hb⟩ := zz_and hb
      obtain ⟨b2, hb⟩ := zz_and hb
      obtain ⟨b3, hb⟩ := zz_and hb
      obtain ⟨b5, b4⟩ := zz_and hb
      obtain ⟨b4, b6⟩ := zz_and b4
      cases h
      refine ⟨rfl, fun K s f hpv hG => ?_⟩
      obtain ⟨p, lv, st, w⟩ := f
      obtain ⟨g1, g2, g3, g4, g5, g6⟩ := hG
      obtain ⟨x, st0, r1, r2, r3⟩ := zk_st_int g2 rfl
      obtain ⟨j, st1, q1, q2, q3⟩ := zk_st_int r3 rfl
      obtain ⟨v, st2, q4, q5, q6⟩ := zk_st_cons q3
      have e3 : v = .ref i := q5.2.2.1 rfl
      subst e3
      have hst : st = .int x :: .int j :: .ref i :: st2 := by rw [← q4, ← q1]; exact r1
      subst hst
      have r2 : x.toInt = zl_ev s ev := r2
      have hj := zk_ix_ok b1 g4 g5 q2
      have c1 := zl_en_ok g4 g5 b2
      have c2 := zl_en_ok g4 g5 b3
      rw [zl_sub_ev, zl_con_ev] at c1 c2
      have hx : (Int32.ofNat (zz_nI x)).toInt = x.toInt := by rw [zz_nI_of]
      obtain ⟨o1, o2, o3, o4, o5, o6⟩ := zk_rs_ok hrs (by decide) g6.1
      have hjz : ((zz_nI j : Nat) : Int) = zl_ev s e := by rw [← q2]; exact zk_nI (by have := zl_en_ok g4 g5 (zz_and b1).1; have q2 : j.toInt = zl_ev s e := q2; omega)
      have hsl := zk_sb_le (zk_h HT i).2.2.2.2.2 lo hi e
      obtain ⟨w', u1, u2, u3, u4, u5⟩ := zk_J_pr (j := zz_nI j) (x := zz_nI x) g6 hrs (zz_nI_lt x) (by rw [hx]; constructor <;> omega) (zk_sb_w (lo := lo) (hi := hi) b6 hjz (by rw [hx]; omega) (by rw [hx]; omega)) (zk_inP_ok g4 g5 hpv b5 (by rw [← q2]; exact zk_nI (by have := zl_en_ok g4 g5 (zz_and b1).1; have q2 : j.toInt = zl_ev s e := q2; omega)))
      have q2 : j.toInt = zl_ev s e := q2
      have hj0 : 0 ≤ j.toInt := by
        have := zl_en_ok g4 g5 (zz_and b1).1
        omega
      have hrel := zk_el_to (x := zz_nI x) hj0 (zz_nI_lt x) u4 u5
      rw [hx, r2, q2] at hrel
      refine ⟨(n, lv, st2, w'), ?_, rfl, ⟨g1, q6, fun q hq => ?_, g4, g5, u2⟩, hrel.1, (by rw [← q2]; exact hj0 : 0 ≤ zl_ev s e), fun _ => hrel.2⟩
      · show zz_pr w i 0 t 32 (zz_nI j) (zz_nI x) (fun w => some ((n, lv, st2, w) : zz_F)) = _
        unfold zz_pr
        rw [o6 _ hj]
        show zz_fN (zz_to 32 (zz_g w i).2.2.2 (zz_nI j) (zz_nI x)) (fun N => zz_st w i (0, t, (zz_g w i).2.2.1, N) none (fun w => some ((n, lv, st2, w) : zz_F))) = _
        rw [zz_fN_eq]
        exact u1 _ _
      · have := g3 q hq
        rw [show zk_fd w' q.1 = zk_fd w q.1 from u3 q.1.1 q.1.2 (zz_beq (List.all_eq_true.mp b4 q hq))]
        exact this
    · cases h
  · cases h
end
end
section
/-! EDGES: a frame of A is one of D too, with sums of A's symbols for D's; calls: what comes in and what goes out -/
noncomputable section
/-- what the new symbols are -/
def zk_u (s : Nat → Int) (t : List zl_E) (j : Nat) : Int := match t[j]? with
  | some q => zl_ev s q
  | none => 0
theorem zk_u_at {s : Nat → Int} {t : List zl_E} (j : Nat) (q : zl_E) (h : t[j]? = some q) : zk_u s t j = zl_ev s q := by
  unfold zk_u
  rw [h]
/-- a value of A is one of D -/
def zk_veq (t : List zl_E) (d a : zk_V) : Bool := Nat.beq d.1 a.1 && (cond (Nat.beq d.1 0) (Nat.ble (zl_mx d.2.2.2) t.length && zl_nul (zl_sub (zl_subst t d.2.2) a.2.2)) (cond (Nat.beq d.1 2) (Nat.beq d.2.1 a.2.1) (Nat.ble d.1 3 && cond (Nat.beq d.2.1 1) (Nat.beq a.2.1 1 && (Nat.ble (zl_mx d.2.2.2) t.length && zl_nul (zl_sub (zl_subst t d.2.2) a.2.2))) true)))
theorem zk_veq_ev {s : Nat → Int} {t : List zl_E} {d a : zk_V} (h : zk_veq t d a = true) : d.1 = a.1 ∧ (d.1 = 0 → zl_ev (zk_u s t) d.2.2 = zl_ev s a.2.2) ∧ (d.1 = 2 → d.2.1 = a.2.1) ∧ (d.1 = 1 → d.2.1 = 1 → a.2.1 = 1 ∧ zl_ev (zk_u s t) d.2.2 = zl_ev s a.2.2) := by
  obtain ⟨b1, b2⟩ := zz_and h
  refine ⟨zz_beq b1, fun h0 => ?_, fun h2 => ?_, fun h1 h2 => ?_⟩
  · rw [h0] at b2
    obtain ⟨b3, b4⟩ := zz_and (show (Nat.ble (zl_mx d.2.2.2) t.length && zl_nul (zl_sub (zl_subst t d.2.2) a.2.2)) = true from b2)
    have h1 := zl_nul_ok (s := s) b4
    rw [zl_sub_ev, zl_subst_ev (u := zk_u s t) (zz_ble b3) zk_u_at] at h1
    omega
  · rw [h2] at b2
    exact zz_beq (show Nat.beq d.2.1 a.2.1 = true from b2)
  · rw [h1] at b2
    obtain ⟨-, b3⟩ := zz_and (show (Nat.ble 1 3 && cond (Nat.beq d.2.1 1) (Nat.beq a.2.1 1 && (Nat.ble (zl_mx d.2.2.2) t.length && zl_nul (zl_sub (zl_subst t d.2.2) a.2.2))) true) = true from b2)
    rw [h2] at b3
    obtain ⟨b4, b5⟩ := zz_and (show (Nat.beq a.2.1 1 && (Nat.ble (zl_mx d.2.2.2) t.length && zl_nul (zl_sub (zl_subst t d.2.2) a.2.2))) = true from b3)
    obtain ⟨b6, b7⟩ := zz_and b5
    have h3 := zl_nul_ok (s := s) b7
    rw [zl_sub_ev, zl_subst_ev (u := zk_u s t) (zz_ble b6) zk_u_at] at h3
    exact ⟨zz_beq b4, by omega⟩
theorem zk_veq_v {s : Nat → Int} {t : List zl_E} {d a : zk_V} {v : Value} (h : zk_veq t d a = true) (hv : zk_v s a v) : zk_v (zk_u s t) d v := by
  obtain ⟨e1, e2, e3, e4⟩ := zk_veq_ev (s := s) h
  refine ⟨fun h0 => ?_, fun h1 => ?_, fun h2 => ?_, fun h3 => hv.2.2.2 (e1.symm.trans h3)⟩
  · obtain ⟨x, x1, x2⟩ := hv.1 (e1.symm.trans h0)
    exact ⟨x, x1, by rw [x2, e2 h0]⟩
  · obtain ⟨x, x1, x2⟩ := hv.2.1 (e1.symm.trans h1)
    exact ⟨x, x1, fun h2 => by
      obtain ⟨e5, e6⟩ := e4 h1 h2
      rw [x2 e5, e6]⟩
  · rw [hv.2.2.1 (e1.symm.trans h2), e3 h2]
theorem zk_veq_n {s : Nat → Int} {t : List zl_E} {d a : zk_V} {n : Nat} (h : zk_veq t d a = true) (hv : zk_n s a n) : zk_n (zk_u s t) d n := by
  obtain ⟨e1, e2, e3, -⟩ := zk_veq_ev (s := s) h
  refine ⟨fun h0 => ?_, fun h2 => ?_, fun h3 => hv.2.2 (e1.symm.trans h3)⟩
  · rw [hv.1 (e1.symm.trans h0), e2 h0]
  · rw [hv.2.1 (e1.symm.trans h2), e3 h2]
def zk_teq (t : List zl_E) : List zk_V → List zk_V → Bool
  | [], [] => true
  | d :: ds, a :: as => zk_veq t d a && zk_teq t ds as
  | _, _ => false
theorem zk_teq_ok {s : Nat → Int} {t : List zl_E} : ∀ {D A : List zk_V} {st : List Value}, zk_teq t D A = true → zk_st s A st → zk_st (zk_u s t) D st
  | [], [], [], _, _ => trivial
  | [], [], _ :: _, _, h => h.elim
  | [], _ :: _, _, h, _ => by cases h
  | _ :: _, [], _, h, _ => by cases h
  | d :: ds, a :: as, [], _, h => h.elim
  | d :: ds, a :: as, v :: vs, h, h2 => by
    obtain ⟨b1, b2⟩ := zz_and h
    exact ⟨zk_veq_v b1 h2.1, zk_teq_ok b2 h2.2⟩
def zk_leq (t : List zl_E) (D A : List (Nat × zk_V)) : Bool := D.all (fun q => match zk_lk A q.1 with
  | some a => zk_veq t q.2 a
  | none => false)
def zk_feq (t : List zl_E) (D A : List ((Nat × Nat) × zk_V)) : Bool := D.all (fun q => match zk_fk A q.1.1 q.1.2 with
  | some a => zk_veq t q.2 a
  | none => false)
/-- the bounds: two hints each -/
def zk_bnd (B : List (Int × Int)) (C : List zl_E) : List (Int × Int) → List zl_E → List (List Nat) → Bool
  | [], [], _ => true
  | q :: qs, e :: es, h1 :: h2 :: hs => zl_en B C h1 (zl_sub e (zl_con q.1)) && (zl_en B C h2 (zl_sub (zl_con q.2) e) && zk_bnd B C qs es hs)
  | _, _, _ => false
theorem zk_bnd_ok {s : Nat → Int} {B : List (Int × Int)} {C : List zl_E} (hB : zl_in s B) (hC : zk_cs s C) : ∀ {Q : List (Int × Int)} {t : List zl_E} {hs : List (List Nat)}, zk_bnd B C Q t hs = true → Q.length = t.length ∧ ∀ (k : Nat) (q : Int × Int), Q[k]? = some q → q.1 ≤ zk_u s t k ∧ zk_u s t k ≤ q.2
  | [], [], _, _ => ⟨rfl, fun k q h => by cases h⟩
  | [], _ :: _, _, h => by cases h
  | _ :: _, [], _, h => by cases h
  | _ :: _, _ :: _, [], h => by cases h
  | _ :: _, _ :: _, [_], h => by cases h
  | q :: qs, e :: es, h1 :: h2 :: hs, h => by
    obtain ⟨b1, hb⟩ := zz_and h
    obtain ⟨b2, b3⟩ := zz_and hb
    have c1 := zl_en_ok hB hC b1
    have c2 := zl_en_ok hB hC b2
    rw [zl_sub_ev, zl_con_ev] at c1 c2
    obtain ⟨i1, i2⟩ := zk_bnd_ok hB hC b3
    refine ⟨by rw [List.length_cons, List.length_cons, i1], fun k q' hq => ?_⟩
    cases k with
    | zero =>
      cases hq
      show q.1 ≤ zl_ev s e ∧ zl_ev s e ≤ q.2
      constructor <;> omega
    | succ k => exact i2 k q' hq
/-- sums that are not below 0: a hint each -/
def zk_ens (B : List (Int × Int)) (C : List zl_E) (t : List zl_E) : List zl_E → List (List Nat) → Bool
  | [], _ => true
  | e :: es, h :: hs => Nat.ble (zl_mx e.2) t.length && (zl_en B C h (zl_subst t e) && zk_ens B C t es hs)
  | _, _ => false
theorem zk_ens_ok {s : Nat → Int} {B : List (Int × Int)} {C t : List zl_E} (hB : zl_in s B) (hC : zk_cs s C) : ∀ {E : List zl_E} {hs : List (List Nat)}, zk_ens B C t E hs = true → zk_cs (zk_u s t) E
  | [], _, _ => fun c hc => by cases hc
  | _ :: _, [], h => by cases h
  | e :: es, h1 :: hs, h => by
    obtain ⟨b1, hb⟩ := zz_and h
    obtain ⟨b2, b3⟩ := zz_and hb
    intro c hc
    rcases List.mem_cons.mp hc with hc | hc
    · subst hc
      have := zl_en_ok hB hC b2
      rw [zl_subst_ev (u := zk_u s t) (zz_ble b1) zk_u_at] at this
      exact this
    · exact zk_ens_ok hB hC b3 c hc
/-- hints of an edge: what D's symbols are, the bounds', the sums' -/
abbrev zk_Eh : Type := List zl_E × List (List Nat) × List (List Nat)
def zk_edge (A D : zk_A) (h : zk_Eh) : Bool :=
  zk_leq h.1 D.1 A.1 && (zk_teq h.1 D.2.1 A.2.1 && (zk_feq h.1 D.2.2.1 A.2.2.1 && (zk_bnd A.2.2.2.1 A.2.2.2.2 D.2.2.2.1 h.1 h.2.1 && zk_ens A.2.2.2.1 A.2.2.2.2 h.1 D.2.2.2.2 h.2.2)))
theorem zk_edge_ok {I : zz_W → Prop} {A D : zk_A} {h : zk_Eh} {s : Nat → Int} {f : zz_F} (he : zk_edge A D h = true) (hG : zk_G I s A f) : zk_G I (zk_u s h.1) D f ∧ D.2.2.2.1.length = h.1.length := by
  obtain ⟨b1, hb⟩ := zz_and he
  obtain ⟨b2, hb⟩ := zz_and hb
  obtain ⟨b3, hb⟩ := zz_and hb
  obtain ⟨b4, b5⟩ := zz_and hb
  obtain ⟨g1, g2, g3, g4, g5, g6⟩ := hG
  obtain ⟨i1, i2⟩ := zk_bnd_ok g4 g5 b4
  refine ⟨⟨fun q hq => ?_, zk_teq_ok b2 g2, fun q hq => ?_, i2, zk_ens_ok g4 g5 b5, g6⟩, i1⟩
  · have h1 := List.all_eq_true.mp b1 q hq
    split at h1
    · rename_i a ha
      obtain ⟨v, v1, v2⟩ := g1 _ (zk_lk_mem ha)
      exact ⟨v, v1, zk_veq_v h1 v2⟩
    · cases h1
  · have h1 := List.all_eq_true.mp b3 q hq
    split at h1
    · rename_i a ha
      exact zk_veq_n h1 (g3 _ (zk_fk_mem ha))
    · cases h1
/-- the first symbols stay -/
def zk_gh : Nat → Nat → List zl_E → Bool
  | 0, _, _ => true
  | m + 1, k, e :: es => zl_nul (zl_sub e (zl_sym k)) && zk_gh m (k + 1) es
  | _, _, _ => false
theorem zk_gh_ok {s : Nat → Int} : ∀ {m k : Nat} {t : List zl_E}, zk_gh m k t = true → ∀ j, j < m → zk_u s t j = s (k + j)
  | 0, _, _, _, j, hj => absurd hj (Nat.not_lt_zero _)
  | m + 1, k, [], h, _, _ => by cases h
  | m + 1, k, e :: es, h, j, hj => by
    obtain ⟨b1, b2⟩ := zz_and h
    have h1 := zl_nul_ok (s := s) b1
    rw [zl_sub_ev, zl_sym_ev] at h1
    cases j with
    | zero =>
      show zl_ev s e = s (k + 0)
      rw [Nat.add_zero]
      omega
    | succ j =>
      have := zk_gh_ok (s := s) b2 j (by omega)
      show zk_u s es j = s (k + (j + 1))
      rw [this]
      congr 1
      omega
end
end
section
/-! CALLS between abstract frames: contracts as abstract frames before and behind -/
noncomputable section
theorem zk_J_rf {c : Nat} {HT : List (List zk_H)} {M : zk_M} {w : zz_W} {V : List (Nat × Int)} (h : zk_I c HT w) : zk_J c HT M (w, V) w := ⟨h, ⟨fun _ _ _ _ _ _ => rfl, fun _ _ _ _ => ⟨fun _ => rfl, fun _ _ _ => rfl⟩⟩, Nat.le_refl _, ⟨rfl, rfl⟩, fun _ _ => rfl⟩
/-- what N lets change, M does too -/
def zk_sub (M N : zk_M) (V V' : List (Nat × Int)) : Prop := (∀ q ∈ N.1, q.2 ≠ 998 → q ∈ M.1) ∧ ∀ i, (i, 998) ∈ N.1 → (i, 999) ∈ M.1 ∨ ((i, 998) ∈ M.1 ∧ ∀ m, zk_fre V i m → zk_fre V' i m)
theorem zk_J_tr {c : Nat} {HT : List (List zk_H)} {M N : zk_M} {w0 : zk_W0} {w w' : zz_W} {V : List (Nat × Int)} (h : zk_J c HT M w0 w) (h2 : zk_J c HT N (w, V) w') (hN : zk_sub M N w0.2 V) : zk_J c HT M w0 w' := by
  obtain ⟨a1, a2, a3, a4, a5⟩ := h
  obtain ⟨b1, b2, b3, b4, b5⟩ := h2
  refine ⟨b1, ⟨fun i k hk hn hi h3 => ?_, fun i hn hi h3 => ?_⟩, Nat.le_trans a3 b3, ⟨b4.1.trans a4.1, b4.2.trans a4.2⟩, fun i hi => ?_⟩
  · rw [b2.1 i k hk (fun h => hn (hN.1 _ h (by show k ≠ 998; omega))) (Nat.lt_of_lt_of_le hi a3) (by rw [zk_k3_1 (a5 i hi)]; exact h3)]
    exact a2.1 i k hk hn hi h3
  · have h9 : (i, 999) ∉ N.1 := fun h => hn (hN.1 _ h (by show (999 : Nat) ≠ 998; decide))
    have hb := b2.2 i h9 (Nat.lt_of_lt_of_le hi a3) (by rw [zk_k3_1 (a5 i hi)]; exact h3)
    have ha := a2.2 i hn hi h3
    by_cases h8 : (i, 998) ∈ N.1
    · rcases hN.2 i h8 with h | ⟨m1, m2⟩
      · exact absurd h hn
      · refine ⟨fun h => absurd m1 h, fun m hm hv => ?_⟩
        rw [hb.2 m hm (m2 m hv)]
        exact ha.2 m hm hv
    · have he := hb.1 h8
      refine ⟨fun h => ?_, fun m hm hv => ?_⟩
      · rw [he]
        exact ha.1 h
      · rw [← ha.2 m hm hv]
        unfold zk_el
        rw [he]
  · rw [b5 i (Nat.lt_of_lt_of_le hi a3)]
    exact a5 i hi
/-- arguments as locals -/
def zk_ar : Nat → List zk_V → List (Nat × zk_V)
  | _, [] => []
  | i, a :: as => (i, a) :: zk_ar (cond (Nat.beq a.1 1) (i + 2) (i + 1)) as
theorem zk_ar_ge : ∀ {as : List zk_V} {i : Nat} {q : Nat × zk_V}, q ∈ zk_ar i as → i ≤ q.1
  | [], _, _, h => by cases h
  | a :: as, i, q, h => by
    rcases List.mem_cons.mp h with e | h
    · rw [e]
      exact Nat.le_refl _
    · have := zk_ar_ge h
      cases hb : Nat.beq a.1 1 with
      | true => rw [hb] at this; exact Nat.le_trans (Nat.le_add_right _ _) this
      | false => rw [hb] at this; exact Nat.le_trans (Nat.le_add_right _ _) this
theorem zk_cat {s : Nat → Int} {a : zk_V} {v : Value} (h : zk_v s a v) (ht : Nat.ble a.1 3 = true) : (if v.category = 2 then 2 else 1) = cond (Nat.beq a.1 1) 2 1 := by
  have h3 := zz_ble ht
  by_cases h1 : a.1 = 1
  · obtain ⟨x, e, -⟩ := h.2.1 h1
    rw [e, h1]
    rfl
  · have hc : v.category = 1 := zk_c1_ok (a := a) (by
      unfold zk_c1
      rcases (show a.1 = 0 ∨ a.1 = 2 ∨ a.1 = 3 by omega) with e | e | e <;> rw [e] <;> rfl) h
    have hb : Nat.beq a.1 1 = false := by
      cases hb : Nat.beq a.1 1 with
      | false => rfl
      | true => exact absurd (zz_beq hb) h1
    rw [hc, hb]
    rfl
theorem zk_ar_ok {s : Nat → Int} : ∀ {as : List zk_V} {vs : List Value} {i : Nat}, as.all (fun a => Nat.ble a.1 3) = true → zk_st s as vs → zk_lc s (zk_ar i as) (lv_args i vs)
  | [], _, _, _, _ => fun q hq => by cases hq
  | _ :: _, [], _, _, h => h.elim
  | a :: as, v :: vs, i, ht, h => by
    rw [List.all_cons] at ht
    obtain ⟨t1, t2⟩ := zz_and ht
    have hc := zk_cat h.1 t1
    have hl : lv_args i (v :: vs) = (i, v) :: lv_args (cond (Nat.beq a.1 1) (i + 2) (i + 1)) vs := by
      show (i, v) :: lv_args (if v.category = 2 then i + 2 else i + 1) vs = _
      congr 2
      cases hb : Nat.beq a.1 1 with
      | true =>
        rw [hb] at hc
        by_cases h2 : v.category = 2
        · rw [if_pos h2]; rfl
        · rw [if_neg h2] at hc; cases hc
      | false =>
        rw [hb] at hc
        by_cases h2 : v.category = 2
        · rw [if_pos h2] at hc; cases hc
        · rw [if_neg h2]; rfl
    rw [hl]
    intro q hq
    rcases List.mem_cons.mp hq with e | hq
    · subst e
      exact ⟨v, by unfold zz_lg; rw [if_pos (by simp)], h.1⟩
    · have hge := zk_ar_ge hq
      have hgt : i < q.1 := by
        cases hb : Nat.beq a.1 1 with
        | true => rw [hb] at hge; have hge : i + 2 ≤ q.1 := hge; omega
        | false => rw [hb] at hge; have hge : i + 1 ≤ q.1 := hge; omega
      obtain ⟨u, u1, u2⟩ := zk_ar_ok (i := cond (Nat.beq a.1 1) (i + 2) (i + 1)) t2 h.2 q hq
      refine ⟨u, ?_, u2⟩
      unfold zz_lg
      rw [if_neg (by simp; omega)]
      exact u1
/-- new symbols: n, n + 1, .. -/
def zk_syms : Nat → Nat → List zl_E
  | _, 0 => []
  | n, k + 1 => zl_sym n :: zk_syms (n + 1) k
theorem zk_syms_at : ∀ {k n j : Nat} {q : zl_E}, (zk_syms n k)[j]? = some q → q = zl_sym (n + j) ∧ j < k
  | 0, _, _, _, h => by cases h
  | k + 1, n, 0, q, h => by
    cases h
    exact ⟨rfl, Nat.succ_pos _⟩
  | k + 1, n, j + 1, q, h => by
    obtain ⟨h1, h2⟩ := zk_syms_at (k := k) (n := n + 1) (j := j) h
    refine ⟨?_, by omega⟩
    rw [h1]
    congr 1
    omega
/-- a value with other symbols -/
def zk_vs (t : List zl_E) (a : zk_V) : zk_V := (a.1, a.2.1, zl_subst t a.2.2)
/-- behind a call: Q's symbols from m on are new ones -/
def zk_out (A : zk_A) (R : List zk_V) (t : List zl_E) (m : Nat) (N : zk_M) (Q : zk_A) : zk_A :=
  let t' := t ++ zk_syms A.2.2.2.1.length (Q.2.2.2.1.length - m)
  (A.1, Q.2.1.map (zk_vs t') ++ R, A.2.2.1.filter (fun q => !(zk_inM N.1 q.1.1 q.1.2)) ++ Q.2.2.1.map (fun q => (q.1, zk_vs t' q.2)), A.2.2.2.1 ++ Q.2.2.2.1.drop m, A.2.2.2.2 ++ Q.2.2.2.2.map (zl_subst t'))
/-- no symbol of Q is beyond its bounds -/
def zk_wq (Q : zk_A) : Bool := zk_wf Q.2.2.2.1.length Q.1 Q.2.1 Q.2.2.1 Q.2.2.2.2
theorem zk_st_app {s : Nat → Int} : ∀ {A B : List zk_V} {x y : List Value}, zk_st s A x → zk_st s B y → zk_st s (A ++ B) (x ++ y)
  | [], _, [], _, _, h => h
  | [], _, _ :: _, _, h, _ => h.elim
  | _ :: _, _, [], _, h, _ => h.elim
  | a :: A, B, v :: x, y, h, h2 => ⟨h.1, zk_st_app h.2 h2⟩
theorem zk_st_map {s u : Nat → Int} {t : List zl_E} {n : Nat} (hu : ∀ e : zl_E, (zl_mx e.2) ≤ n → zl_ev s (zl_subst t e) = zl_ev u e) : ∀ {A : List zk_V} {x : List Value}, A.all (zk_wv n) = true → zk_st u A x → zk_st s (A.map (zk_vs t)) x
  | [], [], _, _ => trivial
  | [], _ :: _, _, h => h.elim
  | _ :: _, [], _, h => h.elim
  | a :: A, v :: x, hw, h => by
    rw [List.all_cons] at hw
    obtain ⟨w1, w2⟩ := zz_and hw
    refine ⟨⟨fun h0 => ?_, fun h1 => ?_, h.1.2.2⟩, zk_st_map hu w2 h.2⟩
    · obtain ⟨y, y1, y2⟩ := h.1.1 h0
      exact ⟨y, y1, by rw [y2]; exact (hu _ (zz_ble w1)).symm⟩
    · obtain ⟨y, y1, y2⟩ := h.1.2.1 h1
      exact ⟨y, y1, fun h2 => by rw [y2 h2]; exact (hu _ (zz_ble w1)).symm⟩
theorem zk_out_ok {c : Nat} {HT : List (List zk_H)} {M N : zk_M} {w0 : zk_W0} {w w' : zz_W} {V : List (Nat × Int)} {A Q : zk_A} {R : List zk_V} {t : List zl_E} {m p p' n : Nat} {lv lq : List (Nat × Value)} {r rv : List Value} {s s' : Nat → Int}
    (hw : zk_wf A.2.2.2.1.length A.1 R A.2.2.1 A.2.2.2.2 = true) (ht : t.all (fun e => Nat.ble (zl_mx e.2) A.2.2.2.1.length) = true) (hm : t.length = m) (hQ : m ≤ Q.2.2.2.1.length) (hwq : zk_wq Q = true) (hF : A.2.2.1.all (fun q => Nat.beq (zk_h HT q.1.1).1 3 && Nat.blt q.1.2 998) = true) (hN : zk_sub M N w0.2 V)
    (g1 : zk_lc s A.1 lv) (g2 : zk_st s R r) (g3 : zk_fl s A.2.2.1 w) (g4 : zl_in s A.2.2.2.1) (g5 : zk_cs s A.2.2.2.2) (g6 : zk_J c HT M w0 w) (hG : zk_G (zk_J c HT N (w, V)) s' Q (p', lq, rv, w')) (hs : ∀ j, j < m → s' j = zk_u s t j) :
    A.2.2.2.1.length ≤ (zk_out A R t m N Q).2.2.2.1.length ∧ ∃ s'' : Nat → Int, zk_G (zk_J c HT M w0) s'' (zk_out A R t m N Q) (n, lv, rv ++ r, w') ∧ (∀ j, j < A.2.2.2.1.length → s'' j = s j) ∧ ∀ e : zl_E, (zl_mx e.2) ≤ Q.2.2.2.1.length → zl_ev s'' (zl_subst (t ++ zk_syms A.2.2.2.1.length (Q.2.2.2.1.length - m)) e) = zl_ev s' e := by
  refine ⟨by show _ ≤ (A.2.2.2.1 ++ Q.2.2.2.1.drop m).length; simp, ?_⟩
  obtain ⟨s2, hs2⟩ : ∃ s2 : Nat → Int, (fun j => if j < A.2.2.2.1.length then s j else s' (m + (j - A.2.2.2.1.length))) = s2 := ⟨_, rfl⟩
  have hd : ∀ j, j < A.2.2.2.1.length → s2 j = s j := fun j hj => by rw [← hs2]; exact if_pos hj
  refine ⟨s2, ?_⟩
  have hnew : ∀ j, s2 (A.2.2.2.1.length + j) = s' (m + j) := by
    intro j
    rw [← hs2]
    show (if A.2.2.2.1.length + j < A.2.2.2.1.length then _ else _) = _
    rw [if_neg (by omega)]
    congr 2
    omega
  obtain ⟨v1, v2, v3, v4⟩ := zk_wf_ok hw hd g1 g2 g3 g5
  obtain ⟨q1, q2, q3, q4, q5, q6⟩ := hG
  unfold zk_wq zk_wf at hwq
  obtain ⟨-, hwq⟩ := zz_and hwq
  obtain ⟨w2, hwq⟩ := zz_and hwq
  obtain ⟨w3, w4⟩ := zz_and hwq
  have hsub : ∀ e : zl_E, (zl_mx e.2) ≤ Q.2.2.2.1.length → zl_ev s2 (zl_subst (t ++ zk_syms A.2.2.2.1.length (Q.2.2.2.1.length - m)) e) = zl_ev s' e := by
    intro e he
    have hsl : ∀ k n, (zk_syms n k).length = k := by
      intro k
      induction k with
      | zero => intro n; rfl
      | succ k ih => intro n; show (zk_syms (n + 1) k).length + 1 = k + 1; rw [ih]
    refine zl_subst_ev (by rw [List.length_append, hsl]; omega) (fun j q hq => ?_)
    by_cases hj : j < t.length
    · rw [List.getElem?_append_left hj] at hq
      rw [hs j (by omega), zk_u_at j q hq]
      exact (zl_ev_eq (zz_ble (List.all_eq_true.mp ht q (List.mem_of_getElem? hq))) hd).symm
    · rw [List.getElem?_append_right (by omega)] at hq
      obtain ⟨e1, -⟩ := zk_syms_at hq
      rw [e1, zl_sym_ev, hnew]
      congr 1
      omega
  refine ⟨⟨v1, zk_st_app (zk_st_map hsub w2 q2) v2, fun q hq => ?_, fun k q hq => ?_, fun e he => ?_, zk_J_tr g6 q6 hN⟩, hd, hsub⟩
  · rcases List.mem_append.mp hq with hq | hq
    · obtain ⟨f1, f2⟩ := List.mem_filter.mp hq
      obtain ⟨hk1, hk2⟩ := zz_and (List.all_eq_true.mp hF q f1)
      have hk : (zk_h HT q.1.1).1 = 3 := zz_beq hk1
      obtain ⟨o1, o2, -⟩ := g6.1.2.2.2 q.1.1 (by omega)
      have hnm : (q.1.1, q.1.2) ∉ N.1 := by
        intro hin
        have : zk_inM N.1 q.1.1 q.1.2 = true := List.any_eq_true.mpr ⟨(q.1.1, q.1.2), hin, by show (Nat.beq q.1.1 q.1.1 && Nat.beq q.1.2 q.1.2) = true; rw [Nat.beq_refl, Nat.beq_refl]; rfl⟩
        rw [this] at f2
        cases f2
      have := v3 q f1
      rw [show zk_fd w' q.1 = zk_fd w q.1 from q6.2.1.1 q.1.1 q.1.2 (zz_blt hk2) hnm o1 (by rw [o2]; exact hk)]
      exact this
    · obtain ⟨a, a1, a2⟩ := List.mem_map.mp hq
      subst a2
      have h0 := q3 a a1
      refine ⟨fun h => ?_, h0.2⟩
      rw [h0.1 h]
      exact (hsub _ (zz_ble (List.all_eq_true.mp w3 a a1))).symm
  · have hq : (A.2.2.2.1 ++ Q.2.2.2.1.drop m)[k]? = some q := hq
    by_cases hk : k < A.2.2.2.1.length
    · rw [List.getElem?_append_left hk] at hq
      rw [hd k hk]
      exact g4 k q hq
    · rw [List.getElem?_append_right (by omega), List.getElem?_drop] at hq
      have := q4 _ q hq
      have e1 := hnew (k - A.2.2.2.1.length)
      rw [show A.2.2.2.1.length + (k - A.2.2.2.1.length) = k by omega] at e1
      rw [e1]
      exact this
  · have he : e ∈ A.2.2.2.2 ++ Q.2.2.2.2.map (zl_subst (t ++ zk_syms A.2.2.2.1.length (Q.2.2.2.1.length - m))) := he
    rcases List.mem_append.mp he with he | he
    · exact v4 e he
    · obtain ⟨a, a1, a2⟩ := List.mem_map.mp he
      subst a2
      rw [hsub _ (zz_ble (List.all_eq_true.mp w4 a a1))]
      exact q5 a a1
end
end
section
/-! ABSTRACT FRAMES, on: products, masks, rests, shifts; longs -/
noncomputable section
/-- a sum without symbols -/
def zl_c (e : zl_E) : Option Int := cond (zl_az e.2) (some (zl_nv e.1)) none
theorem zl_c_ok {s : Nat → Int} {e : zl_E} {c : Int} (h : zl_c e = some c) : zl_ev s e = c := by
  unfold zl_c at h
  obtain ⟨h1, h2⟩ := zz_cond h
  cases h2
  show zl_nv e.1 + zl_dt s e.2 = zl_nv e.1
  rw [zl_nul_dt s e.2 h1]
  omega
theorem zk_and_bd {x y : Int32} (h : 0 ≤ y.toInt) : 0 ≤ (x &&& y).toInt ∧ (x &&& y).toInt ≤ y.toInt := by
  have h1 := zk_nI h
  have h2 : (x &&& y).toInt = (x.toBitVec &&& y.toBitVec).toInt := rfl
  have h3 : (x.toBitVec &&& y.toBitVec).toNat ≤ y.toBitVec.toNat := by
    rw [BitVec.toNat_and]
    exact Nat.and_le_right
  have h4 : (zz_nI y : Int) ≤ 2147483647 := by rw [h1]; exact zk_hi y
  have h5 : zz_nI y = y.toBitVec.toNat := rfl
  rw [h2, BitVec.toInt_eq_toNat_cond, if_pos (by omega)]
  constructor
  · omega
  · omega
theorem zk_and_comm (x y : Int32) : x &&& y = y &&& x := by
  apply Int32.toBitVec_inj.mp
  show x.toBitVec &&& y.toBitVec = y.toBitVec &&& x.toBitVec
  exact BitVec.and_comm _ _
def zk_bdAnd (_ : List (Int × Int)) (e1 e2 : zl_E) : Int × Int := match zl_c e2 with
  | some c => if 0 ≤ c then (0, c) else (-2147483648, 2147483647)
  | none => match zl_c e1 with
    | some c => if 0 ≤ c then (0, c) else (-2147483648, 2147483647)
    | none => (-2147483648, 2147483647)
theorem zt_iandC_ok {I : zz_W → Prop} {A A' : zk_A} {n : Nat} (h : zt_2b zk_bdAnd A = some A') : zk_S I (za_iand n) n A A' :=
  zt_2b_ok (g := fun x y => x &&& y) (P := fun _ => True) (fun _ _ _ _ _ _ _ _ _ _ _ => trivial) (fun K p lv x y r w _ => ze_iand rfl) (fun s B x y e1 e2 hB h1 h2 => by
    unfold zk_bdAnd
    split
    · rename_i c hc
      have hc := zl_c_ok (s := s) hc
      split
      · rename_i h0
        have := zk_and_bd (x := x) (y := y) (by omega)
        exact ⟨this.1, by show _ ≤ c; omega⟩
      · exact zk_topE
    · split
      · rename_i c hc
        have hc := zl_c_ok (s := s) hc
        split
        · rename_i h0
          have := zk_and_bd (x := y) (y := x) (by omega)
          rw [zk_and_comm] at this
          exact ⟨this.1, by show _ ≤ c; omega⟩
        · exact zk_topE
      · exact zk_topE) h
/-- a product with a number -/
def zt_imul (A : zk_A) : Option zk_A := match A.2.1 with
  | (0, _, e2) :: (0, _, e1) :: r => match zl_c e2 with
    | some c => zk_lin A r (zl_mul c e1)
    | none => match zl_c e1 with
      | some c => zk_lin A r (zl_mul c e2)
      | none => zk_new A r (-2147483648) 2147483647
  | _ => none
theorem zt_imulC_ok {I : zz_W → Prop} {A A' : zk_A} {n : Nat} (h : zt_imul A = some A') : zk_S I (za_imul n) n A A' := by
  obtain ⟨L, T, F, B, C⟩ := A
  unfold zt_imul at h
  split at h
  · rename_i k2 e2 k1 e1 r hT
    have hT : T = (0, k2, e2) :: (0, k1, e1) :: r := hT
    subst hT
    have key : ∀ (hl : B.length ≤ A'.2.2.2.1.length), (∀ (s : Nat → Int) (lv : List (Nat × Value)) (st2 : List Value) (w : zz_W) (x y : Int32), zk_lc s L lv → zk_st s r st2 → zk_fl s F w → zl_in s B → zk_cs s C → I w → x.toInt = zl_ev s e1 → y.toInt = zl_ev s e2 → ∃ s' : Nat → Int, zk_G I s' A' (n, lv, .int (x * y) :: st2, w) ∧ ∀ j, j < B.length → s' j = s j) → zk_S I (za_imul n) n (L, (0, k2, e2) :: (0, k1, e1) :: r, F, B, C) A' := by
      intro hl hk
      refine ⟨hl, fun K s f hG => ?_⟩
      obtain ⟨p, lv, st, w⟩ := f
      obtain ⟨g1, g2, g3, g4, g5, g6⟩ := hG
      obtain ⟨y, st1, q1, q2, q3⟩ := zk_st_int g2 rfl
      obtain ⟨x, st2, q4, q5, q6⟩ := zk_st_int q3 rfl
      have hst : st = .int y :: .int x :: st2 := by rw [← q4]; exact q1
      subst hst
      obtain ⟨s', hg, hs⟩ := hk s lv st2 w x y g1 q6 g3 g4 g5 g6 q5 q2
      exact ⟨s', _, ze_imul rfl, rfl, hg, hs⟩
    split at h
    · rename_i c hc
      refine key (zk_lin_len h) (fun s lv st2 w x y g1 g2 g3 g4 g5 g6 hx hy => ?_)
      exact (zk_lin_ok (I := I) (x := x * y) (n := n) h g1 g2 g3 g4 g5 g6 (fun a b => by
        rw [zl_mul_ev] at a b ⊢
        rw [Int32.toInt_mul, hx, hy, zl_c_ok (s := s) hc, Int.mul_comm, zk_bmod a b])).2
    · split at h
      · rename_i c hc
        refine key (zk_lin_len h) (fun s lv st2 w x y g1 g2 g3 g4 g5 g6 hx hy => ?_)
        exact (zk_lin_ok (I := I) (x := x * y) (n := n) h g1 g2 g3 g4 g5 g6 (fun a b => by
          rw [zl_mul_ev] at a b ⊢
          rw [Int32.toInt_mul, hx, hy, zl_c_ok (s := s) hc, zk_bmod a b])).2
      · refine key (zk_new_len h) (fun s lv st2 w x y g1 g2 g3 g4 g5 g6 hx hy => ?_)
        exact (zk_new_ok (I := I) (x := x * y) (n := n) h g1 g2 g3 g4 g5 g6 (zk_lo _) (zk_hi _)).2
  · cases h
theorem zk_rem {x y : Int32} {c : Int} (hy : y.toInt = c) (hc : 0 < c) : (x - x / y * y).toInt = x.toInt.tmod c := by
  have hx1 := zk_lo x
  have hx2 := zk_hi x
  have hy2 := zk_hi y
  have hd : x.toInt.tdiv c * c + x.toInt.tmod c = x.toInt := Int.tdiv_mul_add_tmod x.toInt c
  have hr : (0 ≤ x.toInt → 0 ≤ x.toInt.tmod c) ∧ (x.toInt ≤ 0 → x.toInt.tmod c ≤ 0) ∧ x.toInt.tmod c < c ∧ -c < x.toInt.tmod c := by
    refine ⟨fun h => Int.tmod_nonneg _ h, fun h => ?_, Int.tmod_lt_of_pos _ hc, ?_⟩
    · have h1 := Int.tmod_nonneg (a := -x.toInt) c (by omega)
      rw [Int.neg_tmod] at h1
      omega
    · have h1 := Int.tmod_lt_of_pos (-x.toInt) hc
      rw [Int.neg_tmod] at h1
      omega
  have hq : -2147483648 ≤ x.toInt.tdiv c ∧ x.toInt.tdiv c ≤ 2147483647 := by
    by_cases h0 : 0 ≤ x.toInt
    · have a := Int.tdiv_nonneg h0 (Int.le_of_lt hc)
      have b : x.toInt.tdiv c * 1 ≤ x.toInt.tdiv c * c := Int.mul_le_mul_of_nonneg_left (by omega) a
      have := hr.1 h0
      omega
    · have a : 0 ≤ (-x.toInt).tdiv c := Int.tdiv_nonneg (by omega) (Int.le_of_lt hc)
      rw [Int.neg_tdiv] at a
      have b : x.toInt.tdiv c * c ≤ x.toInt.tdiv c * 1 := Int.mul_le_mul_of_nonpos_left (by omega) (by omega)
      have := hr.2.1 (by omega)
      omega
  have e1 : (x / y).toInt = x.toInt.tdiv c := by
    rw [Int32.toInt_div, hy]
    exact zk_bmod hq.1 hq.2
  have e2 : (x / y * y).toInt = x.toInt.tdiv c * c := by
    rw [Int32.toInt_mul, e1, hy]
    refine zk_bmod ?_ ?_
    · by_cases h0 : 0 ≤ x.toInt
      · have := hr.1 h0
        have a := Int.tdiv_nonneg h0 (Int.le_of_lt hc)
        have b : 0 ≤ x.toInt.tdiv c * c := Int.mul_nonneg a (Int.le_of_lt hc)
        omega
      · have := hr.2.1 (by omega)
        omega
    · by_cases h0 : 0 ≤ x.toInt
      · have := hr.1 h0
        omega
      · have a : 0 ≤ (-x.toInt).tdiv c := Int.tdiv_nonneg (by omega) (Int.le_of_lt hc)
        rw [Int.neg_tdiv] at a
        have b : x.toInt.tdiv c * c ≤ 0 := Int.mul_nonpos_of_nonpos_of_nonneg (by omega) (Int.le_of_lt hc)
        omega
  rw [Int32.toInt_sub, e2]
  have h9 : x.toInt - x.toInt.tdiv c * c = x.toInt.tmod c := by omega
  rw [h9]
  exact zk_bmod (by omega) (by omega)
end
end
section
/-! ABSTRACT FRAMES, on: rests, quotients, longs, lengths -/
noncomputable section
def zt_irem (A : zk_A) : Option zk_A := match A.2.1 with
  | (0, _, e2) :: (0, _, e1) :: r => match zl_c e2 with
    | some c => cond (decide (0 < c)) (zk_new A r (cond (zl_pos A.2.2.2.1 e1) 0 (1 - c)) (c - 1)) none
    | none => none
  | _ => none
theorem zt_irem_ok {I : zz_W → Prop} {A A' : zk_A} {n : Nat} (h : zt_irem A = some A') : zk_S I (za_irem n) n A A' := by
  obtain ⟨L, T, F, B, C⟩ := A
  unfold zt_irem at h
  split at h
  · rename_i k2 e2 k1 e1 r hT
    have hT : T = (0, k2, e2) :: (0, k1, e1) :: r := hT
    subst hT
    split at h
    · rename_i c hc
      obtain ⟨h0, h⟩ := zz_cond h
      have h0 : 0 < c := of_decide_eq_true h0
      refine ⟨zk_new_len h, fun K s f hG => ?_⟩
      obtain ⟨p, lv, st, w⟩ := f
      obtain ⟨g1, g2, g3, g4, g5, g6⟩ := hG
      obtain ⟨y, st1, q1, q2, q3⟩ := zk_st_int g2 rfl
      obtain ⟨x, st2, q4, q5, q6⟩ := zk_st_int q3 rfl
      have hst : st = .int y :: .int x :: st2 := by rw [← q4]; exact q1
      subst hst
      have hy : y.toInt = c := by
        have q2 : y.toInt = zl_ev s e2 := q2
        rw [q2]
        exact zl_c_ok hc
      have hm := zk_rem (x := x) hy h0
      have hlt := Int.tmod_lt_of_pos x.toInt h0
      have hgt : -c < x.toInt.tmod c := by
        have h1 := Int.tmod_lt_of_pos (-x.toInt) h0
        rw [Int.neg_tmod] at h1
        omega
      have hy0 : ¬ y = 0 := by
        intro e
        rw [e] at hy
        have : (0 : Int32).toInt = 0 := rfl
        omega
      obtain ⟨-, s', hg, hs⟩ := zk_new_ok (I := I) (x := x - x / y * y) (n := n) (w := w) (lv := lv) h g1 q6 g3 g4 g5 g6 (by
        rw [hm]
        cases hp : zl_pos B e1 with
        | true =>
          have h1 := zl_pos_ok g4 hp
          have q5 : x.toInt = zl_ev s e1 := q5
          exact Int.tmod_nonneg _ (by omega)
        | false =>
          show 1 - c ≤ _
          omega) (by rw [hm]; omega)
      exact ⟨s', _, ze_irem hy0 rfl, rfl, hg, hs⟩
    · cases h
  · cases h
/-- longs: nothing is known of them -/
theorem zk_st_long {s : Nat → Int} {a : zk_V} {as : List zk_V} {st : List Value} (h : zk_st s (a :: as) st) (ha : a.1 = 1) : ∃ x r, st = .long x :: r ∧ zk_st s as r := by
  obtain ⟨v, r, e, h1, h2⟩ := zk_st_cons h
  obtain ⟨x, e1, -⟩ := h1.2.1 ha
  exact ⟨x, r, by rw [e, e1], h2⟩
theorem zk_st_lv {s : Nat → Int} {a : zk_V} {as : List zk_V} {st : List Value} (h : zk_st s (a :: as) st) (ha : a.1 = 1) : ∃ x r, st = .long x :: r ∧ (a.2.1 = 1 → x.toInt = zl_ev s a.2.2) ∧ zk_st s as r := by
  obtain ⟨v, r, e, h1, h2⟩ := zk_st_cons h
  obtain ⟨x, e1, e2⟩ := h1.2.1 ha
  exact ⟨x, r, by rw [e, e1], e2, h2⟩
def zt_LL (A : zk_A) : Option zk_A := match A.2.1 with
  | (1, _, _) :: (1, _, _) :: r => some (A.1, (1, 0, zl_con 0) :: r, A.2.2.1, A.2.2.2.1, A.2.2.2.2)
  | _ => none
theorem zt_LL_ok {I : zz_W → Prop} {A A' : zk_A} {n : Nat} {act : zz_A} {g : Int64 → Int64 → Int64} (ha : ∀ (K : zz_K) (p : Nat) (lv : List (Nat × Value)) (x y : Int64) (r : List Value) (w : zz_W), act K (p, lv, .long y :: .long x :: r, w) = some (n, lv, .long (g x y) :: r, w)) (h : zt_LL A = some A') : zk_S I act n A A' := by
  obtain ⟨L, T, F, B, C⟩ := A
  unfold zt_LL at h
  split at h
  · rename_i k2 e2 k e r hT
    have hT : T = (1, k2, e2) :: (1, k, e) :: r := hT
    subst hT
    cases h
    refine zk_S_st (fun K s p lv st w hL hT => ?_)
    obtain ⟨y, st1, q1, q2⟩ := zk_st_long hT rfl
    obtain ⟨x, st2, q3, q4⟩ := zk_st_long q2 rfl
    subst q3
    subst q1
    exact ⟨_, ha K p lv x y st2 w, zk_v_long, q4⟩
  · cases h
def zt_LI (A : zk_A) : Option zk_A := match A.2.1 with
  | (0, _, _) :: (1, _, _) :: r => some (A.1, (1, 0, zl_con 0) :: r, A.2.2.1, A.2.2.2.1, A.2.2.2.2)
  | _ => none
theorem zt_LI_ok {I : zz_W → Prop} {A A' : zk_A} {n : Nat} {act : zz_A} {g : Int64 → Int32 → Int64} (ha : ∀ (K : zz_K) (p : Nat) (lv : List (Nat × Value)) (x : Int64) (y : Int32) (r : List Value) (w : zz_W), act K (p, lv, .int y :: .long x :: r, w) = some (n, lv, .long (g x y) :: r, w)) (h : zt_LI A = some A') : zk_S I act n A A' := by
  obtain ⟨L, T, F, B, C⟩ := A
  unfold zt_LI at h
  split at h
  · rename_i k2 e2 k e r hT
    have hT : T = (0, k2, e2) :: (1, k, e) :: r := hT
    subst hT
    cases h
    refine zk_S_st (fun K s p lv st w hL hT => ?_)
    obtain ⟨y, st1, q1, -, q2⟩ := zk_st_int hT rfl
    obtain ⟨x, st2, q3, q4⟩ := zk_st_long q2 rfl
    subst q3
    subst q1
    exact ⟨_, ha K p lv x y st2 w, zk_v_long, q4⟩
  · cases h
def zt_i2l (A : zk_A) : Option zk_A := match A.2.1 with
  | (0, _, e) :: r => some (A.1, (1, 1, e) :: r, A.2.2.1, A.2.2.2.1, A.2.2.2.2)
  | _ => none
theorem zt_i2l_ok {I : zz_W → Prop} {A A' : zk_A} {n : Nat} (h : zt_i2l A = some A') : zk_S I (za_i2l n) n A A' := by
  obtain ⟨L, T, F, B, C⟩ := A
  unfold zt_i2l at h
  split at h
  · rename_i k e r hT
    have hT : T = (0, k, e) :: r := hT
    subst hT
    cases h
    refine zk_S_st (fun K s p lv st w hL hT => ?_)
    obtain ⟨y, st1, q1, q0, q2⟩ := zk_st_int hT rfl
    subst q1
    exact ⟨_, ze_i2l rfl, zk_v_lv (by rw [Int32.toInt_toInt64]; exact q0), q2⟩
  · cases h
theorem zk_bmod64 {a : Int} (h1 : -9223372036854775808 ≤ a) (h2 : a ≤ 9223372036854775807) : a.bmod (2 ^ 64) = a := by
  rw [Int.bmod_def]
  omega
/-- a sum that a long holds -/
def zl_w64 (B : List (Int × Int)) (e : zl_E) : Bool := zl_pos B (zl_add e (zl_con 9223372036854775808)) && zl_pos B (zl_sub (zl_con 9223372036854775807) e)
theorem zl_w64_ok {s : Nat → Int} {B : List (Int × Int)} {e : zl_E} (hB : zl_in s B) (h : zl_w64 B e = true) : -9223372036854775808 ≤ zl_ev s e ∧ zl_ev s e ≤ 9223372036854775807 := by
  obtain ⟨b1, b2⟩ := zz_and h
  have c1 := zl_pos_ok hB b1
  have c2 := zl_pos_ok hB b2
  rw [zl_add_ev, zl_con_ev] at c1
  rw [zl_sub_ev, zl_con_ev] at c2
  constructor <;> omega
/-- two longs make one that is a sum of theirs, or any -/
def zt_LLl (ok : zl_E → zl_E → Bool) (le : zl_E → zl_E → zl_E) (A : zk_A) : Option zk_A := match A.2.1 with
  | (1, k2, e2) :: (1, k1, e1) :: r => some (A.1, cond (Nat.beq k2 1 && (Nat.beq k1 1 && (ok e1 e2 && zl_w64 A.2.2.2.1 (le e1 e2)))) (1, 1, le e1 e2) (1, 0, zl_con 0) :: r, A.2.2.1, A.2.2.2.1, A.2.2.2.2)
  | _ => none
theorem zt_LLl_ok {I : zz_W → Prop} {A A' : zk_A} {n : Nat} {act : zz_A} {ok : zl_E → zl_E → Bool} {le : zl_E → zl_E → zl_E} {g : Int64 → Int64 → Int64} (ha : ∀ (K : zz_K) (p : Nat) (lv : List (Nat × Value)) (x y : Int64) (r : List Value) (w : zz_W), act K (p, lv, .long y :: .long x :: r, w) = some (n, lv, .long (g x y) :: r, w))
    (hl : ∀ (s : Nat → Int) (x y : Int64) (e1 e2 : zl_E), ok e1 e2 = true → x.toInt = zl_ev s e1 → y.toInt = zl_ev s e2 → -9223372036854775808 ≤ zl_ev s (le e1 e2) → zl_ev s (le e1 e2) ≤ 9223372036854775807 → (g x y).toInt = zl_ev s (le e1 e2)) (h : zt_LLl ok le A = some A') : zk_S I act n A A' := by
  obtain ⟨L, T, F, B, C⟩ := A
  unfold zt_LLl at h
  split at h
  · rename_i k2 e2 k1 e1 r hT
    have hT : T = (1, k2, e2) :: (1, k1, e1) :: r := hT
    subst hT
    cases h
    refine ⟨Nat.le_refl _, fun K s f hG => ?_⟩
    obtain ⟨p, lv, st, w⟩ := f
    obtain ⟨g1, g2, g3, g4, g5, g6⟩ := hG
    obtain ⟨y, st1, q1, q2, q3⟩ := zk_st_lv g2 rfl
    obtain ⟨x, st2, q4, q5, q6⟩ := zk_st_lv q3 rfl
    have hst : st = .long y :: .long x :: st2 := by rw [← q4]; exact q1
    subst hst
    refine ⟨s, _, ha K p lv x y st2 w, rfl, ⟨g1, ⟨?_, q6⟩, g3, g4, g5, g6⟩, fun _ _ => rfl⟩
    show zk_v s (cond (Nat.beq k2 1 && (Nat.beq k1 1 && (ok e1 e2 && zl_w64 B (le e1 e2)))) (1, 1, le e1 e2) (1, 0, zl_con 0)) (.long (g x y))
    cases hb : (Nat.beq k2 1 && (Nat.beq k1 1 && (ok e1 e2 && zl_w64 B (le e1 e2)))) with
    | false => exact zk_v_long
    | true =>
      obtain ⟨b1, hb⟩ := zz_and hb
      obtain ⟨b2, hb⟩ := zz_and hb
      obtain ⟨b3, b4⟩ := zz_and hb
      obtain ⟨c1, c2⟩ := zl_w64_ok g4 b4
      exact zk_v_lv (hl s x y e1 e2 b3 (q5 (zz_beq b2)) (q2 (zz_beq b1)) c1 c2)
  · cases h
/-- a product where one is a number -/
def zl_pm (a b : zl_E) : zl_E := match zl_c b with
  | some c => zl_mul c a
  | none => match zl_c a with
    | some c => zl_mul c b
    | none => zl_con 0
def zl_pmk (a b : zl_E) : Bool := match zl_c b with
  | some _ => true
  | none => match zl_c a with
    | some _ => true
    | none => false
theorem zl_pm_ev {s : Nat → Int} {a b : zl_E} (h : zl_pmk a b = true) : zl_ev s (zl_pm a b) = zl_ev s a * zl_ev s b := by
  unfold zl_pmk at h
  unfold zl_pm
  split at h
  · rename_i c hc
    show zl_ev s (zl_mul c a) = _
    rw [zl_mul_ev, zl_c_ok (s := s) hc, Int.mul_comm]
  · rename_i hb
    split at h
    · rename_i c hc
      show zl_ev s (zl_mul c b) = _
      rw [zl_mul_ev, zl_c_ok (s := s) hc]
    · cases h
/-- a long as an int: its sum, where an int holds it -/
def zt_l2i (A : zk_A) : Option zk_A := match A.2.1 with
  | (1, k, e) :: r => cond (Nat.beq k 1) (zk_lin A r e) (zk_new A r (-2147483648) 2147483647)
  | _ => none
theorem zt_l2iV_ok {I : zz_W → Prop} {A A' : zk_A} {n : Nat} (h : zt_l2i A = some A') : zk_S I (za_l2i n) n A A' := by
  obtain ⟨L, T, F, B, C⟩ := A
  unfold zt_l2i at h
  split at h
  · rename_i k e r hT
    have hT : T = (1, k, e) :: r := hT
    subst hT
    cases hb : Nat.beq k 1 with
    | true =>
      rw [hb] at h
      have h : zk_lin (L, (1, k, e) :: r, F, B, C) r e = some A' := h
      refine ⟨zk_lin_len h, fun K s f hG => ?_⟩
      obtain ⟨p, lv, st, w⟩ := f
      obtain ⟨g1, g2, g3, g4, g5, g6⟩ := hG
      obtain ⟨x, st1, q1, q2, q3⟩ := zk_st_lv g2 rfl
      have q1 : st = .long x :: st1 := q1
      subst q1
      have q2 : x.toInt = zl_ev s e := q2 (zz_beq hb)
      obtain ⟨-, s', hg, hs⟩ := zk_lin_ok (I := I) (x := x.toInt32) (n := n) (w := w) (lv := lv) h g1 q3 g3 g4 g5 g6 (fun a b => by
        rw [Int64.toInt_toInt32, q2, zk_bmod a b])
      exact ⟨s', _, ze_l2i rfl, rfl, hg, hs⟩
    | false =>
      rw [hb] at h
      have h : zk_new (L, (1, k, e) :: r, F, B, C) r (-2147483648) 2147483647 = some A' := h
      refine ⟨zk_new_len h, fun K s f hG => ?_⟩
      obtain ⟨p, lv, st, w⟩ := f
      obtain ⟨g1, g2, g3, g4, g5, g6⟩ := hG
      obtain ⟨x, st1, q1, q3⟩ := zk_st_long g2 rfl
      have q1 : st = .long x :: st1 := q1
      subst q1
      obtain ⟨-, s', hg, hs⟩ := zk_new_ok (I := I) (x := x.toInt32) (n := n) (w := w) (lv := lv) h g1 q3 g3 g4 g5 g6 (zk_lo _) (zk_hi _)
      exact ⟨s', _, ze_l2i rfl, rfl, hg, hs⟩
  · cases h
/-- a long, or two, make an int within bounds -/
def zt_L1 (lo hi : Int) (A : zk_A) : Option zk_A := match A.2.1 with
  | (1, _, _) :: r => zk_new A r lo hi
  | _ => none
theorem zt_L1_ok {I : zz_W → Prop} {A A' : zk_A} {n : Nat} {lo hi : Int} {act : zz_A} {g : Int64 → Int32} (ha : ∀ (K : zz_K) (p : Nat) (lv : List (Nat × Value)) (x : Int64) (r : List Value) (w : zz_W), act K (p, lv, .long x :: r, w) = some (n, lv, .int (g x) :: r, w)) (hb : ∀ x, lo ≤ (g x).toInt ∧ (g x).toInt ≤ hi) (h : zt_L1 lo hi A = some A') : zk_S I act n A A' := by
  obtain ⟨L, T, F, B, C⟩ := A
  unfold zt_L1 at h
  split at h
  · rename_i k e r hT
    have hT : T = (1, k, e) :: r := hT
    subst hT
    refine ⟨zk_new_len h, fun K s f hG => ?_⟩
    obtain ⟨p, lv, st, w⟩ := f
    obtain ⟨g1, g2, g3, g4, g5, g6⟩ := hG
    obtain ⟨x, st1, q1, q2⟩ := zk_st_long g2 rfl
    have q1 : st = .long x :: st1 := q1
    subst q1
    obtain ⟨-, s', hg, hs⟩ := zk_new_ok (I := I) (x := g x) (n := n) (w := w) (lv := lv) h g1 q2 g3 g4 g5 g6 (hb x).1 (hb x).2
    exact ⟨s', _, ha K p lv x st1 w, rfl, hg, hs⟩
  · cases h
def zt_L2 (lo hi : Int) (A : zk_A) : Option zk_A := match A.2.1 with
  | (1, _, _) :: (1, _, _) :: r => zk_new A r lo hi
  | _ => none
theorem zt_L2_ok {I : zz_W → Prop} {A A' : zk_A} {n : Nat} {lo hi : Int} {act : zz_A} {g : Int64 → Int64 → Int32} (ha : ∀ (K : zz_K) (p : Nat) (lv : List (Nat × Value)) (x y : Int64) (r : List Value) (w : zz_W), act K (p, lv, .long y :: .long x :: r, w) = some (n, lv, .int (g x y) :: r, w)) (hb : ∀ x y, lo ≤ (g x y).toInt ∧ (g x y).toInt ≤ hi) (h : zt_L2 lo hi A = some A') : zk_S I act n A A' := by
  obtain ⟨L, T, F, B, C⟩ := A
  unfold zt_L2 at h
  split at h
  · rename_i k2 e2 k e r hT
    have hT : T = (1, k2, e2) :: (1, k, e) :: r := hT
    subst hT
    refine ⟨zk_new_len h, fun K s f hG => ?_⟩
    obtain ⟨p, lv, st, w⟩ := f
    obtain ⟨g1, g2, g3, g4, g5, g6⟩ := hG
    obtain ⟨y, st1, q1, q2⟩ := zk_st_long g2 rfl
    obtain ⟨x, st2, q3, q4⟩ := zk_st_long q2 rfl
    have hst : st = .long y :: .long x :: st2 := by rw [← q3]; exact q1
    subst hst
    obtain ⟨-, s', hg, hs⟩ := zk_new_ok (I := I) (x := g x y) (n := n) (w := w) (lv := lv) h g1 q4 g3 g4 g5 g6 (hb x y).1 (hb x y).2
    exact ⟨s', _, ha K p lv x y st2 w, rfl, hg, hs⟩
  · cases h
theorem zk_cmp (x y : Int64) : -1 ≤ (lg_cmp x y).toInt ∧ (lg_cmp x y).toInt ≤ 1 := by
  unfold lg_cmp
  split
  · exact ⟨by decide, by decide⟩
  · split <;> exact ⟨by decide, by decide⟩
theorem zt_lcmp_ok {I : zz_W → Prop} {A A' : zk_A} {n : Nat} (h : zt_L2 (-1) 1 A = some A') : zk_S I (za_lcmp n) n A A' := zt_L2_ok (g := fun x y => lg_cmp x y) (fun K p lv x y r w => ze_lcmp rfl) zk_cmp h
theorem zt_ladd_ok {I : zz_W → Prop} {A A' : zk_A} {n : Nat} (h : zt_LLl (fun _ _ => true) zl_add A = some A') : zk_S I (za_ladd n) n A A' :=
  zt_LLl_ok (g := fun x y => x + y) (fun K p lv x y r w => ze_ladd rfl) (fun s x y e1 e2 _ h1 h2 a b => by
    rw [zl_add_ev] at a b ⊢
    rw [Int64.toInt_add, h1, h2, zk_bmod64 a b]) h
theorem zt_lsub_ok {I : zz_W → Prop} {A A' : zk_A} {n : Nat} (h : zt_LLl (fun _ _ => true) zl_sub A = some A') : zk_S I (za_lsub n) n A A' :=
  zt_LLl_ok (g := fun x y => x - y) (fun K p lv x y r w => ze_lsub rfl) (fun s x y e1 e2 _ h1 h2 a b => by
    rw [zl_sub_ev] at a b ⊢
    rw [Int64.toInt_sub, h1, h2, zk_bmod64 a b]) h
theorem zt_lmul_ok {I : zz_W → Prop} {A A' : zk_A} {n : Nat} (h : zt_LLl zl_pmk zl_pm A = some A') : zk_S I (za_lmul n) n A A' :=
  zt_LLl_ok (g := fun x y => x * y) (fun K p lv x y r w => ze_lmul rfl) (fun s x y e1 e2 hk h1 h2 a b => by
    rw [zl_pm_ev hk] at a b ⊢
    rw [Int64.toInt_mul, h1, h2, zk_bmod64 a b]) h
theorem zt_land_ok {I : zz_W → Prop} {A A' : zk_A} {n : Nat} (h : zt_LL A = some A') : zk_S I (za_land n) n A A' := zt_LL_ok (g := fun x y => x &&& y) (fun K p lv x y r w => ze_land rfl) h
theorem zt_lor_ok {I : zz_W → Prop} {A A' : zk_A} {n : Nat} (h : zt_LL A = some A') : zk_S I (za_lor n) n A A' := zt_LL_ok (g := fun x y => x ||| y) (fun K p lv x y r w => ze_lor rfl) h
theorem zt_lxor_ok {I : zz_W → Prop} {A A' : zk_A} {n : Nat} (h : zt_LL A = some A') : zk_S I (za_lxor n) n A A' := zt_LL_ok (g := fun x y => x ^^^ y) (fun K p lv x y r w => ze_lxor rfl) h
theorem zt_lshl_ok {I : zz_W → Prop} {A A' : zk_A} {n : Nat} (h : zt_LI A = some A') : zk_S I (za_lshl n) n A A' := zt_LI_ok (g := fun x y => x <<< (y.toInt64 &&& 63)) (fun K p lv x y r w => ze_lshl rfl) h
theorem zt_lshr_ok {I : zz_W → Prop} {A A' : zk_A} {n : Nat} (h : zt_LI A = some A') : zk_S I (za_lshr n) n A A' := zt_LI_ok (g := fun x y => x >>> (y.toInt64 &&& 63)) (fun K p lv x y r w => ze_lshr rfl) h
theorem zt_lushr_ok {I : zz_W → Prop} {A A' : zk_A} {n : Nat} (h : zt_LI A = some A') : zk_S I (za_lushr n) n A A' := zt_LI_ok (g := fun x y => (x.toUInt64 >>> (y.toInt64.toUInt64 &&& Int64.toUInt64 63)).toInt64) (fun K p lv x y r w => ze_lushr rfl) h
theorem zk_b8 (x : Int32) : (-128) ≤ (x.toInt8.toInt32).toInt ∧ (x.toInt8.toInt32).toInt ≤ 127 := by
  have e : (x.toInt8.toInt32).toInt = x.toInt8.toInt := Int8.toInt_toInt32 _
  rw [e]
  have h1 := Int8.le_toInt x.toInt8
  have h2 := Int8.toInt_lt x.toInt8
  constructor <;> omega
theorem zt_i2b_ok {I : zz_W → Prop} {A A' : zk_A} {n : Nat} (h : zt_1b (fun _ _ => ((-128), 127)) A = some A') : zk_S I (za_i2b n) n A A' := zt_1b_ok (g := fun x => x.toInt8.toInt32) (fun K p lv x r w => ze_i2b rfl) (fun _ _ x _ _ _ => zk_b8 x) h
theorem zk_b16 (x : Int32) : (-32768) ≤ (x.toInt16.toInt32).toInt ∧ (x.toInt16.toInt32).toInt ≤ 32767 := by
  have e : (x.toInt16.toInt32).toInt = x.toInt16.toInt := Int16.toInt_toInt32 _
  rw [e]
  have h1 := Int16.le_toInt x.toInt16
  have h2 := Int16.toInt_lt x.toInt16
  constructor <;> omega
theorem zt_i2s_ok {I : zz_W → Prop} {A A' : zk_A} {n : Nat} (h : zt_1b (fun _ _ => ((-32768), 32767)) A = some A') : zk_S I (za_i2s n) n A A' := zt_1b_ok (g := fun x => x.toInt16.toInt32) (fun K p lv x r w => ze_i2s rfl) (fun _ _ x _ _ _ => zk_b16 x) h
/-- a row's length -/
def zk_ln (HT : List (List zk_H)) (t i : Nat) : Option Nat := cond (Nat.blt (zk_h HT i).1 3 && (Nat.beq (zk_h HT i).2.1 t && Nat.blt (zk_h HT i).2.2.1 2147483648)) (some (zk_h HT i).2.2.1) none
def zt_alen (HT : List (List zk_H)) (t : Nat) (A : zk_A) : Option zk_A := match A.2.1 with
  | (2, i, _) :: r => match zk_ln HT t i with
    | some len => some (A.1, (0, 0, zl_con (len : Int)) :: r, A.2.2.1, A.2.2.2.1, A.2.2.2.2)
    | none => none
  | _ => none
theorem zt_alen_ok {c : Nat} {HT : List (List zk_H)} {I : zz_W → Prop} (hI : ∀ w, I w → zk_I c HT w) {A A' : zk_A} {t n : Nat} (h : zt_alen HT t A = some A') : zk_S I (za_alen t n) n A A' := by
  obtain ⟨L, T, F, B, C⟩ := A
  unfold zt_alen at h
  split at h
  · rename_i i e r hT
    have hT : T = (2, i, e) :: r := hT
    subst hT
    split at h
    · rename_i len hl
      cases h
      refine ⟨Nat.le_refl _, fun K s f hG => ?_⟩
      obtain ⟨p, lv, st, w⟩ := f
      obtain ⟨g1, g2, g3, g4, g5, g6⟩ := hG
      obtain ⟨v, st2, q4, q5, q6⟩ := zk_st_cons g2
      have e3 : v = .ref i := q5.2.2.1 rfl
      subst e3
      have q4 : st = .ref i :: st2 := q4
      subst q4
      unfold zk_ln at hl
      obtain ⟨hb, hl⟩ := zz_cond hl
      obtain ⟨b1, hb⟩ := zz_and hb
      obtain ⟨b2, b3⟩ := zz_and hb
      have hl : (zk_h HT i).2.2.1 = len := Option.some.inj hl
      have k1 := zz_blt b1
      have k2 := zz_beq b2
      have k3 := zz_blt b3
      obtain ⟨o1, o2, o3, o4, -⟩ := (hI _ g6).2.2.2 i (by omega)
      refine ⟨s, (n, lv, .int (Int32.ofNat len) :: st2, w), ?_, rfl, ⟨g1, ⟨zk_v_int ?_, q6⟩, g3, g4, g5, g6⟩, fun _ _ => rfl⟩
      · show cond (Nat.blt i w.1 && (Nat.blt i 1000000 && (Nat.blt (zz_g w i).1 3 && Nat.beq (zz_g w i).2.1 t))) (zz_fN (zz_g w i).2.2.1 (fun v => some ((n, lv, .int (Int32.ofNat v) :: st2, w) : zz_F))) none = _
        have a1 : Nat.blt i w.1 = true := Nat.ble_eq.mpr o1
        have a2 : Nat.blt i 1000000 = true := Nat.ble_eq.mpr (by have := (hI _ g6).2.2.1; omega)
        rw [o2, o3, o4, a1, a2, b1, k2, hl, Nat.beq_refl, zz_fN_eq]
        rfl
      · rw [zl_con_ev]
        exact Int32.toInt_ofNat_of_lt (by omega)
    · cases h
  · cases h
end
end
section
/-! ABSTRACT FRAMES, on: booleans, longs, references, bytes that are set or read; quotients -/
noncomputable section
theorem zk_putI_gen2 {c : Nat} {HT : List (List zk_H)} {M : zk_M} {w0 : zk_W0} {A A' : zk_A} {h1 h2 : List Nat} {ci k n : Nat} {act : zz_A} {P : Int32 → Prop} (hP : ∀ (d1 : Nat) (e : zl_E) (i : Nat) (e0 : zl_E) (T : List zk_V), A.2.1 = (0, d1, e) :: (2, i, e0) :: T → ∀ (d : Nat) (lo hi : Int), zk_fs HT ci i k = some (0, d, lo, hi) → ∀ x : Int32, lo ≤ x.toInt → x.toInt ≤ hi → P x) (ha : ∀ (K : zz_K) (p : Nat) (lv : List (Nat × Value)) (x : Int32) (i : Nat) (r : List Value) (w : zz_W), P x → act K (p, lv, .int x :: .ref i :: r, w) = zz_pf w i ci k (zz_nI x) (fun w => some (n, lv, r, w))) (h : zt_putI HT M h1 h2 ci k A = some A') : zk_SW c HT M w0 act n A A' (fun _ w w' => zk_rF (zk_tg1 A) k w w') := by
  have h0 := zt_putI_ok (c := c) (w0 := w0) (n := n) h
  refine ⟨h0.1, fun K s f hpv hG => ?_⟩
  obtain ⟨f', e1, e2, e3, e4⟩ := h0.2 K s f hpv hG
  refine ⟨f', ?_, e2, e3, e4⟩
  obtain ⟨L, T0, F, B, C⟩ := A
  unfold zt_putI at h
  split at h
  · rename_i d1 e i e0 T hT
    split at h
    · rename_i d lo hi hfs
      obtain ⟨hb, -⟩ := zz_cond h
      obtain ⟨b1, hb⟩ := zz_and hb
      obtain ⟨b2, -⟩ := zz_and hb
      have hT' : T0 = (0, d1, e) :: (2, i, e0) :: T := hT
      subst hT'
      obtain ⟨p, lv, st, w⟩ := f
      obtain ⟨g1, g2, g3, g4, g5, g6⟩ := hG
      obtain ⟨x, st1, q1, q2, q3⟩ := zk_st_int g2 rfl
      obtain ⟨v, st2, q4, q5, q6⟩ := zk_st_cons q3
      have e5 : v = .ref i := q5.2.2.1 rfl
      subst e5
      have hst : st = .int x :: .ref i :: st2 := by rw [← q4]; exact q1
      subst hst
      have q2 : x.toInt = zl_ev s e := q2
      have c1 := zl_en_ok g4 g5 b1
      have c2 := zl_en_ok g4 g5 b2
      rw [zl_sub_ev, zl_con_ev] at c1 c2
      rw [ha K p lv x i st2 w (hP d1 e i e0 T rfl d lo hi hfs x (by omega) (by omega))]
      exact e1
    · cases h
  · cases h
/-- the spec's bounds are within others -/
def zk_wi (HT : List (List zk_H)) (ci k : Nat) (A : zk_A) (a b : Int) : Bool := match A.2.1 with
  | (0, _, _) :: (2, i, _) :: _ => match zk_fs HT ci i k with
    | some (0, _, lo, hi) => decide (a ≤ lo) && decide (hi ≤ b)
    | _ => false
  | _ => false
theorem zk_wi_ok {HT : List (List zk_H)} {ci k : Nat} {A : zk_A} {a b : Int} (h : zk_wi HT ci k A a b = true) (d1 : Nat) (e : zl_E) (i : Nat) (e0 : zl_E) (T : List zk_V) (hT : A.2.1 = (0, d1, e) :: (2, i, e0) :: T) (d : Nat) (lo hi : Int) (hf : zk_fs HT ci i k = some (0, d, lo, hi)) : a ≤ lo ∧ hi ≤ b := by
  unfold zk_wi at h
  rw [hT] at h
  have h : (match zk_fs HT ci i k with
    | some (0, _, lo, hi) => decide (a ≤ lo) && decide (hi ≤ b)
    | _ => false) = true := h
  rw [hf] at h
  obtain ⟨h1, h2⟩ := zz_and (show (decide (a ≤ lo) && decide (hi ≤ b)) = true from h)
  exact ⟨of_decide_eq_true h1, of_decide_eq_true h2⟩
def zt_putZ (HT : List (List zk_H)) (M : zk_M) (h1 h2 : List Nat) (ci k : Nat) (A : zk_A) : Option zk_A := cond (zk_wi HT ci k A 0 1) (zt_putI HT M h1 h2 ci k A) none
theorem zt_putZ_ok {c : Nat} {HT : List (List zk_H)} {M : zk_M} {w0 : zk_W0} {A A' : zk_A} {h1 h2 : List Nat} {ci k n : Nat} (h : zt_putZ HT M h1 h2 ci k A = some A') : zk_SW c HT M w0 (za_putZ ci k n) n A A' (fun _ w w' => zk_rF (zk_tg1 A) k w w') := by
  obtain ⟨hw, h⟩ := zz_cond h
  refine zk_putI_gen2 (P := fun x => zz_nI x < 2) (fun d1 e i e0 T hT d lo hi hf x hlo hhi => ?_) (fun K p lv x i r w hx => ?_) h
  · have := zk_wi_ok hw d1 e i e0 T hT d lo hi hf
    have hn := zk_nI (x := x) (by omega)
    omega
  · have hb : Nat.blt (zz_nI x) 2 = true := Nat.ble_eq.mpr hx
    show cond (Nat.blt (zz_nI x) 2) (zz_pf w i ci k (zz_nI x) (fun w => some ((n, lv, r, w) : zz_F))) none = _
    rw [hb]
    rfl
/-- a long's field -/
def zt_getL (HT : List (List zk_H)) (ci k : Nat) (A : zk_A) : Option zk_A := match A.2.1 with
  | (2, i, _) :: T => match zk_fs HT ci i k with
    | some (1, _, _) => some (A.1, (1, 0, zl_con 0) :: T, A.2.2.1, A.2.2.2.1, A.2.2.2.2)
    | _ => none
  | _ => none
theorem zt_getL_ok {c : Nat} {HT : List (List zk_H)} {I : zz_W → Prop} (hI : ∀ w, I w → zk_I c HT w) {A A' : zk_A} {ci k n : Nat} (h : zt_getL HT ci k A = some A') : zk_S I (za_getL ci k n) n A A' := by
  obtain ⟨L, T0, F, B, C⟩ := A
  unfold zt_getL at h
  split at h
  · rename_i i e0 T hT
    have hT : T0 = (2, i, e0) :: T := hT
    subst hT
    split at h
    · rename_i d q hfs
      cases h
      refine ⟨Nat.le_refl _, fun K s f hG => ?_⟩
      obtain ⟨p, lv, st, w⟩ := f
      obtain ⟨g1, g2, g3, g4, g5, g6⟩ := hG
      obtain ⟨v, st2, q4, q5, q6⟩ := zk_st_cons g2
      have e3 : v = .ref i := q5.2.2.1 rfl
      subst e3
      have q4 : st = .ref i :: st2 := q4
      subst q4
      obtain ⟨o1, o2, o3, o4, o5, o6, o7, o8⟩ := zk_fs_ok hfs (hI _ g6)
      refine ⟨s, (n, lv, .long (Int64.ofNat (zk_fd w (i, k))) :: st2, w), ?_, rfl, ⟨g1, ⟨zk_v_long, q6⟩, g3, g4, g5, g6⟩, fun _ _ => rfl⟩
      show cond (zz_io w i ci k) (zz_fN (zz_at 64 (zz_g w i).2.2.2 k) (fun v => some ((n, lv, .long (Int64.ofNat v) :: st2, w) : zz_F))) none = _
      rw [o6, zz_fN_eq]
      rfl
    · cases h
  · cases h
/-- a reference is set -/
def zt_putA (HT : List (List zk_H)) (M : zk_M) (ci k : Nat) (A : zk_A) : Option zk_A := match A.2.1 with
  | (2, b, _) :: (2, i, _) :: T => match zk_fs HT ci i k with
    | some (3, _, _) => cond (Nat.blt b 4000000 && zk_inM M.1 i k) (some (A.1, T, ((i, k), (2, b, zl_con 0)) :: zk_fr A.2.2.1 i k, A.2.2.2.1, A.2.2.2.2)) none
    | _ => none
  | _ => none
theorem zt_putA_ok {c : Nat} {HT : List (List zk_H)} {M : zk_M} {w0 : zk_W0} {A A' : zk_A} {ci k n : Nat} (h : zt_putA HT M ci k A = some A') : zk_SW c HT M w0 (za_putA ci k n) n A A' (fun _ w w' => zk_rF (zk_tg1 A) k w w') := by
  obtain ⟨L, T0, F, B, C⟩ := A
  unfold zt_putA at h
  split at h
  · rename_i b eb i e0 T hT
    have hT : T0 = (2, b, eb) :: (2, i, e0) :: T := hT
    subst hT
    split at h
    · rename_i d q hfs
      obtain ⟨hb, h⟩ := zz_cond h
      obtain ⟨b1, b2⟩ := zz_and hb
      cases h
      refine ⟨rfl, fun K s f hpv hG => ?_⟩
      obtain ⟨p, lv, st, w⟩ := f
      obtain ⟨g1, g2, g3, g4, g5, g6⟩ := hG
      obtain ⟨u, st1, q1, q2, q3⟩ := zk_st_cons g2
      have e2 : u = .ref b := q2.2.2.1 rfl
      subst e2
      obtain ⟨v, st2, q4, q5, q6⟩ := zk_st_cons q3
      have e3 : v = .ref i := q5.2.2.1 rfl
      subst e3
      have hst : st = .ref b :: .ref i :: st2 := by rw [← q4]; exact q1
      subst hst
      have hlt := zz_blt b1
      obtain ⟨w', u1, u2, u3, u4, u5⟩ := zk_J_pf (x := b + 1) g6 hfs (fun h => absurd (show (3 : Nat) = 2 from h) (by decide)) (Nat.lt_of_lt_of_le (show b + 1 < 4000001 by omega) (by decide)) (fun h => absurd (show (3 : Nat) = 0 from h) (by decide)) (zk_inM_ok b2)
      obtain ⟨o1, o2, o3, o4, o5, o6, o7, o8⟩ := zk_fs_ok hfs g6.1
      refine ⟨(n, lv, st2, w'), ?_, rfl, ⟨g1, q6, fun x hx => ?_, g4, g5, u2⟩, ⟨u5, fun m hm => u4 i m (fun e => hm (Prod.mk.inj e).2)⟩⟩
      · show cond (Nat.blt b 4000000) (zz_pf w i ci k (b + 1) (fun w => some ((n, lv, st2, w) : zz_F))) none = _
        rw [b1]
        show zz_pf w i ci k (b + 1) (fun w => some ((n, lv, st2, w) : zz_F)) = _
        unfold zz_pf
        rw [o6]
        show zz_fN (zz_to 64 (zz_g w i).2.2.2 k (b + 1)) (fun N => zz_st w i (3, ci, (zz_g w i).2.2.1, N) none (fun w => some ((n, lv, st2, w) : zz_F))) = _
        rw [zz_fN_eq]
        exact u1 _ _
      · rcases List.mem_cons.mp hx with e1 | hx
        · subst e1
          exact ⟨fun h => absurd (show (2 : Nat) = 0 from h) (by decide), fun _ => u3, fun h => absurd (show (2 : Nat) = 3 from h) (by decide)⟩
        · exact zk_fr_ok g3 u4 x hx
    · cases h
  · cases h
/-- rows of longs -/
def zt_aldL (HT : List (List zk_H)) (h1 h2 : List Nat) (t : Nat) (A : zk_A) : Option zk_A := match A.2.1 with
  | (0, _, e) :: (2, i, _) :: T => match zk_rs HT 1 t i with
    | some (len, _, _) => cond (zk_ix A h1 h2 e len) (some (A.1, (1, 0, zl_con 0) :: T, A.2.2.1, A.2.2.2.1, A.2.2.2.2)) none
    | none => none
  | _ => none
theorem zt_aldL_ok {c : Nat} {HT : List (List zk_H)} {I : zz_W → Prop} (hI : ∀ w, I w → zk_I c HT w) {A A' : zk_A} {h1 h2 : List Nat} {t n : Nat} (h : zt_aldL HT h1 h2 t A = some A') : zk_S I (za_aldL t n) n A A' := by
  obtain ⟨L, T0, F, B, C⟩ := A
  unfold zt_aldL at h
  split at h
  · rename_i d1 e i e0 T hT
    have hT : T0 = (0, d1, e) :: (2, i, e0) :: T := hT
    subst hT
    split at h
    · rename_i len lo hi hrs
      obtain ⟨hb, h⟩ := zz_cond h
      cases h
      refine ⟨Nat.le_refl _, fun K s f hG => ?_⟩
      obtain ⟨p, lv, st, w⟩ := f
      obtain ⟨g1, g2, g3, g4, g5, g6⟩ := hG
      obtain ⟨j, st1, q1, q2, q3⟩ := zk_st_int g2 rfl
      obtain ⟨v, st2, q4, q5, q6⟩ := zk_st_cons q3
      have e3 : v = .ref i := q5.2.2.1 rfl
      subst e3
      have hst : st = .int j :: .ref i :: st2 := by rw [← q4]; exact q1
      subst hst
      have hj := zk_ix_ok hb g4 g5 q2
      obtain ⟨o1, o2, o3, o4, o5, o6⟩ := zk_rs_ok hrs (by decide) (hI _ g6)
      refine ⟨s, (n, lv, .long (Int64.ofNat (zz_at 64 (zz_g w i).2.2.2 (zz_nI j))) :: st2, w), ?_, rfl, ⟨g1, ⟨zk_v_long, q6⟩, g3, g4, g5, g6⟩, fun _ _ => rfl⟩
      show cond (zz_ir w i 1 t (zz_nI j)) (zz_fN (zz_at 64 (zz_g w i).2.2.2 (zz_nI j)) (fun v => some ((n, lv, .long (Int64.ofNat v) :: st2, w) : zz_F))) none = _
      rw [o6 _ hj, zz_fN_eq]
      rfl
    · cases h
  · cases h
/-- booleans in rows -/
def zt_astZ (HT : List (List zk_H)) (M : zk_M) (h1 h2 h3 h4 : List Nat) (t : Nat) (A : zk_A) : Option zk_A := match A.2.1 with
  | (0, _, _) :: (0, _, _) :: (2, i, _) :: _ => cond (decide (0 ≤ (zk_h HT i).2.2.2.1) && decide ((zk_h HT i).2.2.2.2.1 ≤ 1)) (zt_astI HT M h1 h2 h3 h4 t A) none
  | _ => none
theorem zt_astZ_ok {c : Nat} {HT : List (List zk_H)} {M : zk_M} {w0 : zk_W0} {A A' : zk_A} {h1 h2 h3 h4 : List Nat} {t n : Nat} (h : zt_astZ HT M h1 h2 h3 h4 t A = some A') : zk_SW c HT M w0 (za_astZ t n) n A A' (fun s w w' => zk_rR (zk_tg2 A) (zl_ev s (zk_ix2 A)) w w' ∧ 0 ≤ zl_ev s (zk_ix2 A) ∧ (true = true → zk_el w' (zk_tg2 A) (zl_ev s (zk_ix2 A)) = zl_ev s (zk_vl A))) := by
  obtain ⟨L, T0, F, B, C⟩ := A
  unfold zt_astZ at h
  split at h
  · rename_i d0 ev d1 e i e0 T hT
    have hT : T0 = (0, d0, ev) :: (0, d1, e) :: (2, i, e0) :: T := hT
    subst hT
    obtain ⟨hz, h⟩ := zz_cond h
    obtain ⟨z1, z2⟩ := zz_and hz
    have z1 := of_decide_eq_true z1
    have z2 := of_decide_eq_true z2
    have h0 := zt_astI_ok (c := c) (M := M) (w0 := w0) (n := n) h
    refine ⟨h0.1, fun K s f hpv hG => ?_⟩
    obtain ⟨f', e1, e2, e3, e4⟩ := h0.2 K s f hpv hG
    refine ⟨f', ?_, e2, e3, e4⟩
    have h : (match zk_rs HT 0 t i with
      | some (len, lo, hi) => cond (zk_ix (L, (0, d0, ev) :: (0, d1, e) :: (2, i, e0) :: T, F, B, C) h1 h2 e len && (zl_en B C h3 (zl_sub ev (zl_con (zk_sb (zk_h HT i).2.2.2.2.2 lo hi e).1)) && (zl_en B C h4 (zl_sub (zl_con (zk_sb (zk_h HT i).2.2.2.2.2 lo hi e).2) ev) && (zk_inP M B C i e && (F.all (fun q => Nat.beq (zk_h HT q.1.1).1 3) && zk_swz (zk_h HT i).2.2.2.2.2 e))))) (some (L, T, F, B, C)) none
      | none => none) = some A' := h
    split at h
    · rename_i len lo hi hrs
      obtain ⟨hb, -⟩ := zz_cond h
      obtain ⟨-, hb⟩ := zz_and hb
      obtain ⟨b2, hb⟩ := zz_and hb
      obtain ⟨b3, -⟩ := zz_and hb
      obtain ⟨p, lv, st, w⟩ := f
      obtain ⟨g1, g2, g3, g4, g5, g6⟩ := hG
      obtain ⟨x, st0, r1, r2, r3⟩ := zk_st_int g2 rfl
      obtain ⟨j, st1, q1, q2, q3⟩ := zk_st_int r3 rfl
      obtain ⟨v, st2, q4, q5, q6⟩ := zk_st_cons q3
      have e5 : v = .ref i := q5.2.2.1 rfl
      subst e5
      have hst : st = .int x :: .int j :: .ref i :: st2 := by rw [← q4, ← q1]; exact r1
      subst hst
      have r2 : x.toInt = zl_ev s ev := r2
      have c1 := zl_en_ok g4 g5 b2
      have c2 := zl_en_ok g4 g5 b3
      rw [zl_sub_ev, zl_con_ev] at c1 c2
      unfold zk_rs at hrs
      obtain ⟨-, hrs⟩ := zz_cond hrs
      have hrs : ((zk_h HT i).2.2.1, (zk_h HT i).2.2.2.1, (zk_h HT i).2.2.2.2.1) = (len, lo, hi) := Option.some.inj hrs
      have e6 : (zk_h HT i).2.2.2.1 = lo := congrArg (fun q => q.2.1) hrs
      have e7 : (zk_h HT i).2.2.2.2.1 = hi := congrArg (fun q => q.2.2) hrs
      have hsl := zk_sb_le (zk_h HT i).2.2.2.2.2 lo hi e
      have hn := zk_nI (x := x) (by omega)
      have hb : Nat.blt (zz_nI x) 2 = true := Nat.ble_eq.mpr (by omega)
      show cond (Nat.blt (zz_nI x) 2) (zz_pr w i 0 t 32 (zz_nI j) (zz_nI x) (fun w => some ((n, lv, st2, w) : zz_F))) none = _
      rw [hb]
      exact e1
    · cases h
  · cases h
/-- bytes in rows: the row may hold all of them -/
def zt_astB (HT : List (List zk_H)) (M : zk_M) (h1 h2 : List Nat) (t : Nat) (A : zk_A) : Option zk_A := match A.2.1 with
  | (0, _, _) :: (0, _, e) :: (2, i, _) :: T => match zk_rs HT 0 t i with
    | some (len, lo, hi) => cond (zk_ix A h1 h2 e len && (decide (lo ≤ -128) && (decide (127 ≤ hi) && (zk_inP M A.2.2.2.1 A.2.2.2.2 i e && (A.2.2.1.all (fun q => Nat.beq (zk_h HT q.1.1).1 3) && Nat.beq (zk_h HT i).2.2.2.2.2.length 0))))) (some (A.1, T, A.2.2.1, A.2.2.2.1, A.2.2.2.2)) none
    | none => none
  | _ => none
theorem zt_astB_ok {c : Nat} {HT : List (List zk_H)} {M : zk_M} {w0 : zk_W0} {A A' : zk_A} {h1 h2 : List Nat} {t n : Nat} (h : zt_astB HT M h1 h2 t A = some A') : zk_SW c HT M w0 (za_astB t n) n A A' (fun s w w' => zk_rR (zk_tg2 A) (zl_ev s (zk_ix2 A)) w w' ∧ 0 ≤ zl_ev s (zk_ix2 A) ∧ (false = true → zk_el w' (zk_tg2 A) (zl_ev s (zk_ix2 A)) = zl_ev s (zk_vl A))) := by
  obtain ⟨L, T0, F, B, C⟩ := A
  unfold zt_astB at h
  split at h
  · rename_i d0 ev d1 e i e0 T hT
    have hT : T0 = (0, d0, ev) :: (0, d1, e) :: (2, i, e0) :: T := hT
    subst hT
    split at h
    · rename_i len lo hi hrs
      obtain ⟨hb, h⟩ := zz_cond h
      obtain ⟨b1, hb⟩ := zz_and hb
      obtain ⟨b2, hb⟩ := zz_and hb
      obtain ⟨b3, hb⟩ := zz_and hb
      obtain ⟨b5, b4⟩ := zz_and hb
      obtain ⟨b4, b6⟩ := zz_and b4
      have b6 : (zk_h HT i).2.2.2.2.2 = [] := List.length_eq_zero_iff.mp (zz_beq b6)
      have b2 := of_decide_eq_true b2
      have b3 := of_decide_eq_true b3
      cases h
      refine ⟨rfl, fun K s f hpv hG => ?_⟩
      obtain ⟨p, lv, st, w⟩ := f
      obtain ⟨g1, g2, g3, g4, g5, g6⟩ := hG
      obtain ⟨x, st0, r1, r2, r3⟩ := zk_st_int g2 rfl
      obtain ⟨j, st1, q1, q2, q3⟩ := zk_st_int r3 rfl
      obtain ⟨v, st2, q4, q5, q6⟩ := zk_st_cons q3
      have e3 : v = .ref i := q5.2.2.1 rfl
      subst e3
      have hst : st = .int x :: .int j :: .ref i :: st2 := by rw [← q4, ← q1]; exact r1
      subst hst
      have hj := zk_ix_ok b1 g4 g5 q2
      have hx : (Int32.ofNat (zz_nI x.toInt8.toInt32)).toInt = x.toInt8.toInt32.toInt := by rw [zz_nI_of]
      have hb8 := zk_b8 x
      obtain ⟨o1, o2, o3, o4, o5, o6⟩ := zk_rs_ok hrs (by decide) g6.1
      obtain ⟨w', u1, u2, u3, u4, u5⟩ := zk_J_pr (j := zz_nI j) (x := zz_nI x.toInt8.toInt32) g6 hrs (zz_nI_lt _) (by rw [hx]; constructor <;> omega) (fun q hq => by rw [b6] at hq; cases hq) (zk_inP_ok g4 g5 hpv b5 (by rw [← q2]; exact zk_nI (by have := zl_en_ok g4 g5 (zz_and b1).1; have q2 : j.toInt = zl_ev s e := q2; omega)))
      have q2 : j.toInt = zl_ev s e := q2
      have hj0 : 0 ≤ j.toInt := by
        have := zl_en_ok g4 g5 (zz_and b1).1
        omega
      have hrel := (zk_el_to (x := zz_nI x.toInt8.toInt32) hj0 (zz_nI_lt _) u4 u5).1
      rw [q2] at hrel
      refine ⟨(n, lv, st2, w'), ?_, rfl, ⟨g1, q6, fun q hq => ?_, g4, g5, u2⟩, hrel, (by rw [← q2]; exact hj0 : 0 ≤ zl_ev s e), fun h => absurd h (by decide)⟩
      · show zz_pr w i 0 t 32 (zz_nI j) (zz_nI x.toInt8.toInt32) (fun w => some ((n, lv, st2, w) : zz_F)) = _
        unfold zz_pr
        rw [o6 _ hj]
        show zz_fN (zz_to 32 (zz_g w i).2.2.2 (zz_nI j) (zz_nI x.toInt8.toInt32)) (fun N => zz_st w i (0, t, (zz_g w i).2.2.1, N) none (fun w => some ((n, lv, st2, w) : zz_F))) = _
        rw [zz_fN_eq]
        exact u1 _ _
      · have := g3 q hq
        rw [show zk_fd w' q.1 = zk_fd w q.1 from u3 q.1.1 q.1.2 (zz_beq (List.all_eq_true.mp b4 q hq))]
        exact this
    · cases h
  · cases h
end
end
section
/-! ABSTRACT FRAMES, on: quotients, rows of references, chars, longs that are set -/
noncomputable section
theorem zk_div {x y : Int32} {c : Int} (hy : y.toInt = c) (hc : 0 < c) : (x / y).toInt = x.toInt.tdiv c := by
  have hx1 := zk_lo x
  have hx2 := zk_hi x
  have hd : x.toInt.tdiv c * c + x.toInt.tmod c = x.toInt := Int.tdiv_mul_add_tmod x.toInt c
  rw [Int32.toInt_div, hy]
  by_cases h0 : 0 ≤ x.toInt
  · have a := Int.tdiv_nonneg h0 (Int.le_of_lt hc)
    have b : x.toInt.tdiv c * 1 ≤ x.toInt.tdiv c * c := Int.mul_le_mul_of_nonneg_left (by omega) a
    have := Int.tmod_nonneg (a := x.toInt) c h0
    exact zk_bmod (by omega) (by omega)
  · have a : 0 ≤ (-x.toInt).tdiv c := Int.tdiv_nonneg (by omega) (Int.le_of_lt hc)
    rw [Int.neg_tdiv] at a
    have b : x.toInt.tdiv c * c ≤ x.toInt.tdiv c * 1 := Int.mul_le_mul_of_nonpos_left (by omega) (by omega)
    have h1 := Int.tmod_nonneg (a := -x.toInt) c (by omega)
    rw [Int.neg_tmod] at h1
    exact zk_bmod (by omega) (by omega)
/-- the greatest value that the bounds allow -/
def zl_ub (B : List (Int × Int)) (e : zl_E) : Option Int := match zl_lb B (zl_neg e).2 with
  | some v => some (-(zl_nv (zl_neg e).1 + v))
  | none => none
theorem zl_ub_ok {s : Nat → Int} {B : List (Int × Int)} {e : zl_E} {u : Int} (hB : zl_in s B) (h : zl_ub B e = some u) : zl_ev s e ≤ u := by
  unfold zl_ub at h
  split at h
  · rename_i v hv
    cases h
    have h1 := zl_lb_ok s B hB (zl_neg e).2 v hv
    have h2 := zl_neg_ev s e
    have h3 : zl_ev s (zl_neg e) = zl_nv (zl_neg e).1 + zl_dt s (zl_neg e).2 := rfl
    omega
  · cases h
def zk_dh (B : List (Int × Int)) (e : zl_E) (c : Int) : Int := match zl_ub B e with
  | some u => u / c
  | none => 2147483647
theorem zk_dh_ok {s : Nat → Int} {B : List (Int × Int)} {e : zl_E} {c : Int} {x y : Int32} (hB : zl_in s B) (hx : x.toInt = zl_ev s e) (h0 : 0 ≤ x.toInt) (hy : y.toInt = c) (hc : 0 < c) : (x / y).toInt ≤ zk_dh B e c := by
  unfold zk_dh
  split
  · rename_i u hu
    have h1 := zl_ub_ok hB hu
    rw [zk_div hy hc, Int.tdiv_eq_ediv_of_nonneg h0]
    exact Int.ediv_le_ediv hc (by omega)
  · exact zk_hi _
def zt_idiv (A : zk_A) : Option zk_A := match A.2.1 with
  | (0, _, e2) :: (0, _, e1) :: r => match zl_c e2 with
    | some c => cond (decide (0 < c)) (cond (zl_pos A.2.2.2.1 e1 && Nat.ble (zl_mx e1.2) A.2.2.2.1.length)
        (match zk_new A r 0 (zk_dh A.2.2.2.1 e1 c) with
          | some B => some (B.1, B.2.1, B.2.2.1, B.2.2.2.1, zl_sub e1 (zl_mul c (zl_sym A.2.2.2.1.length)) :: zl_sub (zl_add (zl_mul c (zl_sym A.2.2.2.1.length)) (zl_con (c - 1))) e1 :: B.2.2.2.2)
          | none => none)
        (zk_new A r (-2147483648) 2147483647)) none
    | none => none
  | _ => none
theorem zt_idiv_ok {I : zz_W → Prop} {A A' : zk_A} {n : Nat} (h : zt_idiv A = some A') : zk_S I (za_idiv n) n A A' := by
  obtain ⟨L, T, F, B, C⟩ := A
  unfold zt_idiv at h
  split at h
  · rename_i k2 e2 k1 e1 r hT
    have hT : T = (0, k2, e2) :: (0, k1, e1) :: r := hT
    subst hT
    split at h
    · rename_i c hc
      obtain ⟨h0, h⟩ := zz_cond h
      have h0 : 0 < c := of_decide_eq_true h0
      have hy0 : ∀ (s : Nat → Int) (y : Int32), y.toInt = zl_ev s e2 → y.toInt = c ∧ ¬ y = 0 := by
        intro s y hy
        have h1 : y.toInt = c := hy.trans (zl_c_ok hc)
        refine ⟨h1, fun e => ?_⟩
        rw [e] at h1
        have : (0 : Int32).toInt = 0 := rfl
        omega
      cases hp : (zl_pos B e1 && Nat.ble (zl_mx e1.2) B.length) with
      | false =>
        have h : cond (zl_pos B e1 && Nat.ble (zl_mx e1.2) B.length) _ (zk_new (L, (0, k2, e2) :: (0, k1, e1) :: r, F, B, C) r (-2147483648) 2147483647) = some A' := h
        rw [hp] at h
        have h : zk_new (L, (0, k2, e2) :: (0, k1, e1) :: r, F, B, C) r (-2147483648) 2147483647 = some A' := h
        refine ⟨zk_new_len h, fun K s f hG => ?_⟩
        obtain ⟨p, lv, st, w⟩ := f
        obtain ⟨g1, g2, g3, g4, g5, g6⟩ := hG
        obtain ⟨y, st1, q1, q2, q3⟩ := zk_st_int g2 rfl
        obtain ⟨x, st2, q4, q5, q6⟩ := zk_st_int q3 rfl
        have hst : st = .int y :: .int x :: st2 := by rw [← q4]; exact q1
        subst hst
        obtain ⟨-, s', hg, hs⟩ := zk_new_ok (I := I) (x := x / y) (n := n) (w := w) (lv := lv) h g1 q6 g3 g4 g5 g6 (zk_lo _) (zk_hi _)
        exact ⟨s', _, ze_idiv (hy0 s y q2).2 rfl, rfl, hg, hs⟩
      | true =>
        obtain ⟨p1, p2⟩ := zz_and hp
        have h : cond (zl_pos B e1 && Nat.ble (zl_mx e1.2) B.length) (match zk_new (L, (0, k2, e2) :: (0, k1, e1) :: r, F, B, C) r 0 (zk_dh B e1 c) with
          | some B1 => some (B1.1, B1.2.1, B1.2.2.1, B1.2.2.2.1, zl_sub e1 (zl_mul c (zl_sym B.length)) :: zl_sub (zl_add (zl_mul c (zl_sym B.length)) (zl_con (c - 1))) e1 :: B1.2.2.2.2)
          | none => none) _ = some A' := h
        rw [hp] at h
        have h : (match zk_new (L, (0, k2, e2) :: (0, k1, e1) :: r, F, B, C) r 0 (zk_dh B e1 c) with
          | some B1 => some (B1.1, B1.2.1, B1.2.2.1, B1.2.2.2.1, zl_sub e1 (zl_mul c (zl_sym B.length)) :: zl_sub (zl_add (zl_mul c (zl_sym B.length)) (zl_con (c - 1))) e1 :: B1.2.2.2.2)
          | none => none) = some A' := h
        split at h
        · rename_i A1 hA1
          cases h
          have hl := zk_new_len hA1
          refine ⟨hl, fun K s f hG => ?_⟩
          obtain ⟨p, lv, st, w⟩ := f
          obtain ⟨g1, g2, g3, g4, g5, g6⟩ := hG
          obtain ⟨y, st1, q1, q2, q3⟩ := zk_st_int g2 rfl
          obtain ⟨x, st2, q4, q5, q6⟩ := zk_st_int q3 rfl
          have hst : st = .int y :: .int x :: st2 := by rw [← q4]; exact q1
          subst hst
          have q5 : x.toInt = zl_ev s e1 := q5
          have hx0 := zl_pos_ok g4 p1
          obtain ⟨hy, hyn⟩ := hy0 s y q2
          have hq := zk_div (x := x) hy h0
          have hd : x.toInt.tdiv c * c + x.toInt.tmod c = x.toInt := Int.tdiv_mul_add_tmod x.toInt c
          have hm0 := Int.tmod_nonneg (a := x.toInt) c (by omega)
          have hm1 := Int.tmod_lt_of_pos x.toInt h0
          have hqn := Int.tdiv_nonneg (a := x.toInt) (b := c) (by omega) (Int.le_of_lt h0)
          obtain ⟨-, s', hg, hs⟩ := zk_new_ok (I := I) (x := x / y) (n := n) (w := w) (lv := lv) hA1 g1 q6 g3 g4 g5 g6 (by rw [hq]; exact hqn) (zk_dh_ok g4 q5 (by omega) hy h0)
          obtain ⟨j1, j2, j3, j4, j5, j6⟩ := hg
          have hsym : (x / y).toInt = s' B.length := by
            obtain ⟨-, hA1⟩ := zz_cond hA1
            cases hA1
            obtain ⟨z, z1, z2⟩ := j2.1.1 rfl
            cases z1
            have z2 : (x / y).toInt = zl_ev s' (zl_sym B.length) := z2
            rw [zl_sym_ev] at z2
            exact z2
          have he1 : zl_ev s' e1 = x.toInt := by
            rw [zl_ev_eq (t := s) (n := B.length) (zz_ble p2) hs]
            exact q5.symm
          have hcm : c * s' B.length = x.toInt.tdiv c * c := by rw [← hsym, hq, Int.mul_comm]
          refine ⟨s', _, ze_idiv hyn rfl, rfl, ⟨j1, j2, j3, j4, fun e he => ?_, j6⟩, hs⟩
          rcases List.mem_cons.mp he with e0 | he
          · rw [e0, zl_sub_ev, zl_mul_ev, zl_sym_ev, he1]
            omega
          · rcases List.mem_cons.mp he with e0 | he
            · rw [e0, zl_sub_ev, zl_add_ev, zl_mul_ev, zl_sym_ev, zl_con_ev, he1]
              omega
            · exact j5 e he
        · cases h
    · cases h
  · cases h
/-- the references of a row, one by one -/
def zk_sa (A : zk_A) (T : List zk_V) (hs : List Nat) (e : zl_E) (n : Nat) : Int → List (Nat × Nat × Int × Int) → List (Nat × zk_A)
  | _, [] => []
  | v, q :: qs => (zk_and A ((match q.2.1 with | 0 => (3, 0, zl_con 0) | m + 1 => (2, m, zl_con 0)) :: T) hs [zl_sub e (zl_con v), zl_sub (zl_con v) e]).map (fun B => (n, B)) ++ zk_sa A T hs e n (v + 1) qs
theorem zk_sa_in {A : zk_A} {T : List zk_V} {hs : List Nat} {e : zl_E} {n : Nat} : ∀ {qs : List (Nat × Nat × Int × Int)} {v : Int} {i : Nat} {q : Nat × Nat × Int × Int}, qs[i]? = some q → ∀ A' ∈ zk_and A ((match q.2.1 with | 0 => (3, 0, zl_con 0) | m + 1 => (2, m, zl_con 0)) :: T) hs [zl_sub e (zl_con (v + (i : Int))), zl_sub (zl_con (v + (i : Int))) e], (n, A') ∈ zk_sa A T hs e n v qs
  | [], _, _, _, h, _, _ => by cases h
  | u :: qs, v, 0, q, h, A', hA => by
    cases h
    have e0 : v + ((0 : Nat) : Int) = v := by omega
    rw [e0] at hA
    exact List.mem_append_left _ (List.mem_map.mpr ⟨A', hA, rfl⟩)
  | u :: qs, v, i + 1, q, h, A', hA => by
    have e0 : v + ((i + 1 : Nat) : Int) = v + 1 + (i : Int) := by omega
    rw [e0] at hA
    exact List.mem_append_right _ (zk_sa_in (qs := qs) (v := v + 1) (i := i) h A' hA)
def zt_aldA (HT : List (List zk_H)) (h0 h1 h2 : List Nat) (t n : Nat) (A : zk_A) : Option (List (Nat × zk_A)) := match A.2.1 with
  | (0, _, e) :: (2, i, _) :: T => match zk_rs HT 2 t i with
    | some (len, _, _) => cond (zk_ix A h1 h2 e len && Nat.beq (zk_h HT i).2.2.2.2.2.length len) (some (zk_sa A T h0 e n 0 (zk_h HT i).2.2.2.2.2)) none
    | none => none
  | _ => none
theorem zt_aldA_ok {c : Nat} {HT : List (List zk_H)} {I : zz_W → Prop} (hI : ∀ w, I w → zk_I c HT w) {A : zk_A} {R : List (Nat × zk_A)} {h0 h1 h2 : List Nat} {t n : Nat} (h : zt_aldA HT h0 h1 h2 t n A = some R) : zk_R I (za_aldA t n) A R := by
  obtain ⟨L, T0, F, B, C⟩ := A
  unfold zt_aldA at h
  split at h
  · rename_i d1 e i e0 T hT
    have hT : T0 = (0, d1, e) :: (2, i, e0) :: T := hT
    subst hT
    split at h
    · rename_i len lo hi hrs
      obtain ⟨hb, h⟩ := zz_cond h
      obtain ⟨b1, b2⟩ := zz_and hb
      cases h
      intro K s f hG
      obtain ⟨p, lv, st, w⟩ := f
      obtain ⟨g1, g2, g3, g4, g5, g6⟩ := hG
      obtain ⟨j, st1, q1, q2, q3⟩ := zk_st_int g2 rfl
      obtain ⟨v, st2, q4, q5, q6⟩ := zk_st_cons q3
      have e3 : v = .ref i := q5.2.2.1 rfl
      subst e3
      have hst : st = .int j :: .ref i :: st2 := by rw [← q4]; exact q1
      subst hst
      have q2 : j.toInt = zl_ev s e := q2
      have hj := zk_ix_ok b1 g4 g5 q2
      obtain ⟨o1, o2, o3, o4, o5, o6⟩ := zk_rs_ok hrs (by decide) (hI _ g6)
      obtain ⟨c1, -⟩ := zz_and b1
      have c1 := zl_en_ok g4 g5 c1
      have hn := zk_nI (x := j) (by omega)
      have hlen : zz_nI j < (zk_h HT i).2.2.2.2.2.length := by rw [zz_beq b2]; exact hj
      have hq : (zk_h HT i).2.2.2.2.2[zz_nI j]? = some (zk_h HT i).2.2.2.2.2[zz_nI j] := List.getElem?_eq_getElem hlen
      obtain ⟨-, -, -, -, -, hc2, -⟩ := (hI _ g6).2.2.2 i (by omega)
      have hc2 := hc2 o2 _ _ hq
      generalize (zk_h HT i).2.2.2.2.2[zz_nI j] = q at hq hc2
      have hcs : zk_cs s [zl_sub e (zl_con (0 + (zz_nI j : Int))), zl_sub (zl_con (0 + (zz_nI j : Int))) e] := by
        intro x hx
        rcases List.mem_cons.mp hx with ex | hx
        · rw [ex, zl_sub_ev, zl_con_ev]; omega
        · rw [List.mem_singleton.mp hx, zl_sub_ev, zl_con_ev]; omega
      cases hm : q.2.1 with
      | zero =>
        rw [hm] at hc2
        obtain ⟨A', m1, m2, m3⟩ := zk_and_ok (I := I) (A := (L, (0, d1, e) :: (2, i, e0) :: T, F, B, C)) (T := (3, 0, zl_con 0) :: T) (hs := h0) (n := n) (w := w) (lv := lv) (r := .null :: st2) g1 ⟨zk_v_null, q6⟩ g3 g4 g5 g6 hcs
        refine ⟨s, (n, lv, .null :: st2, w), (n, A'), ?_, zk_sa_in hq A' (by rw [hm]; exact m1), rfl, m2, m3, fun _ _ => rfl⟩
        show cond (zz_ir w i 2 t (zz_nI j)) (Nat.casesOn (motive := fun _ => Option zz_F) (zz_at 32 (zz_g w i).2.2.2 (zz_nI j)) (some (n, lv, .null :: st2, w)) (fun v => some (n, lv, .ref v :: st2, w))) none = _
        rw [o6 _ hj, hc2]
        rfl
      | succ m =>
        rw [hm] at hc2
        obtain ⟨A', m1, m2, m3⟩ := zk_and_ok (I := I) (A := (L, (0, d1, e) :: (2, i, e0) :: T, F, B, C)) (T := (2, m, zl_con 0) :: T) (hs := h0) (n := n) (w := w) (lv := lv) (r := .ref m :: st2) g1 ⟨zk_v_ref, q6⟩ g3 g4 g5 g6 hcs
        refine ⟨s, (n, lv, .ref m :: st2, w), (n, A'), ?_, zk_sa_in hq A' (by rw [hm]; exact m1), rfl, m2, m3, fun _ _ => rfl⟩
        show cond (zz_ir w i 2 t (zz_nI j)) (Nat.casesOn (motive := fun _ => Option zz_F) (zz_at 32 (zz_g w i).2.2.2 (zz_nI j)) (some (n, lv, .null :: st2, w)) (fun v => some (n, lv, .ref v :: st2, w))) none = _
        rw [o6 _ hj, hc2]
        rfl
    · cases h
  · cases h
end
end
section
/-! ABSTRACT FRAMES, on: rests and quotients by what is above 0 -/
noncomputable section
def zt_iremV (A : zk_A) : Option zk_A := match A.2.1 with
  | (0, _, e2) :: (0, _, e1) :: r => match zl_ub A.2.2.2.1 e2 with
    | some u => cond (zl_pos A.2.2.2.1 (zl_sub e2 (zl_con 1))) (zk_new A r (cond (zl_pos A.2.2.2.1 e1) 0 (1 - u)) (u - 1)) none
    | none => none
  | _ => none
theorem zt_iremV_ok {I : zz_W → Prop} {A A' : zk_A} {n : Nat} (h : zt_iremV A = some A') : zk_S I (za_irem n) n A A' := by
  obtain ⟨L, T, F, B, C⟩ := A
  unfold zt_iremV at h
  split at h
  · rename_i k2 e2 k1 e1 r hT
    have hT : T = (0, k2, e2) :: (0, k1, e1) :: r := hT
    subst hT
    split at h
    · rename_i u hu
      obtain ⟨h0, h⟩ := zz_cond h
      refine ⟨zk_new_len h, fun K s f hG => ?_⟩
      obtain ⟨p, lv, st, w⟩ := f
      obtain ⟨g1, g2, g3, g4, g5, g6⟩ := hG
      obtain ⟨y, st1, q1, q2, q3⟩ := zk_st_int g2 rfl
      obtain ⟨x, st2, q4, q5, q6⟩ := zk_st_int q3 rfl
      have hst : st = .int y :: .int x :: st2 := by rw [← q4]; exact q1
      subst hst
      have q2 : y.toInt = zl_ev s e2 := q2
      have hp := zl_pos_ok g4 h0
      rw [zl_sub_ev, zl_con_ev] at hp
      have hle := zl_ub_ok g4 hu
      have hc : 0 < y.toInt := by omega
      have hm := zk_rem (x := x) (y := y) rfl hc
      have hlt := Int.tmod_lt_of_pos x.toInt hc
      have hgt : -y.toInt < x.toInt.tmod y.toInt := by
        have h1 := Int.tmod_lt_of_pos (-x.toInt) hc
        rw [Int.neg_tmod] at h1
        omega
      have hy0 : ¬ y = 0 := by
        intro e
        rw [e] at hc
        have : (0 : Int32).toInt = 0 := rfl
        omega
      obtain ⟨-, s', hg, hs⟩ := zk_new_ok (I := I) (x := x - x / y * y) (n := n) (w := w) (lv := lv) h g1 q6 g3 g4 g5 g6 (by
        rw [hm]
        cases hq : zl_pos B e1 with
        | true =>
          have h1 := zl_pos_ok g4 hq
          have q5 : x.toInt = zl_ev s e1 := q5
          exact Int.tmod_nonneg _ (by omega)
        | false =>
          show 1 - u ≤ _
          omega) (by rw [hm]; omega)
      exact ⟨s', _, ze_irem hy0 rfl, rfl, hg, hs⟩
    · cases h
  · cases h
/-- by what is below 0 -/
def zt_qN (A : zk_A) : Option zk_A := match A.2.1 with
  | (0, _, e2) :: (0, _, _) :: r => cond (zl_pos A.2.2.2.1 (zl_sub (zl_con (-1)) e2)) (zk_new A r (-2147483648) 2147483647) none
  | _ => none
theorem zt_qN_ok {I : zz_W → Prop} {A A' : zk_A} {n : Nat} {act : zz_A} {g : Int32 → Int32 → Int32} (ha : ∀ (K : zz_K) (p : Nat) (lv : List (Nat × Value)) (x y : Int32) (st : List Value) (w : zz_W), ¬ y = 0 → act K (p, lv, .int y :: .int x :: st, w) = some (n, lv, .int (g x y) :: st, w)) (h : zt_qN A = some A') : zk_S I act n A A' := by
  obtain ⟨L, T, F, B, C⟩ := A
  unfold zt_qN at h
  split at h
  · rename_i k2 e2 k1 e1 r hT
    have hT : T = (0, k2, e2) :: (0, k1, e1) :: r := hT
    subst hT
    obtain ⟨h0, h⟩ := zz_cond h
    refine ⟨zk_new_len h, fun K s f hG => ?_⟩
    obtain ⟨p, lv, st, w⟩ := f
    obtain ⟨g1, g2, g3, g4, g5, g6⟩ := hG
    obtain ⟨y, st1, q1, q2, q3⟩ := zk_st_int g2 rfl
    obtain ⟨x, st2, q4, q5, q6⟩ := zk_st_int q3 rfl
    have hst : st = .int y :: .int x :: st2 := by rw [← q4]; exact q1
    subst hst
    have q2 : y.toInt = zl_ev s e2 := q2
    have hp := zl_pos_ok g4 h0
    rw [zl_sub_ev, zl_con_ev] at hp
    have hy0 : ¬ y = 0 := by
      intro e
      rw [e] at q2
      have : (0 : Int32).toInt = 0 := rfl
      omega
    obtain ⟨-, s', hg, hs⟩ := zk_new_ok (I := I) (x := g x y) (n := n) (w := w) (lv := lv) h g1 q6 g3 g4 g5 g6 (zk_lo _) (zk_hi _)
    exact ⟨s', _, ha K p lv x y st2 w hy0, rfl, hg, hs⟩
  · cases h
/-- by a number, else by what is above 0, else by what is below 0 -/
def zt_irem2 (A : zk_A) : Option zk_A := match zt_irem A with
  | some B => some B
  | none => match zt_iremV A with
    | some B => some B
    | none => zt_qN A
theorem zt_irem2_ok {I : zz_W → Prop} {A A' : zk_A} {n : Nat} (h : zt_irem2 A = some A') : zk_S I (za_irem n) n A A' := by
  unfold zt_irem2 at h
  split at h
  · rename_i B hB
    cases h
    exact zt_irem_ok hB
  · split at h
    · rename_i B hB
      cases h
      exact zt_iremV_ok hB
    · exact zt_qN_ok (g := fun x y => x - x / y * y) (fun K p lv x y st w hy => ze_irem hy rfl) h
def zt_idivV (A : zk_A) : Option zk_A := match A.2.1 with
  | (0, _, e2) :: (0, _, _) :: r => cond (zl_pos A.2.2.2.1 (zl_sub e2 (zl_con 1))) (zk_new A r (-2147483648) 2147483647) none
  | _ => none
theorem zt_idivV_ok {I : zz_W → Prop} {A A' : zk_A} {n : Nat} (h : zt_idivV A = some A') : zk_S I (za_idiv n) n A A' := by
  obtain ⟨L, T, F, B, C⟩ := A
  unfold zt_idivV at h
  split at h
  · rename_i k2 e2 k1 e1 r hT
    have hT : T = (0, k2, e2) :: (0, k1, e1) :: r := hT
    subst hT
    obtain ⟨h0, h⟩ := zz_cond h
    refine ⟨zk_new_len h, fun K s f hG => ?_⟩
    obtain ⟨p, lv, st, w⟩ := f
    obtain ⟨g1, g2, g3, g4, g5, g6⟩ := hG
    obtain ⟨y, st1, q1, q2, q3⟩ := zk_st_int g2 rfl
    obtain ⟨x, st2, q4, q5, q6⟩ := zk_st_int q3 rfl
    have hst : st = .int y :: .int x :: st2 := by rw [← q4]; exact q1
    subst hst
    have q2 : y.toInt = zl_ev s e2 := q2
    have hp := zl_pos_ok g4 h0
    rw [zl_sub_ev, zl_con_ev] at hp
    have hy0 : ¬ y = 0 := by
      intro e
      rw [e] at q2
      have : (0 : Int32).toInt = 0 := rfl
      omega
    obtain ⟨-, s', hg, hs⟩ := zk_new_ok (I := I) (x := x / y) (n := n) (w := w) (lv := lv) h g1 q6 g3 g4 g5 g6 (zk_lo _) (zk_hi _)
    exact ⟨s', _, ze_idiv hy0 rfl, rfl, hg, hs⟩
  · cases h
def zt_idiv2 (A : zk_A) : Option zk_A := match zt_idiv A with
  | some B => some B
  | none => match zt_idivV A with
    | some B => some B
    | none => zt_qN A
theorem zt_idiv2_ok {I : zz_W → Prop} {A A' : zk_A} {n : Nat} (h : zt_idiv2 A = some A') : zk_S I (za_idiv n) n A A' := by
  unfold zt_idiv2 at h
  split at h
  · rename_i B hB
    cases h
    exact zt_idiv_ok hB
  · split at h
    · rename_i B hB
      cases h
      exact zt_idivV_ok hB
    · exact zt_qN_ok (g := fun x y => x / y) (fun K p lv x y st w hy => ze_idiv hy rfl) h
/-- exact, by a number that the hints name: the rest is what was there less so many times the number -/
def zt_irem3 (hs : List (List Nat)) (A : zk_A) : Option zk_A := match (hs.getD 0 []).getD 0 0 with
  | 0 => zt_irem2 A
  | k + 1 => match A.2.1 with
    | (0, _, e2) :: (0, _, e1) :: r => cond ((zl_en A.2.2.2.1 A.2.2.2.2 (hs.getD 1 []) (zl_sub e2 (zl_con ((k : Int) + 1))) && zl_en A.2.2.2.1 A.2.2.2.2 (hs.getD 2 []) (zl_sub (zl_con ((k : Int) + 1)) e2)) && (zl_en A.2.2.2.1 A.2.2.2.2 (hs.getD 3 []) e1 && Nat.ble (zl_mx e1.2) A.2.2.2.1.length))
        (match zk_new A r 0 2147483647 with
          | some B => some (B.1, (0, 0, zl_sub e1 (zl_mul ((k : Int) + 1) (zl_sym A.2.2.2.1.length))) :: r, B.2.2.1, B.2.2.2.1, zl_sub e1 (zl_mul ((k : Int) + 1) (zl_sym A.2.2.2.1.length)) :: zl_sub (zl_add (zl_mul ((k : Int) + 1) (zl_sym A.2.2.2.1.length)) (zl_con k)) e1 :: B.2.2.2.2)
          | none => none) none
    | _ => none
theorem zt_irem3_ok {I : zz_W → Prop} {A A' : zk_A} {n : Nat} {hs : List (List Nat)} (h : zt_irem3 hs A = some A') : zk_S I (za_irem n) n A A' := by
  obtain ⟨L, T, F, B, C⟩ := A
  unfold zt_irem3 at h
  split at h
  · exact zt_irem2_ok h
  · rename_i k _
    split at h
    · rename_i k2 e2 k1 e1 r hT
      have hT : T = (0, k2, e2) :: (0, k1, e1) :: r := hT
      subst hT
      obtain ⟨hb, h⟩ := zz_cond h
      obtain ⟨hb1, hb2⟩ := zz_and hb
      obtain ⟨b1, b2⟩ := zz_and hb1
      obtain ⟨b3, b4⟩ := zz_and hb2
      split at h
      · rename_i A1 hA1
        cases h
        have hl := zk_new_len hA1
        refine ⟨hl, fun K s f hG => ?_⟩
        obtain ⟨p, lv, st, w⟩ := f
        obtain ⟨g1, g2, g3, g4, g5, g6⟩ := hG
        obtain ⟨y, st1, q1, q2, q3⟩ := zk_st_int g2 rfl
        obtain ⟨x, st2, q4, q5, q6⟩ := zk_st_int q3 rfl
        have hst : st = .int y :: .int x :: st2 := by rw [← q4]; exact q1
        subst hst
        have q5 : x.toInt = zl_ev s e1 := q5
        have q2 : y.toInt = zl_ev s e2 := q2
        have c1 := zl_en_ok g4 g5 b1
        have c2 := zl_en_ok g4 g5 b2
        have c3 := zl_en_ok g4 g5 b3
        rw [zl_sub_ev, zl_con_ev] at c1 c2
        generalize hc : (k : Int) + 1 = c at c1 c2 ⊢
        have h0 : 0 < c := by omega
        have hy : y.toInt = c := by omega
        have hyn : ¬ y = 0 := by
          intro e
          rw [e] at hy
          have : (0 : Int32).toInt = 0 := rfl
          omega
        have hq := zk_div (x := x) hy h0
        have hd : x.toInt.tdiv c * c + x.toInt.tmod c = x.toInt := Int.tdiv_mul_add_tmod x.toInt c
        have hm0 := Int.tmod_nonneg (a := x.toInt) c (by omega)
        have hm1 := Int.tmod_lt_of_pos x.toInt h0
        have hqn := Int.tdiv_nonneg (a := x.toInt) (b := c) (by omega) (Int.le_of_lt h0)
        have hm := zk_rem (x := x) (y := y) hy h0
        obtain ⟨-, s', hg, hs'⟩ := zk_new_ok (I := I) (x := x / y) (n := n) (w := w) (lv := lv) hA1 g1 q6 g3 g4 g5 g6 (by rw [hq]; exact hqn) (zk_hi _)
        obtain ⟨j1, j2, j3, j4, j5, j6⟩ := hg
        have hA1T : A1.2.1 = (0, 0, zl_sym B.length) :: r := by
          obtain ⟨-, hA1⟩ := zz_cond hA1
          cases hA1
          rfl
        rw [hA1T] at j2
        have hsym : (x / y).toInt = s' B.length := by
          obtain ⟨z, z1, z2⟩ := j2.1.1 rfl
          cases z1
          have z2 : (x / y).toInt = zl_ev s' (zl_sym B.length) := z2
          rw [zl_sym_ev] at z2
          exact z2
        have he1 : zl_ev s' e1 = x.toInt := by
          rw [zl_ev_eq (t := s) (n := B.length) (zz_ble b4) hs']
          exact q5.symm
        have hcm : c * s' B.length = x.toInt.tdiv c * c := by rw [← hsym, hq, Int.mul_comm]
        refine ⟨s', _, ze_irem hyn rfl, rfl, ⟨j1, ⟨zk_v_int ?_, j2.2⟩, j3, j4, fun e he => ?_, j6⟩, hs'⟩
        · rw [hm, zl_sub_ev, zl_mul_ev, zl_sym_ev, he1]
          show x.toInt.tmod c = x.toInt - c * s' B.length
          omega
        · rcases List.mem_cons.mp he with e0 | he
          · rw [e0, zl_sub_ev, zl_mul_ev, zl_sym_ev, he1]
            show 0 ≤ x.toInt - c * s' B.length
            omega
          · rcases List.mem_cons.mp he with e0 | he
            · rw [e0, zl_sub_ev, zl_add_ev, zl_mul_ev, zl_sym_ev, zl_con_ev, he1]
              show 0 ≤ c * s' B.length + (k : Int) - x.toInt
              omega
            · exact j5 e he
      · cases h
    · cases h
end
end
section
/-! ABSTRACT FRAMES, on: shifts by a known number, bits of what is not below 0 -/
noncomputable section
theorem zk_2g {I : zz_W → Prop} {A A' : zk_A} {n : Nat} {act : zz_A} {e1 e2 : zl_E} {k1 k2 : Nat} {r : List zk_V} (hT : A.2.1 = (0, k2, e2) :: (0, k1, e1) :: r) (hlen : A.2.2.2.1.length ≤ A'.2.2.2.1.length) (g : Int32 → Int32 → Int32) (ha : ∀ (K : zz_K) (p : Nat) (lv : List (Nat × Value)) (x y : Int32) (st : List Value) (w : zz_W), act K (p, lv, .int y :: .int x :: st, w) = some (n, lv, .int (g x y) :: st, w))
    (key : ∀ (s : Nat → Int) (lv : List (Nat × Value)) (st : List Value) (w : zz_W) (x y : Int32), zk_lc s A.1 lv → zk_st s r st → zk_fl s A.2.2.1 w → zl_in s A.2.2.2.1 → zk_cs s A.2.2.2.2 → I w → x.toInt = zl_ev s e1 → y.toInt = zl_ev s e2 → ∃ s' : Nat → Int, zk_G I s' A' (n, lv, .int (g x y) :: st, w) ∧ ∀ j, j < A.2.2.2.1.length → s' j = s j) : zk_S I act n A A' := by
  obtain ⟨L, T, F, B, C⟩ := A
  have hT : T = (0, k2, e2) :: (0, k1, e1) :: r := hT
  subst hT
  refine ⟨hlen, fun K s f hG => ?_⟩
  obtain ⟨p, lv, st, w⟩ := f
  obtain ⟨g1, g2, g3, g4, g5, g6⟩ := hG
  obtain ⟨y, st1, q1, q2, q3⟩ := zk_st_int g2 rfl
  obtain ⟨x, st2, q4, q5, q6⟩ := zk_st_int q3 rfl
  have hst : st = .int y :: .int x :: st2 := by rw [← q4]; exact q1
  subst hst
  obtain ⟨s', hg, hs⟩ := key s lv st2 w x y g1 q6 g3 g4 g5 g6 q5 q2
  exact ⟨s', _, ha K p lv x y st2 w, rfl, hg, hs⟩
/-- a new int with sums that it keeps -/
def zk_nwc (A : zk_A) (T : List zk_V) (lo hi : Int) (cs : List zl_E) : Option zk_A := match zk_new A T lo hi with
  | some B => some (B.1, B.2.1, B.2.2.1, B.2.2.2.1, cs ++ B.2.2.2.2)
  | none => none
theorem zk_nwc_len {A A' : zk_A} {T : List zk_V} {lo hi : Int} {cs : List zl_E} (h : zk_nwc A T lo hi cs = some A') : A.2.2.2.1.length ≤ A'.2.2.2.1.length := by
  unfold zk_nwc at h
  split at h
  · rename_i B hB
    cases h
    show A.2.2.2.1.length ≤ B.2.2.2.1.length
    exact zk_new_len hB
  · cases h
theorem zk_nwc_ok {I : zz_W → Prop} {A A' : zk_A} {T : List zk_V} {lo hi : Int} {cs : List zl_E} {s : Nat → Int} {lv : List (Nat × Value)} {r : List Value} {w : zz_W} {x : Int32} {n : Nat} (h : zk_nwc A T lo hi cs = some A') (h1 : zk_lc s A.1 lv) (h2 : zk_st s T r) (h3 : zk_fl s A.2.2.1 w) (h4 : zl_in s A.2.2.2.1) (h5 : zk_cs s A.2.2.2.2) (h6 : I w) (hlo : lo ≤ x.toInt) (hhi : x.toInt ≤ hi) (hc : ∀ s' : Nat → Int, s' A.2.2.2.1.length = x.toInt → (∀ j, j < A.2.2.2.1.length → s' j = s j) → zk_cs s' cs) :
    ∃ s' : Nat → Int, zk_G I s' A' (n, lv, .int x :: r, w) ∧ ∀ j, j < A.2.2.2.1.length → s' j = s j := by
  unfold zk_nwc at h
  split at h
  · rename_i B hB
    cases h
    obtain ⟨-, s', hg, hs⟩ := zk_new_ok (I := I) (n := n) hB h1 h2 h3 h4 h5 h6 hlo hhi
    have hsym : s' A.2.2.2.1.length = x.toInt := by
      obtain ⟨-, hB⟩ := zz_cond hB
      cases hB
      obtain ⟨y, y1, y2⟩ := hg.2.1.1.1 rfl
      cases y1
      rw [y2]
      exact (zl_sym_ev s' _).symm
    obtain ⟨b1, b2, b3, b4, b5, b6⟩ := hg
    refine ⟨s', ⟨b1, b2, b3, b4, fun c hcc => ?_, b6⟩, hs⟩
    rcases List.mem_append.mp hcc with hcc | hcc
    · exact hc s' hsym hs c hcc
    · exact b5 c hcc
  · cases h
/-- a sum that is known to be a number -/
def zl_kn (B : List (Int × Int)) (C : List zl_E) (hs : List (List Nat)) (e : zl_E) : Option Int := match zl_c e with
  | some c => some c
  | none => cond (zl_en B C (hs.getD 1 []) (zl_sub e (zl_con (Int.ofNat ((hs.getD 0 []).getD 0 0)))) && zl_en B C (hs.getD 2 []) (zl_sub (zl_con (Int.ofNat ((hs.getD 0 []).getD 0 0))) e)) (some (Int.ofNat ((hs.getD 0 []).getD 0 0))) none
theorem zl_kn_ok {s : Nat → Int} {B : List (Int × Int)} {C : List zl_E} {hs : List (List Nat)} {e : zl_E} {c : Int} (hB : zl_in s B) (hC : zk_cs s C) (h : zl_kn B C hs e = some c) : zl_ev s e = c := by
  unfold zl_kn at h
  split at h
  · rename_i c' hc
    cases h
    exact zl_c_ok hc
  · obtain ⟨hb, h⟩ := zz_cond h
    have h := Option.some.inj h
    obtain ⟨b1, b2⟩ := zz_and hb
    have c1 := zl_en_ok hB hC b1
    have c2 := zl_en_ok hB hC b2
    rw [zl_sub_ev, zl_con_ev] at c1 c2
    omega
theorem zk_ofk {y : Int32} {k : Int} (h : y.toInt = k) (h0 : 0 ≤ k) (h1 : k ≤ 31) : y = Int32.ofNat k.toNat := by
  apply Int32.toInt_inj.mp
  rw [Int32.toInt_ofNat_of_lt (by omega), h]
  omega
theorem zk_nIx {x : Int32} (h : zz_nI x < 2147483648) : x.toInt = (zz_nI x : Int) := by
  have h1 : x.toInt = x.toBitVec.toInt := rfl
  have h2 : zz_nI x = x.toBitVec.toNat := rfl
  rw [h1, BitVec.toInt_eq_toNat_cond, if_pos (by omega), h2]
theorem zk_ishr {x : Int32} {k : Nat} (hk : k < 32) : (x >>> (Int32.ofNat k &&& 31)).toInt = x.toInt / (2 ^ k : Nat) := by
  have h2 : (x >>> (Int32.ofNat k &&& 31)).toBitVec = x.toBitVec.sshiftRight k := by
    have e : (Int32.ofNat k &&& 31).toBitVec.smod 32 = BitVec.ofNat 32 k := by
      revert k
      decide
    rw [Int32.toBitVec_shiftRight, e]
    show x.toBitVec.sshiftRight (BitVec.ofNat 32 k).toNat = _
    rw [BitVec.toNat_ofNat, Nat.mod_eq_of_lt (by omega)]
  show (x >>> (Int32.ofNat k &&& 31)).toBitVec.toInt = x.toBitVec.toInt / (2 ^ k : Nat)
  rw [h2, BitVec.toInt_sshiftRight, Int.shiftRight_eq_div_pow]
theorem zk_iushr {x : Int32} {k : Nat} (hk : k < 32) : zz_nI (x.toUInt32 >>> ((Int32.ofNat k).toUInt32 &&& Int32.toUInt32 31)).toInt32 = zz_nI x / 2 ^ k := by
  have e : ((Int32.ofNat k).toUInt32 &&& Int32.toUInt32 31).toNat = k := by
    revert k
    decide
  show (x.toUInt32 >>> ((Int32.ofNat k).toUInt32 &&& Int32.toUInt32 31)).toNat = _
  rw [UInt32.toNat_shiftRight, e, Nat.mod_eq_of_lt hk, Nat.shiftRight_eq_div_pow]
  rfl
theorem zk_ishl {x : Int32} {k : Nat} (hk : k < 32) : (x <<< (Int32.ofNat k &&& 31)).toInt = (x.toInt * (2 ^ k : Nat)).bmod (2 ^ 32) := by
  have h2 : (x <<< (Int32.ofNat k &&& 31)).toBitVec = x.toBitVec <<< k := by
    have e : (Int32.ofNat k &&& 31).toBitVec.smod 32 = BitVec.ofNat 32 k := by
      revert k
      decide
    rw [Int32.toBitVec_shiftLeft, e]
    show x.toBitVec <<< (BitVec.ofNat 32 k).toNat = _
    rw [BitVec.toNat_ofNat, Nat.mod_eq_of_lt (by omega)]
  show (x <<< (Int32.ofNat k &&& 31)).toBitVec.toInt = (x.toBitVec.toInt * (2 ^ k : Nat)).bmod (2 ^ 32)
  rw [h2, BitVec.toInt_shiftLeft, BitVec.toInt_eq_toNat_bmod, Int.bmod_mul_bmod, Nat.shiftLeft_eq]
  rfl
/-- the greatest whole number not above l / m, of what a sum is at least, at most -/
def zl_fl (B : List (Int × Int)) (e : zl_E) (m : Int) (d : Int) : Int := match zl_ub B (zl_mul (-1) e) with
  | some u => (-u) / m
  | none => d
def zl_fh (B : List (Int × Int)) (e : zl_E) (m : Int) (d : Int) : Int := match zl_ub B e with
  | some u => u / m
  | none => d
theorem zl_fl_ok {s : Nat → Int} {B : List (Int × Int)} {e : zl_E} {m d : Int} (hB : zl_in s B) (hm : 0 < m) (hd : d ≤ zl_ev s e / m) : zl_fl B e m d ≤ zl_ev s e / m := by
  unfold zl_fl
  split
  · rename_i u hu
    have := zl_ub_ok hB hu
    rw [zl_mul_ev] at this
    exact Int.ediv_le_ediv hm (by omega)
  · exact hd
theorem zl_fh_ok {s : Nat → Int} {B : List (Int × Int)} {e : zl_E} {m d : Int} (hB : zl_in s B) (hm : 0 < m) (hd : zl_ev s e / m ≤ d) : zl_ev s e / m ≤ zl_fh B e m d := by
  unfold zl_fh
  split
  · rename_i u hu
    exact Int.ediv_le_ediv hm (zl_ub_ok hB hu)
  · exact hd
/-- a number by 2^k, rounded down -/
def zk_shq (A : zk_A) (T : List zk_V) (e : zl_E) (k : Nat) : Option zk_A :=
  cond (Nat.ble (zl_mx e.2) A.2.2.2.1.length) (zk_nwc A T (zl_fl A.2.2.2.1 e (2 ^ k : Nat) (-2147483648)) (zl_fh A.2.2.2.1 e (2 ^ k : Nat) 2147483647) [zl_sub e (zl_mul (2 ^ k : Nat) (zl_sym A.2.2.2.1.length)), zl_sub (zl_add (zl_mul (2 ^ k : Nat) (zl_sym A.2.2.2.1.length)) (zl_con ((2 ^ k : Nat) - 1))) e]) none
theorem zk_shq_len {A A' : zk_A} {T : List zk_V} {e : zl_E} {k : Nat} (h : zk_shq A T e k = some A') : A.2.2.2.1.length ≤ A'.2.2.2.1.length := by
  obtain ⟨-, h⟩ := zz_cond h
  exact zk_nwc_len h
theorem zk_shq_ok {I : zz_W → Prop} {A A' : zk_A} {T : List zk_V} {e : zl_E} {k : Nat} {s : Nat → Int} {lv : List (Nat × Value)} {r : List Value} {w : zz_W} {x v : Int32} {n : Nat} (h : zk_shq A T e k = some A') (h1 : zk_lc s A.1 lv) (h2 : zk_st s T r) (h3 : zk_fl s A.2.2.1 w) (h4 : zl_in s A.2.2.2.1) (h5 : zk_cs s A.2.2.2.2) (h6 : I w) (hx : x.toInt = zl_ev s e) (hv : v.toInt = x.toInt / (2 ^ k : Nat)) : ∃ s' : Nat → Int, zk_G I s' A' (n, lv, .int v :: r, w) ∧ ∀ j, j < A.2.2.2.1.length → s' j = s j := by
  obtain ⟨hb, h⟩ := zz_cond h
  have hm : (0 : Int) < ((2 ^ k : Nat) : Int) := by
    have := Nat.two_pow_pos k
    omega
  refine zk_nwc_ok (I := I) (n := n) h h1 h2 h3 h4 h5 h6 ?_ ?_ (fun s' hs' hs => ?_)
  · rw [hv, hx]
    exact zl_fl_ok h4 hm (by rw [← hx, ← hv]; exact zk_lo v)
  · rw [hv, hx]
    exact zl_fh_ok h4 hm (by rw [← hx, ← hv]; exact zk_hi v)
  · have he : zl_ev s' e = zl_ev s e := zl_ev_eq (n := A.2.2.2.1.length) (zz_ble hb) hs
    have hq : s' A.2.2.2.1.length = zl_ev s e / (2 ^ k : Nat) := by rw [hs', hv, hx]
    have d1 := Int.mul_ediv_add_emod (zl_ev s e) ((2 ^ k : Nat) : Int)
    have d2 := Int.emod_nonneg (zl_ev s e) (show ((2 ^ k : Nat) : Int) ≠ 0 by omega)
    have d3 := Int.emod_lt_of_pos (zl_ev s e) hm
    rw [← hq] at d1
    intro c hc
    rcases List.mem_cons.mp hc with ec | hc
    · rw [ec, zl_sub_ev, zl_mul_ev, zl_sym_ev, he]; omega
    · rw [List.mem_singleton.mp hc, zl_sub_ev, zl_add_ev, zl_mul_ev, zl_sym_ev, zl_con_ev, he]; omega
def zt_ishr2 (hs : List (List Nat)) (A : zk_A) : Option zk_A := match A.2.1 with
  | (0, _, e2) :: (0, _, e1) :: r => match zl_kn A.2.2.2.1 A.2.2.2.2 hs e2 with
    | some k => cond (decide (0 ≤ k) && decide (k ≤ 31)) (zk_shq A r e1 k.toNat) (zk_new A r (-2147483648) 2147483647)
    | none => zk_new A r (-2147483648) 2147483647
  | _ => none
theorem zt_ishr2_ok {I : zz_W → Prop} {A A' : zk_A} {n : Nat} {hs : List (List Nat)} (h : zt_ishr2 hs A = some A') : zk_S I (za_ishr n) n A A' := by
  unfold zt_ishr2 at h
  split at h
  · rename_i k2 e2 k1 e1 r hT
    have htop : zk_new A r (-2147483648) 2147483647 = some A' → zk_S I (za_ishr n) n A A' := fun h => zk_2g hT (zk_new_len h) (fun x y => x >>> (y &&& 31)) (fun K p lv x y st w => ze_ishr rfl) (fun s lv st w x y h1 h2 h3 h4 h5 h6 _ _ => by
      obtain ⟨-, s', g, hs⟩ := zk_new_ok (I := I) (n := n) h h1 h2 h3 h4 h5 h6 (zk_lo _) (zk_hi _)
      exact ⟨s', g, hs⟩)
    split at h
    · rename_i k hk
      cases hb : (decide (0 ≤ k) && decide (k ≤ 31)) with
      | false =>
        rw [hb] at h
        exact htop h
      | true =>
        rw [hb] at h
        obtain ⟨b1, b2⟩ := zz_and hb
        have b1 := of_decide_eq_true b1
        have b2 := of_decide_eq_true b2
        have h : zk_shq A r e1 k.toNat = some A' := h
        refine zk_2g hT (zk_shq_len h) (fun x y => x >>> (y &&& 31)) (fun K p lv x y st w => ze_ishr rfl) (fun s lv st w x y h1 h2 h3 h4 h5 h6 hx hy => ?_)
        have hy := zk_ofk (hy.trans (zl_kn_ok h4 h5 hk)) b1 b2
        subst hy
        exact zk_shq_ok h h1 h2 h3 h4 h5 h6 hx (zk_ishr (by omega))
    · exact htop h
  · cases h
def zt_iushr2 (hs : List (List Nat)) (A : zk_A) : Option zk_A := match A.2.1 with
  | (0, _, e2) :: (0, _, e1) :: r => match zl_kn A.2.2.2.1 A.2.2.2.2 hs e2 with
    | some k => cond (decide (0 ≤ k) && decide (k ≤ 31)) (cond (zl_pos A.2.2.2.1 e1) (zk_shq A r e1 k.toNat) (cond (decide (1 ≤ k)) (zk_new A r 0 ((2 ^ (32 - k.toNat) : Nat) - 1)) (zk_new A r (-2147483648) 2147483647))) (zk_new A r (-2147483648) 2147483647)
    | none => zk_new A r (-2147483648) 2147483647
  | _ => none
theorem zt_iushr2_ok {I : zz_W → Prop} {A A' : zk_A} {n : Nat} {hs : List (List Nat)} (h : zt_iushr2 hs A = some A') : zk_S I (za_iushr n) n A A' := by
  unfold zt_iushr2 at h
  split at h
  · rename_i k2 e2 k1 e1 r hT
    have htop : zk_new A r (-2147483648) 2147483647 = some A' → zk_S I (za_iushr n) n A A' := fun h => zk_2g hT (zk_new_len h) (fun x y => (x.toUInt32 >>> (y.toUInt32 &&& Int32.toUInt32 31)).toInt32) (fun K p lv x y st w => ze_iushr rfl) (fun s lv st w x y h1 h2 h3 h4 h5 h6 _ _ => by
      obtain ⟨-, s', g, hs⟩ := zk_new_ok (I := I) (n := n) h h1 h2 h3 h4 h5 h6 (zk_lo _) (zk_hi _)
      exact ⟨s', g, hs⟩)
    split at h
    · rename_i k hk
      cases hb : (decide (0 ≤ k) && decide (k ≤ 31)) with
      | false =>
        rw [hb] at h
        exact htop h
      | true =>
        rw [hb] at h
        obtain ⟨b1, b2⟩ := zz_and hb
        have b1 := of_decide_eq_true b1
        have b2 := of_decide_eq_true b2
        cases hp : zl_pos A.2.2.2.1 e1 with
        | true =>
          rw [hp] at h
          have h : zk_shq A r e1 k.toNat = some A' := h
          refine zk_2g hT (zk_shq_len h) (fun x y => (x.toUInt32 >>> (y.toUInt32 &&& Int32.toUInt32 31)).toInt32) (fun K p lv x y st w => ze_iushr rfl) (fun s lv st w x y h1 h2 h3 h4 h5 h6 hx hy => ?_)
          have hy := zk_ofk (hy.trans (zl_kn_ok h4 h5 hk)) b1 b2
          subst hy
          have hx0 := zl_pos_ok h4 hp
          have hn := zk_nI (x := x) (by omega)
          have hv := zk_iushr (x := x) (k := k.toNat) (by omega)
          have hle : zz_nI x / 2 ^ k.toNat ≤ zz_nI x := Nat.div_le_self _ _
          have hhi := zk_hi x
          refine zk_shq_ok h h1 h2 h3 h4 h5 h6 hx ?_
          rw [zk_nIx (by rw [hv]; omega), hv, ← hn]
          exact Int.natCast_ediv _ _
        | false =>
          rw [hp] at h
          cases hk1 : decide (1 ≤ k) with
          | false =>
            rw [hk1] at h
            exact htop h
          | true =>
            rw [hk1] at h
            have hk1 := of_decide_eq_true hk1
            have h : zk_new A r 0 ((2 ^ (32 - k.toNat) : Nat) - 1) = some A' := h
            refine zk_2g hT (zk_new_len h) (fun x y => (x.toUInt32 >>> (y.toUInt32 &&& Int32.toUInt32 31)).toInt32) (fun K p lv x y st w => ze_iushr rfl) (fun s lv st w x y h1 h2 h3 h4 h5 h6 hx hy => ?_)
            have hy := zk_ofk (hy.trans (zl_kn_ok h4 h5 hk)) b1 b2
            subst hy
            have hv := zk_iushr (x := x) (k := k.toNat) (by omega)
            have hlt : zz_nI x / 2 ^ k.toNat < 2 ^ (32 - k.toNat) := by
              rw [Nat.div_lt_iff_lt_mul (Nat.two_pow_pos _), ← Nat.pow_add, show 32 - k.toNat + k.toNat = 32 by omega]
              exact zz_nI_lt x
            have hle : 2 ^ (32 - k.toNat) ≤ 2 ^ 31 := Nat.pow_le_pow_right (by decide) (by omega)
            obtain ⟨-, s', g, hs⟩ := zk_new_ok (I := I) (n := n) (x := (x.toUInt32 >>> ((Int32.ofNat k.toNat).toUInt32 &&& Int32.toUInt32 31)).toInt32) h h1 h2 h3 h4 h5 h6 (by rw [zk_nIx (by rw [hv]; omega)]; omega) (by rw [zk_nIx (by rw [hv]; omega), hv]; omega)
            exact ⟨s', g, hs⟩
    · exact htop h
  · cases h
def zt_ishl2 (hs : List (List Nat)) (A : zk_A) : Option zk_A := match A.2.1 with
  | (0, _, e2) :: (0, _, e1) :: r => match zl_kn A.2.2.2.1 A.2.2.2.2 hs e2 with
    | some k => cond (decide (0 ≤ k) && decide (k ≤ 31)) (zk_lin A r (zl_mul (2 ^ k.toNat : Nat) e1)) (zk_new A r (-2147483648) 2147483647)
    | none => zk_new A r (-2147483648) 2147483647
  | _ => none
theorem zt_ishl2_ok {I : zz_W → Prop} {A A' : zk_A} {n : Nat} {hs : List (List Nat)} (h : zt_ishl2 hs A = some A') : zk_S I (za_ishl n) n A A' := by
  unfold zt_ishl2 at h
  split at h
  · rename_i k2 e2 k1 e1 r hT
    have htop : zk_new A r (-2147483648) 2147483647 = some A' → zk_S I (za_ishl n) n A A' := fun h => zk_2g hT (zk_new_len h) (fun x y => x <<< (y &&& 31)) (fun K p lv x y st w => ze_ishl rfl) (fun s lv st w x y h1 h2 h3 h4 h5 h6 _ _ => by
      obtain ⟨-, s', g, hs⟩ := zk_new_ok (I := I) (n := n) h h1 h2 h3 h4 h5 h6 (zk_lo _) (zk_hi _)
      exact ⟨s', g, hs⟩)
    split at h
    · rename_i k hk
      cases hb : (decide (0 ≤ k) && decide (k ≤ 31)) with
      | false =>
        rw [hb] at h
        exact htop h
      | true =>
        rw [hb] at h
        obtain ⟨b1, b2⟩ := zz_and hb
        have b1 := of_decide_eq_true b1
        have b2 := of_decide_eq_true b2
        have h : zk_lin A r (zl_mul (2 ^ k.toNat : Nat) e1) = some A' := h
        refine zk_2g hT (zk_lin_len h) (fun x y => x <<< (y &&& 31)) (fun K p lv x y st w => ze_ishl rfl) (fun s lv st w x y h1 h2 h3 h4 h5 h6 hx hy => ?_)
        have hy := zk_ofk (hy.trans (zl_kn_ok h4 h5 hk)) b1 b2
        subst hy
        obtain ⟨-, s', g, hs⟩ := zk_lin_ok (I := I) (n := n) (x := x <<< (Int32.ofNat k.toNat &&& 31)) h h1 h2 h3 h4 h5 h6 (fun a b => by
          rw [zl_mul_ev] at a b ⊢
          rw [zk_ishl (by omega), hx, Int.mul_comm]
          exact zk_bmod a b)
        exact ⟨s', g, hs⟩
    · exact htop h
  · cases h
/-- both bits' lists are within 2^m -/
theorem zk_or_bd {x y : Int32} {m : Nat} (hm : m ≤ 31) (hx : 0 ≤ x.toInt) (hy : 0 ≤ y.toInt) (hx2 : x.toInt < (2 ^ m : Nat)) (hy2 : y.toInt < (2 ^ m : Nat)) : 0 ≤ (x ||| y).toInt ∧ (x ||| y).toInt ≤ (2 ^ m : Nat) - 1 := by
  have h1 := zk_nI hx
  have h2 := zk_nI hy
  have h3 : zz_nI (x ||| y) = zz_nI x ||| zz_nI y := by
    unfold zz_nI
    rw [Int32.toBitVec_or, BitVec.toNat_or]
  have h4 : zz_nI x ||| zz_nI y < 2 ^ m := Nat.or_lt_two_pow (by omega) (by omega)
  have h5 : 2 ^ m ≤ 2 ^ 31 := Nat.pow_le_pow_right (by decide) hm
  rw [zk_nIx (by rw [h3]; omega), h3]
  constructor <;> omega
def zk_bdOr (m : Nat) (B : List (Int × Int)) (e1 e2 : zl_E) : Int × Int := match zl_ub B e1, zl_ub B e2 with
  | some u1, some u2 => cond (zl_pos B e1 && (zl_pos B e2 && (Nat.ble m 31 && (decide (u1 < (2 ^ m : Nat)) && decide (u2 < (2 ^ m : Nat)))))) (0, (2 ^ m : Nat) - 1) (-2147483648, 2147483647)
  | _, _ => (-2147483648, 2147483647)
theorem zt_ior2_ok {I : zz_W → Prop} {A A' : zk_A} {n m : Nat} (h : zt_2b (zk_bdOr m) A = some A') : zk_S I (za_ior n) n A A' :=
  zt_2b_ok (g := fun x y => x ||| y) (P := fun _ => True) (fun _ _ _ _ _ _ _ _ _ _ _ => trivial) (fun K p lv x y r w _ => ze_ior rfl) (fun s B x y e1 e2 hB h1 h2 => by
    unfold zk_bdOr
    split
    · rename_i u1 u2 hu1 hu2
      cases hb : (zl_pos B e1 && (zl_pos B e2 && (Nat.ble m 31 && (decide (u1 < (2 ^ m : Nat)) && decide (u2 < (2 ^ m : Nat)))))) with
      | false => exact zk_topE
      | true =>
        obtain ⟨b1, hb⟩ := zz_and hb
        obtain ⟨b2, hb⟩ := zz_and hb
        obtain ⟨b3, hb⟩ := zz_and hb
        obtain ⟨b4, b5⟩ := zz_and hb
        have b4 := of_decide_eq_true b4
        have b5 := of_decide_eq_true b5
        have p1 := zl_pos_ok hB b1
        have p2 := zl_pos_ok hB b2
        have q1 := zl_ub_ok hB hu1
        have q2 := zl_ub_ok hB hu2
        exact zk_or_bd (zz_ble b3) (by omega) (by omega) (by omega) (by omega)
    · exact zk_topE) h
/-- a mask that is not below 0 -/
def zk_bdAn2 (B : List (Int × Int)) (e1 e2 : zl_E) : Int × Int := match zl_ub B e2, zl_pos B e2 with
  | some u, true => (0, u)
  | _, _ => match zl_ub B e1, zl_pos B e1 with
    | some u, true => (0, u)
    | _, _ => (-2147483648, 2147483647)
theorem zt_iand2_ok {I : zz_W → Prop} {A A' : zk_A} {n : Nat} (h : zt_2b zk_bdAn2 A = some A') : zk_S I (za_iand n) n A A' :=
  zt_2b_ok (g := fun x y => x &&& y) (P := fun _ => True) (fun _ _ _ _ _ _ _ _ _ _ _ => trivial) (fun K p lv x y r w _ => ze_iand rfl) (fun s B x y e1 e2 hB h1 h2 => by
    unfold zk_bdAn2
    split
    · rename_i u hu hp
      have p1 := zl_pos_ok hB hp
      have q1 := zl_ub_ok hB hu
      have := zk_and_bd (x := x) (y := y) (by omega)
      exact ⟨this.1, by show _ ≤ u; omega⟩
    · split
      · rename_i u hu hp
        have p1 := zl_pos_ok hB hp
        have q1 := zl_ub_ok hB hu
        have := zk_and_bd (x := y) (y := x) (by omega)
        rw [zk_and_comm] at this
        exact ⟨this.1, by show _ ≤ u; omega⟩
      · exact zk_topE) h
/-- a field is followed from here on -/
def zk_fol (HT : List (List zk_H)) (ci i k : Nat) (A : zk_A) : Option zk_A := match zk_fs HT ci i k, zk_fk A.2.2.1 i k with
  | some (0, _, lo, hi), none => match zk_new A A.2.1 lo hi with
    | some B => some (B.1, A.2.1, ((i, k), (0, 0, zl_sym A.2.2.2.1.length)) :: B.2.2.1, B.2.2.2.1, B.2.2.2.2)
    | none => none
  | _, _ => none
theorem zk_fol_ok {c : Nat} {HT : List (List zk_H)} {I : zz_W → Prop} (hI : ∀ w, I w → zk_I c HT w) {ci i k : Nat} {A A' : zk_A} (h : zk_fol HT ci i k A = some A') {s : Nat → Int} {p : Nat} {lv : List (Nat × Value)} {st : List Value} {w : zz_W} (hG : zk_G I s A (p, lv, st, w)) : A.2.2.2.1.length ≤ A'.2.2.2.1.length ∧ ∃ s' : Nat → Int, zk_G I s' A' (p, lv, st, w) ∧ ∀ j, j < A.2.2.2.1.length → s' j = s j := by
  unfold zk_fol at h
  split at h
  · rename_i d lo hi hfs hfk
    split at h
    · rename_i A1 hA1
      cases h
      obtain ⟨g1, g2, g3, g4, g5, g6⟩ := hG
      obtain ⟨o1, o2, o3, o4, o5, o6, o7, o8⟩ := zk_fs_ok hfs (hI _ g6)
      have o7 := o7 rfl
      obtain ⟨hl, s', hg, hs⟩ := zk_new_ok (I := I) (x := Int32.ofNat (zk_fd w (i, k))) (n := p) (w := w) (lv := lv) hA1 g1 g2 g3 g4 g5 g6 o7.1 o7.2
      obtain ⟨j1, j2, j3, j4, j5, j6⟩ := hg
      have hT : A1.2.1 = (0, 0, zl_sym A.2.2.2.1.length) :: A.2.1 := by
        obtain ⟨-, hA1⟩ := zz_cond hA1
        cases hA1
        rfl
      rw [hT] at j2
      refine ⟨hl, s', ⟨j1, j2.2, fun q hq => ?_, j4, j5, j6⟩, hs⟩
      rcases List.mem_cons.mp hq with e | hq
      · subst e
        refine ⟨fun _ => ?_, fun h => absurd (show (0 : Nat) = 2 from h) (by decide), fun h => absurd (show (0 : Nat) = 3 from h) (by decide)⟩
        obtain ⟨y, y1, y2⟩ := j2.1.1 rfl
        cases y1
        exact y2
      · exact j3 q hq
    · cases h
  · cases h
end
end
section
/-! ABSTRACT FRAMES, on: elements of rows of longs are set; masks that leave what is there -/
noncomputable section
/-- an element of a row of longs; only element j of row i changes -/
def zk_lel (w : zz_W) (r : Nat) (i : Nat) : Int := (Int64.ofNat (zz_at 64 (zz_g w r).2.2.2 i)).toInt
def zk_rL (i : Nat) (j : Int) (w w' : zz_W) : Prop := (∀ a, a ≠ i → zz_g w' a = zz_g w a) ∧ ∀ m : Nat, (m : Int) ≠ j → zk_lel w' i m = zk_lel w i m
theorem zk_J_prL {c : Nat} {HT : List (List zk_H)} {M : zk_M} {w0 : zk_W0} {w : zz_W} {t i len j x : Nat} {lo hi : Int} (hJ : zk_J c HT M w0 w) (hr : zk_rs HT 1 t i = some (len, lo, hi)) (hM : (i, 999) ∈ M.1) (hx : x < 2 ^ 64) (hf : (zk_h HT i).2.2.2.2.2.length ≤ j) :
    ∃ w' : zz_W, (∀ (β : Type) (kk : zz_W → Option β), zz_st w i (1, t, (zz_g w i).2.2.1, zz_to 64 (zz_g w i).2.2.2 j x) none kk = kk w') ∧ zk_J c HT M w0 w' ∧ (∀ a m, (zk_h HT a).1 = 3 → zk_fd w' (a, m) = zk_fd w (a, m)) ∧ (∀ a, a ≠ i → zz_g w' a = zz_g w a) ∧ (zz_g w' i).2.2.2 = zz_to 64 (zz_g w i).2.2.2 j x := by
  obtain ⟨o1, o2, o3, o4, o5, o6⟩ := zk_rs_ok hr (by decide) hJ.1
  obtain ⟨⟨s1, s2, s3, s4⟩, hsm, hw1, hw2, hk⟩ := hJ
  have hi' : i < 16 * c := by omega
  have hg := zk_up_g (x := (1, t, (zz_g w i).2.2.1, zz_to 64 (zz_g w i).2.2.2 j x)) s1 hi'
  have h0 : (zz_g w i).1 = 1 := by rw [o4]
  refine ⟨zz_up w i (1, t, (zz_g w i).2.2.1, zz_to 64 (zz_g w i).2.2.2 j x), fun β kk => zk_up_st s1 hi', ⟨?_, ⟨fun a m h8 hn hl h3 => ?_, fun a hn hl h3 => ?_⟩, hw1, hw2, fun a ha => ?_⟩, fun a m h3 => ?_, fun a ha => by rw [hg, if_neg ha], by rw [hg, if_pos rfl]⟩
  · refine zk_I_up ⟨s1, s2, s3, s4⟩ o1 (fun hn => ?_)
    obtain ⟨-, g1, g2, g3, g4, g5, g6, g7⟩ := s4 i hn
    refine ⟨o2.symm, ?_, g3, fun h => absurd (o2.symm.trans h) (by decide), fun h => absurd (o2.symm.trans h) (by decide), fun h => absurd (o2.symm.trans h) (by decide), fun _ m q hq => ?_⟩
    · rw [o4] at g2
      exact g2
    · have hm : m < (zk_h HT i).2.2.2.2.2.length := (List.getElem?_eq_some_iff.mp hq).1
      show zz_at 64 (zz_to 64 (zz_g w i).2.2.2 j x) m = q.2.1
      rw [zz_at_to hx, if_neg (by omega)]
      exact g7 o2 m q hq
  · unfold zk_fd
    rw [hg]
    by_cases e : a = i
    · exfalso
      subst e
      have := zk_k3_1 (hk a hl)
      omega
    · rw [if_neg e]
      exact hsm.1 a m h8 hn hl h3
  · by_cases e : a = i
    · subst e
      exact absurd hM hn
    · refine ⟨fun h8 => ?_, fun m hm hv => ?_⟩
      · rw [hg, if_neg e]
        exact (hsm.2 a hn hl h3).1 h8
      · unfold zk_el
        rw [hg, if_neg e]
        exact (hsm.2 a hn hl h3).2 m hm hv
  · rw [hg]
    by_cases e : a = i
    · subst e
      rw [if_pos rfl]
      rw [← hk a ha]
      exact zk_k3_of h0 (by rw [o4]) rfl
    · rw [if_neg e]
      exact hk a ha
  · unfold zk_fd
    have hne : a ≠ i := fun e => by rw [e] at h3; omega
    show zz_at 64 (zz_g _ a).2.2.2 m = _
    rw [hg, if_neg hne]
/-- the long on top has a sum -/
def zk_lgk (A : zk_A) : Bool := match A.2.1 with
  | (1, 1, _) :: _ => true
  | _ => false
theorem zk_lgk_ok {A : zk_A} {k : Nat} {e : zl_E} {T : List zk_V} (h : zk_lgk A = true) (hT : A.2.1 = (1, k, e) :: T) : k = 1 := by
  unfold zk_lgk at h
  split at h
  · rename_i x r hx
    rw [hT] at hx
    cases hx
    rfl
  · cases h
def zt_astL (HT : List (List zk_H)) (M : zk_M) (h1 h2 : List Nat) (t : Nat) (A : zk_A) : Option zk_A := match A.2.1 with
  | (1, _, _) :: (0, _, e) :: (2, i, _) :: T => match zk_rs HT 1 t i with
    | some (len, _, _) => cond (zk_ix A h1 h2 e len && (zk_inM M.1 i 999 && (A.2.2.1.all (fun q => Nat.beq (zk_h HT q.1.1).1 3) && (Nat.beq (zk_h HT i).2.2.2.2.2.length 0 || zl_pos A.2.2.2.1 (zl_sub e (zl_con (Int.ofNat (zk_h HT i).2.2.2.2.2.length))))))) (some (A.1, T, A.2.2.1, A.2.2.2.1, A.2.2.2.2)) none
    | none => none
  | _ => none
theorem zt_astL_ok {c : Nat} {HT : List (List zk_H)} {M : zk_M} {w0 : zk_W0} {A A' : zk_A} {h1 h2 : List Nat} {t n : Nat} (h : zt_astL HT M h1 h2 t A = some A') : zk_SW c HT M w0 (za_astL t n) n A A' (fun s w w' => zk_rL (zk_tg2 A) (zl_ev s (zk_ix2 A)) w w' ∧ 0 ≤ zl_ev s (zk_ix2 A) ∧ (zk_lgk A = true → zk_lel w' (zk_tg2 A) (zl_ev s (zk_ix2 A)).toNat = zl_ev s (zk_vl A))) := by
  obtain ⟨L, T0, F, B, C⟩ := A
  unfold zt_astL at h
  split at h
  · rename_i d0 ev d1 e i e0 T hT
    have hT : T0 = (1, d0, ev) :: (0, d1, e) :: (2, i, e0) :: T := hT
    subst hT
    split at h
    · rename_i len lo hi hrs
      obtain ⟨hb, h⟩ := zz_cond h
      obtain ⟨b1, hb⟩ := zz_and hb
      obtain ⟨b5, hb⟩ := zz_and hb
      obtain ⟨b4, b6⟩ := zz_and hb
      cases h
      refine ⟨rfl, fun K s f hpv hG => ?_⟩
      obtain ⟨p, lv, st, w⟩ := f
      obtain ⟨g1, g2, g3, g4, g5, g6⟩ := hG
      obtain ⟨v0, st0, r1, r2, r3⟩ := zk_st_cons g2
      obtain ⟨x, ex, hxv⟩ := r2.2.1 rfl
      subst ex
      obtain ⟨j, st1, q1, q2, q3⟩ := zk_st_int r3 rfl
      obtain ⟨v, st2, q4, q5, q6⟩ := zk_st_cons q3
      have e3 : v = .ref i := q5.2.2.1 rfl
      subst e3
      have hst : st = .long x :: .int j :: .ref i :: st2 := by rw [← q4, ← q1]; exact r1
      subst hst
      have hj := zk_ix_ok b1 g4 g5 q2
      obtain ⟨o1, o2, o3, o4, o5, o6⟩ := zk_rs_ok hrs (by decide) g6.1
      have q2 : j.toInt = zl_ev s e := q2
      have hj0 : 0 ≤ zl_ev s e := zl_en_ok g4 g5 (zz_and b1).1
      have hjn := zk_nI (x := j) (by omega)
      have hfl : (zk_h HT i).2.2.2.2.2.length ≤ zz_nI j := by
        rcases Bool.or_eq_true_iff.mp b6 with b6 | b6
        · have := zz_beq b6
          omega
        · have z := zl_pos_ok g4 b6
          rw [zl_sub_ev, zl_con_ev] at z
          have z : 0 ≤ zl_ev s e - (((zk_h HT i).2.2.2.2.2.length : Nat) : Int) := z
          omega
      obtain ⟨w', u1, u2, u3, u4, u5⟩ := zk_J_prL (j := zz_nI j) (x := zz_nL x) g6 hrs (zk_inM_ok b5) (zz_nL_lt x) hfl
      refine ⟨(n, lv, st2, w'), ?_, rfl, ⟨g1, q6, fun q hq => ?_, g4, g5, u2⟩, ⟨u4, fun m hm => ?_⟩, hj0, fun hl => ?_⟩
      · show zz_pr w i 1 t 64 (zz_nI j) (zz_nL x) (fun w => some ((n, lv, st2, w) : zz_F)) = _
        unfold zz_pr
        rw [o6 _ hj]
        show zz_fN (zz_to 64 (zz_g w i).2.2.2 (zz_nI j) (zz_nL x)) (fun N => zz_st w i (1, t, (zz_g w i).2.2.1, N) none (fun w => some ((n, lv, st2, w) : zz_F))) = _
        rw [zz_fN_eq]
        exact u1 _ _
      · have := g3 q hq
        rw [show zk_fd w' q.1 = zk_fd w q.1 from u3 q.1.1 q.1.2 (zz_beq (List.all_eq_true.mp b4 q hq))]
        exact this
      · have hm : (m : Int) ≠ zl_ev s e := hm
        show zk_lel w' i m = zk_lel w i m
        unfold zk_lel
        rw [u5, zz_at_to (zz_nL_lt x), if_neg (by omega)]
      · have hk := zk_lgk_ok (A := (L, (1, d0, ev) :: (0, d1, e) :: (2, i, e0) :: T, F, B, C)) hl rfl
        show zk_lel w' i (zl_ev s e).toNat = zl_ev s ev
        unfold zk_lel
        rw [u5, zz_at_to (zz_nL_lt x), if_pos (by omega), zz_nL_of]
        exact hxv hk
    · cases h
  · cases h
/-- masks -/
theorem zk_and_nI (x y : Int32) : zz_nI (x &&& y) = zz_nI x &&& zz_nI y := by
  show (x.toBitVec &&& y.toBitVec).toNat = _
  rw [BitVec.toNat_and]
  rfl
theorem zk_and_id {x y : Int32} {m : Nat} (hy : y.toInt = (2 : Int) ^ m - 1) (h0 : 0 ≤ x.toInt) (h1 : x.toInt ≤ (2 : Int) ^ m - 1) : (x &&& y).toInt = x.toInt := by
  have hp : (1 : Int) ≤ (2 : Int) ^ m := by
    have := Nat.one_le_two_pow (n := m)
    have h2 : ((2 ^ m : Nat) : Int) = (2 : Int) ^ m := by rw [Int.natCast_pow]; rfl
    omega
  have e1 := zk_nI h0
  have e2 := zk_nI (x := y) (by omega)
  have h3 := zk_and_bd (x := x) (y := y) (by omega)
  have e3 := zk_nI h3.1
  have h2 : ((2 ^ m : Nat) : Int) = (2 : Int) ^ m := by rw [Int.natCast_pow]; rfl
  have e4 : zz_nI y = 2 ^ m - 1 := by omega
  have e5 : zz_nI (x &&& y) = zz_nI x := by
    rw [zk_and_nI, e4, Nat.and_two_pow_sub_one_eq_mod]
    exact Nat.mod_eq_of_lt (by omega)
  omega
theorem zk_and_wr {x y : Int32} {m : Nat} (hy : y.toInt = (2 : Int) ^ m - 1) (h1 : x.toInt = (2 : Int) ^ m) : (x &&& y).toInt = 0 := by
  have hp : (1 : Int) ≤ (2 : Int) ^ m := by
    have := Nat.one_le_two_pow (n := m)
    have h2 : ((2 ^ m : Nat) : Int) = (2 : Int) ^ m := by rw [Int.natCast_pow]; rfl
    omega
  have e1 := zk_nI (x := x) (by omega)
  have e2 := zk_nI (x := y) (by omega)
  have h3 := zk_and_bd (x := x) (y := y) (by omega)
  have e3 := zk_nI h3.1
  have h2 : ((2 ^ m : Nat) : Int) = (2 : Int) ^ m := by rw [Int.natCast_pow]; rfl
  have e4 : zz_nI y = 2 ^ m - 1 := by omega
  have e6 : zz_nI x = 2 ^ m := by omega
  have e5 : zz_nI (x &&& y) = 0 := by
    rw [zk_and_nI, e4, Nat.and_two_pow_sub_one_eq_mod, e6]
    exact Nat.mod_self _
  omega
def zt_iand3 (hs : List (List Nat)) (A : zk_A) : Option zk_A := match A.2.1, (hs.getD 0 []).getD 0 0 with
  | (0, _, e2) :: (0, _, e1) :: r, 1 => cond (zl_nul (zl_sub e2 (zl_con ((2 : Int) ^ ((hs.getD 0 []).getD 1 0) - 1))) && (zl_en A.2.2.2.1 A.2.2.2.2 (hs.getD 1 []) e1 && zl_en A.2.2.2.1 A.2.2.2.2 (hs.getD 2 []) (zl_sub (zl_con ((2 : Int) ^ ((hs.getD 0 []).getD 1 0) - 1)) e1))) (some (A.1, (0, 0, e1) :: r, A.2.2.1, A.2.2.2.1, A.2.2.2.2)) none
  | (0, _, e2) :: (0, _, e1) :: r, 2 => cond (zl_nul (zl_sub e2 (zl_con ((2 : Int) ^ ((hs.getD 0 []).getD 1 0) - 1))) && (zl_en A.2.2.2.1 A.2.2.2.2 (hs.getD 1 []) (zl_sub e1 (zl_con ((2 : Int) ^ ((hs.getD 0 []).getD 1 0)))) && zl_en A.2.2.2.1 A.2.2.2.2 (hs.getD 2 []) (zl_sub (zl_con ((2 : Int) ^ ((hs.getD 0 []).getD 1 0))) e1))) (some (A.1, (0, 0, zl_con 0) :: r, A.2.2.1, A.2.2.2.1, A.2.2.2.2)) none
  | (0, _, e2) :: (0, _, e1) :: r, 3 => cond ((zl_en A.2.2.2.1 A.2.2.2.2 (hs.getD 1 []) (zl_sub e2 (zl_con ((hs.getD 0 []).getD 1 0 : Nat))) && zl_en A.2.2.2.1 A.2.2.2.2 (hs.getD 2 []) (zl_sub (zl_con ((hs.getD 0 []).getD 1 0 : Nat)) e2)) && (zl_en A.2.2.2.1 A.2.2.2.2 (hs.getD 3 []) (zl_sub e1 (zl_con ((hs.getD 0 []).getD 2 0 : Nat))) && zl_en A.2.2.2.1 A.2.2.2.2 (hs.getD 4 []) (zl_sub (zl_con ((hs.getD 0 []).getD 2 0 : Nat)) e1))) (some (A.1, (0, 0, zl_con ((Nat.land ((hs.getD 0 []).getD 2 0) ((hs.getD 0 []).getD 1 0) : Nat) : Int)) :: r, A.2.2.1, A.2.2.2.1, A.2.2.2.2)) none
  | _, _ => zt_2b zk_bdAn2 A
theorem zk_and_nn {x y : Int32} {a b : Nat} (hy : y.toInt = (a : Int)) (hx : x.toInt = (b : Int)) : (x &&& y).toInt = ((Nat.land b a : Nat) : Int) := by
  have e1 := zk_nI (x := x) (by omega)
  have e2 := zk_nI (x := y) (by omega)
  have h3 := zk_and_bd (x := x) (y := y) (by omega)
  have e3 := zk_nI h3.1
  have e4 : zz_nI y = a := by omega
  have e6 : zz_nI x = b := by omega
  have e5 : zz_nI (x &&& y) = Nat.land b a := by
    rw [zk_and_nI, e4, e6]
    rfl
  omega
theorem zt_iand3_ok {I : zz_W → Prop} {A A' : zk_A} {n : Nat} {hs : List (List Nat)} (h : zt_iand3 hs A = some A') : zk_S I (za_iand n) n A A' := by
  obtain ⟨L, T, F, B, C⟩ := A
  unfold zt_iand3 at h
  split at h
  · rename_i k2 e2 k1 e1 r hT _
    have hT : T = (0, k2, e2) :: (0, k1, e1) :: r := hT
    subst hT
    obtain ⟨hb, h⟩ := zz_cond h
    obtain ⟨b1, hb⟩ := zz_and hb
    obtain ⟨b2, b3⟩ := zz_and hb
    cases h
    refine ⟨Nat.le_refl _, fun K s f hG => ?_⟩
    obtain ⟨p, lv, st, w⟩ := f
    obtain ⟨g1, g2, g3, g4, g5, g6⟩ := hG
    obtain ⟨y, st1, q1, q2, q3⟩ := zk_st_int g2 rfl
    obtain ⟨x, st2, q4, q5, q6⟩ := zk_st_int q3 rfl
    have hst : st = .int y :: .int x :: st2 := by rw [← q4]; exact q1
    subst hst
    have z1 := zl_nul_ok (s := s) b1
    have z2 := zl_en_ok g4 g5 b2
    have z3 := zl_en_ok g4 g5 b3
    rw [zl_sub_ev, zl_con_ev] at z1 z3
    have q2 : y.toInt = zl_ev s e2 := q2
    have q5 : x.toInt = zl_ev s e1 := q5
    exact ⟨s, _, ze_iand rfl, rfl, ⟨g1, ⟨zk_v_int (by rw [zk_and_id (m := (hs.getD 0 []).getD 1 0) (by omega) (by omega) (by omega)]; exact q5), q6⟩, g3, g4, g5, g6⟩, fun _ _ => rfl⟩
  · rename_i k2 e2 k1 e1 r hT _
    have hT : T = (0, k2, e2) :: (0, k1, e1) :: r := hT
    subst hT
    obtain ⟨hb, h⟩ := zz_cond h
    obtain ⟨b1, hb⟩ := zz_and hb
    obtain ⟨b2, b3⟩ := zz_and hb
    cases h
    refine ⟨Nat.le_refl _, fun K s f hG => ?_⟩
    obtain ⟨p, lv, st, w⟩ := f
    obtain ⟨g1, g2, g3, g4, g5, g6⟩ := hG
    obtain ⟨y, st1, q1, q2, q3⟩ := zk_st_int g2 rfl
    obtain ⟨x, st2, q4, q5, q6⟩ := zk_st_int q3 rfl
    have hst : st = .int y :: .int x :: st2 := by rw [← q4]; exact q1
    subst hst
    have z1 := zl_nul_ok (s := s) b1
    have z2 := zl_en_ok g4 g5 b2
    have z3 := zl_en_ok g4 g5 b3
    rw [zl_sub_ev, zl_con_ev] at z1 z2 z3
    have q2 : y.toInt = zl_ev s e2 := q2
    have q5 : x.toInt = zl_ev s e1 := q5
    exact ⟨s, _, ze_iand rfl, rfl, ⟨g1, ⟨zk_v_int (by rw [zk_and_wr (m := (hs.getD 0 []).getD 1 0) (by omega) (by omega), zl_con_ev]), q6⟩, g3, g4, g5, g6⟩, fun _ _ => rfl⟩
  · rename_i k2 e2 k1 e1 r hT _
    have hT : T = (0, k2, e2) :: (0, k1, e1) :: r := hT
    subst hT
    obtain ⟨hb, h⟩ := zz_cond h
    obtain ⟨b1, hb⟩ := zz_and hb
    obtain ⟨b3, b4⟩ := zz_and hb
    obtain ⟨b1, b2⟩ := zz_and b1
    cases h
    refine ⟨Nat.le_refl _, fun K s f hG => ?_⟩
    obtain ⟨p, lv, st, w⟩ := f
    obtain ⟨g1, g2, g3, g4, g5, g6⟩ := hG
    obtain ⟨y, st1, q1, q2, q3⟩ := zk_st_int g2 rfl
    obtain ⟨x, st2, q4, q5, q6⟩ := zk_st_int q3 rfl
    have hst : st = .int y :: .int x :: st2 := by rw [← q4]; exact q1
    subst hst
    have z1 := zl_en_ok g4 g5 b1
    have z2 := zl_en_ok g4 g5 b2
    have z3 := zl_en_ok g4 g5 b3
    have z4 := zl_en_ok g4 g5 b4
    rw [zl_sub_ev, zl_con_ev] at z1 z2 z3 z4
    have q2 : y.toInt = zl_ev s e2 := q2
    have q5 : x.toInt = zl_ev s e1 := q5
    exact ⟨s, _, ze_iand rfl, rfl, ⟨g1, ⟨zk_v_int (by rw [zk_and_nn (a := (hs.getD 0 []).getD 1 0) (b := (hs.getD 0 []).getD 2 0) (by omega) (by omega), zl_con_ev]), q6⟩, g3, g4, g5, g6⟩, fun _ _ => rfl⟩
  · exact zt_iand2_ok h
end
end
section
/-! ABSTRACT FRAMES, on: longs: quotients, rests, what is less, comparisons, masks -/
noncomputable section
/-- the divisor is not 0: 0 it is above, 1 below -/
def zk_nz (A : zk_A) (hs : List (List Nat)) (k : Nat) (e : zl_E) : Bool := Nat.beq k 1 && cond (Nat.beq ((hs.getD 0 []).getD 0 0) 0) (zl_en A.2.2.2.1 A.2.2.2.2 (hs.getD 1 []) (zl_sub e (zl_con 1))) (zl_en A.2.2.2.1 A.2.2.2.2 (hs.getD 1 []) (zl_sub (zl_con (-1)) e))
theorem zk_nz_ok {A : zk_A} {hs : List (List Nat)} {k : Nat} {e : zl_E} {s : Nat → Int} {y : Int64} (h : zk_nz A hs k e = true) (h4 : zl_in s A.2.2.2.1) (h5 : zk_cs s A.2.2.2.2) (hy : k = 1 → y.toInt = zl_ev s e) : ¬ y = 0 := by
  obtain ⟨b1, b2⟩ := zz_and h
  have hy := hy (zz_beq b1)
  intro h0
  subst h0
  have h0 : (0 : Int64).toInt = 0 := rfl
  rw [h0] at hy
  cases hm : Nat.beq ((hs.getD 0 []).getD 0 0) 0 with
  | true =>
    rw [hm] at b2
    have := zl_en_ok h4 h5 b2
    rw [zl_sub_ev, zl_con_ev] at this
    omega
  | false =>
    rw [hm] at b2
    have := zl_en_ok h4 h5 b2
    rw [zl_sub_ev, zl_con_ev] at this
    omega
def zt_lq (hs : List (List Nat)) (A : zk_A) : Option zk_A := match A.2.1 with
  | (1, k2, e2) :: (1, _, _) :: r => cond (zk_nz A hs k2 e2) (some (A.1, (1, 0, zl_con 0) :: r, A.2.2.1, A.2.2.2.1, A.2.2.2.2)) none
  | _ => none
theorem zt_lq_ok {I : zz_W → Prop} {A A' : zk_A} {n : Nat} {hs : List (List Nat)} {act : zz_A} {g : Int64 → Int64 → Int64} (ha : ∀ (K : zz_K) (p : Nat) (lv : List (Nat × Value)) (x y : Int64) (r : List Value) (w : zz_W), ¬ y = 0 → act K (p, lv, .long y :: .long x :: r, w) = some (n, lv, .long (g x y) :: r, w)) (h : zt_lq hs A = some A') : zk_S I act n A A' := by
  obtain ⟨L, T, F, B, C⟩ := A
  unfold zt_lq at h
  split at h
  · rename_i k2 e2 k1 e1 r hT
    have hT : T = (1, k2, e2) :: (1, k1, e1) :: r := hT
    subst hT
    obtain ⟨hb, h⟩ := zz_cond h
    cases h
    refine ⟨Nat.le_refl _, fun K s f hG => ?_⟩
    obtain ⟨p, lv, st, w⟩ := f
    obtain ⟨g1, g2, g3, g4, g5, g6⟩ := hG
    obtain ⟨y, st1, q1, q2, q3⟩ := zk_st_lv g2 rfl
    obtain ⟨x, st2, q4, q6⟩ := zk_st_long q3 rfl
    have hst : st = .long y :: .long x :: st2 := by rw [← q4]; exact q1
    subst hst
    exact ⟨s, _, ha K p lv x y st2 w (zk_nz_ok hb g4 g5 q2), rfl, ⟨g1, ⟨zk_v_long, q6⟩, g3, g4, g5, g6⟩, fun _ _ => rfl⟩
  · cases h
/-- a quotient by a number above 0, of what is not below 0 -/
def zt_ldivC (hs : List (List Nat)) (A : zk_A) : Option zk_A := match A.2.1 with
  | (1, k2, e2) :: (1, k1, e1) :: r => match zl_c e2, zl_ub A.2.2.2.1 e1 with
    | some c, some u => cond (Nat.beq k2 1 && (Nat.beq k1 1 && (decide (0 < c) && (zl_en A.2.2.2.1 A.2.2.2.2 (hs.getD 1 []) e1 && (Nat.ble (zl_mx e1.2) A.2.2.2.1.length && zk_wf A.2.2.2.1.length A.1 r A.2.2.1 A.2.2.2.2)))))
      (some (A.1, (1, 1, zl_sym A.2.2.2.1.length) :: r, A.2.2.1, A.2.2.2.1 ++ [(0, u / c)], zl_sub e1 (zl_mul c (zl_sym A.2.2.2.1.length)) :: zl_sub (zl_add (zl_mul c (zl_sym A.2.2.2.1.length)) (zl_con (c - 1))) e1 :: A.2.2.2.2)) none
    | _, _ => none
  | _ => none
theorem zk_ldiv_pos {x y : Int64} (hx : 0 ≤ x.toInt) (hy : 0 < y.toInt) : (x / y).toInt = x.toInt / y.toInt := by
  have h1 : (x / y).toInt = (x.toInt.tdiv y.toInt).bmod (2 ^ 64) := Int64.toInt_div x y
  rw [h1, Int.tdiv_eq_ediv_of_nonneg hx]
  have h2 : 0 ≤ x.toInt / y.toInt := Int.ediv_nonneg hx (by omega)
  have h3 : x.toInt / y.toInt ≤ x.toInt := Int.ediv_le_self _ hx
  have h4 := Int64.toInt_lt x
  rw [Int.bmod_def]
  omega
theorem zt_ldivC_ok {I : zz_W → Prop} {A A' : zk_A} {n : Nat} {hs : List (List Nat)} (h : zt_ldivC hs A = some A') : zk_S I (za_ldiv n) n A A' := by
  obtain ⟨L, T, F, B, C⟩ := A
  unfold zt_ldivC at h
  split at h
  · rename_i k2 e2 k1 e1 r hT
    have hT : T = (1, k2, e2) :: (1, k1, e1) :: r := hT
    subst hT
    split at h
    · rename_i c u hc hu
      obtain ⟨hb, h⟩ := zz_cond h
      obtain ⟨b1, hb⟩ := zz_and hb
      obtain ⟨b2, hb⟩ := zz_and hb
      obtain ⟨b3, hb⟩ := zz_and hb
      obtain ⟨b4, hb⟩ := zz_and hb
      obtain ⟨b5, b6⟩ := zz_and hb
      have b3 := of_decide_eq_true b3
      have hu : zl_ub B e1 = some u := hu
      cases h
      refine ⟨by show B.length ≤ (B ++ [(0, u / c)]).length; simp, fun K s f hG => ?_⟩
      obtain ⟨p, lv, st, w⟩ := f
      obtain ⟨g1, g2, g3, g4, g5, g6⟩ := hG
      obtain ⟨y, st1, q1, q2, q3⟩ := zk_st_lv g2 rfl
      obtain ⟨x, st2, q4, q5, q6⟩ := zk_st_lv q3 rfl
      have hst : st = .long y :: .long x :: st2 := by rw [← q4]; exact q1
      subst hst
      have q2 : y.toInt = zl_ev s e2 := q2 (zz_beq b1)
      have q5 : x.toInt = zl_ev s e1 := q5 (zz_beq b2)
      rw [zl_c_ok (s := s) hc] at q2
      have z1 := zl_en_ok g4 g5 b4
      have z2 := zl_ub_ok g4 hu
      have hq : (x / y).toInt = zl_ev s e1 / c := by rw [zk_ldiv_pos (by omega) (by omega), q5, q2]
      have hy0 : ¬ y = 0 := fun h0 => by
        subst h0
        have h0 : (0 : Int64).toInt = 0 := rfl
        rw [h0] at q2
        omega
      have hag : ∀ j, j < B.length → (fun j => if j = B.length then zl_ev s e1 / c else s j) j = s j := fun j hj => if_neg (by omega)
      generalize hs' : (fun j => if j = B.length then zl_ev s e1 / c else s j) = s' at hag
      have hsB : s' B.length = zl_ev s e1 / c := by rw [← hs']; exact if_pos rfl
      obtain ⟨m1, m2, m3, m4⟩ := zk_wf_ok b6 hag g1 q6 g3 g5
      have he1 : zl_ev s' e1 = zl_ev s e1 := zl_ev_eq (n := B.length) (zz_ble b5) hag
      have hd1 := Int.mul_ediv_add_emod (zl_ev s e1) c
      have hd2 := Int.emod_nonneg (zl_ev s e1) (b := c) (by omega)
      have hd3 := Int.emod_lt_of_pos (zl_ev s e1) b3
      refine ⟨s', _, ze_ldiv hy0 rfl, rfl, ⟨m1, ⟨zk_v_lv (by rw [zl_sym_ev, hsB]; exact hq), m2⟩, m3, zl_in_snoc (fun k q hk => ?_) ?_ ?_, fun c0 hc0 => ?_, g6⟩, hag⟩
      · have hk' : k < B.length := (List.getElem?_eq_some_iff.mp hk).1
        rw [hag k hk']
        exact g4 k q hk
      · rw [hsB]
        exact Int.ediv_nonneg z1 (by omega)
      · rw [hsB]
        exact Int.ediv_le_ediv b3 z2
      · rcases List.mem_cons.mp hc0 with e | hc0
        · rw [e, zl_sub_ev, zl_mul_ev, zl_sym_ev, hsB, he1]
          omega
        · rcases List.mem_cons.mp hc0 with e | hc0
          · rw [e, zl_sub_ev, zl_add_ev, zl_mul_ev, zl_sym_ev, zl_con_ev, hsB, he1]
            omega
          · exact m4 c0 hc0
    · cases h
  · cases h
/-- a quotient of two numbers -/
def zt_ldivK (A : zk_A) : Option zk_A := match A.2.1 with
  | (1, k2, e2) :: (1, k1, e1) :: r => match zl_c e2, zl_c e1 with
    | some c, some d => cond (Nat.beq k2 1 && (Nat.beq k1 1 && (decide (0 < c) && decide (0 ≤ d)))) (some (A.1, (1, 1, zl_con (d / c)) :: r, A.2.2.1, A.2.2.2.1, A.2.2.2.2)) none
    | _, _ => none
  | _ => none
theorem zt_ldivK_ok {I : zz_W → Prop} {A A' : zk_A} {n : Nat} (h : zt_ldivK A = some A') : zk_S I (za_ldiv n) n A A' := by
  obtain ⟨L, T, F, B, C⟩ := A
  unfold zt_ldivK at h
  split at h
  · rename_i k2 e2 k1 e1 r hT
    have hT : T = (1, k2, e2) :: (1, k1, e1) :: r := hT
    subst hT
    split at h
    · rename_i c d hc hd
      obtain ⟨hb, h⟩ := zz_cond h
      obtain ⟨b1, hb⟩ := zz_and hb
      obtain ⟨b2, hb⟩ := zz_and hb
      obtain ⟨b3, b4⟩ := zz_and hb
      have b3 := of_decide_eq_true b3
      have b4 := of_decide_eq_true b4
      cases h
      refine ⟨Nat.le_refl _, fun K s f hG => ?_⟩
      obtain ⟨p, lv, st, w⟩ := f
      obtain ⟨g1, g2, g3, g4, g5, g6⟩ := hG
      obtain ⟨y, st1, q1, q2, q3⟩ := zk_st_lv g2 rfl
      obtain ⟨x, st2, q4, q5, q6⟩ := zk_st_lv q3 rfl
      have hst : st = .long y :: .long x :: st2 := by rw [← q4]; exact q1
      subst hst
      have q2 : y.toInt = zl_ev s e2 := q2 (zz_beq b1)
      have q5 : x.toInt = zl_ev s e1 := q5 (zz_beq b2)
      rw [zl_c_ok (s := s) hc] at q2
      rw [zl_c_ok (s := s) hd] at q5
      have hy0 : ¬ y = 0 := fun h0 => by
        subst h0
        have h0 : (0 : Int64).toInt = 0 := rfl
        rw [h0] at q2
        omega
      exact ⟨s, _, ze_ldiv hy0 rfl, rfl, ⟨g1, ⟨zk_v_lv (by rw [zk_ldiv_pos (by omega) (by omega), q5, q2, zl_con_ev]), q6⟩, g3, g4, g5, g6⟩, fun _ _ => rfl⟩
    · cases h
  · cases h
def zt_ldiv (hs : List (List Nat)) (A : zk_A) : Option zk_A := cond (Nat.beq ((hs.getD 0 []).getD 0 0) 2) (zt_ldivC hs A) (cond (Nat.beq ((hs.getD 0 []).getD 0 0) 3) (zt_ldivK A) (zt_lq hs A))
theorem zt_ldiv_ok {I : zz_W → Prop} {A A' : zk_A} {n : Nat} {hs : List (List Nat)} (h : zt_ldiv hs A = some A') : zk_S I (za_ldiv n) n A A' := by
  unfold zt_ldiv at h
  cases hb : Nat.beq ((hs.getD 0 []).getD 0 0) 2 with
  | true =>
    rw [hb] at h
    exact zt_ldivC_ok h
  | false =>
    rw [hb] at h
    cases hb3 : Nat.beq ((hs.getD 0 []).getD 0 0) 3 with
    | true =>
      rw [hb3] at h
      exact zt_ldivK_ok h
    | false =>
      rw [hb3] at h
      exact zt_lq_ok (g := fun x y => x / y) (fun K p lv x y r w hy => ze_ldiv hy rfl) h
theorem zt_lrem_ok {I : zz_W → Prop} {A A' : zk_A} {n : Nat} {hs : List (List Nat)} (h : zt_lq hs A = some A') : zk_S I (za_lrem n) n A A' := zt_lq_ok (g := fun x y => x - x / y * y) (fun K p lv x y r w hy => ze_lrem hy rfl) h
/-- less than nothing -/
def zt_lneg (A : zk_A) : Option zk_A := match A.2.1 with
  | (1, k, e) :: r => cond (Nat.beq k 1 && zl_pos A.2.2.2.1 (zl_add e (zl_con 9223372036854775807))) (some (A.1, (1, 1, zl_neg e) :: r, A.2.2.1, A.2.2.2.1, A.2.2.2.2)) (some (A.1, (1, 0, zl_con 0) :: r, A.2.2.1, A.2.2.2.1, A.2.2.2.2))
  | _ => none
theorem zt_lneg_ok {I : zz_W → Prop} {A A' : zk_A} {n : Nat} (h : zt_lneg A = some A') : zk_S I (za_lneg n) n A A' := by
  obtain ⟨L, T, F, B, C⟩ := A
  unfold zt_lneg at h
  split at h
  · rename_i k e r hT
    have hT : T = (1, k, e) :: r := hT
    subst hT
    cases hb : (Nat.beq k 1 && zl_pos B (zl_add e (zl_con 9223372036854775807))) with
    | true =>
      rw [hb] at h
      cases h
      obtain ⟨b1, b2⟩ := zz_and hb
      refine ⟨Nat.le_refl _, fun K s f hG => ?_⟩
      obtain ⟨p, lv, st, w⟩ := f
      obtain ⟨g1, g2, g3, g4, g5, g6⟩ := hG
      obtain ⟨x, st1, q1, q2, q3⟩ := zk_st_lv g2 rfl
      have q1 : st = .long x :: st1 := q1
      subst q1
      have q2 : x.toInt = zl_ev s e := q2 (zz_beq b1)
      have z1 := zl_pos_ok g4 b2
      rw [zl_add_ev, zl_con_ev] at z1
      have z2 := Int64.toInt_lt x
      have hv : (-x).toInt = -x.toInt := by
        rw [Int64.toInt_neg, Int.bmod_def]
        omega
      exact ⟨s, _, ze_lneg rfl, rfl, ⟨g1, ⟨zk_v_lv (by rw [hv, q2, zl_neg_ev]), q3⟩, g3, g4, g5, g6⟩, fun _ _ => rfl⟩
    | false =>
      rw [hb] at h
      cases h
      refine ⟨Nat.le_refl _, fun K s f hG => ?_⟩
      obtain ⟨p, lv, st, w⟩ := f
      obtain ⟨g1, g2, g3, g4, g5, g6⟩ := hG
      obtain ⟨x, st1, q1, q3⟩ := zk_st_long g2 rfl
      have q1 : st = .long x :: st1 := q1
      subst q1
      exact ⟨s, _, ze_lneg rfl, rfl, ⟨g1, ⟨zk_v_long, q3⟩, g3, g4, g5, g6⟩, fun _ _ => rfl⟩
  · cases h
/-- a comparison: three roads, where both are known -/
def zt_lcmp3 (n : Nat) (hs : List (List Nat)) (A : zk_A) : Option (List (Nat × zk_A)) := match A.2.1, Nat.beq ((hs.getD 0 []).getD 0 0) 3 with
  | (1, k2, e2) :: (1, k1, e1) :: r, true => cond (Nat.beq k2 1 && Nat.beq k1 1) (some (((zk_and A ((0, 0, zl_con (-1)) :: r) (hs.getD 1 []) [zl_sub (zl_sub e2 e1) (zl_con 1)]) ++ ((zk_and A ((0, 0, zl_con 0) :: r) (hs.getD 2 []) [zl_sub e1 e2, zl_sub e2 e1]) ++ (zk_and A ((0, 0, zl_con 1) :: r) (hs.getD 3 []) [zl_sub (zl_sub e1 e2) (zl_con 1)]))).map (fun X => (n, X)))) none
  | _, _ => match zt_L2 (-1) 1 A with
    | some A' => some [(n, A')]
    | none => none
theorem zt_lcmp3_ok {I : zz_W → Prop} {A : zk_A} {n : Nat} {hs : List (List Nat)} {R : List (Nat × zk_A)} (h : zt_lcmp3 n hs A = some R) : zk_R I (za_lcmp n) A R := by
  unfold zt_lcmp3 at h
  split at h
  · rename_i k2 e2 k1 e1 r hT _
    obtain ⟨hb, h⟩ := zz_cond h
    obtain ⟨b1, b2⟩ := zz_and hb
    cases h
    intro K s f hG
    obtain ⟨p, lv, st, w⟩ := f
    obtain ⟨g1, g2, g3, g4, g5, g6⟩ := hG
    have g2 : zk_st s A.2.1 st := g2
    rw [hT] at g2
    obtain ⟨y, st1, q1, q2, q3⟩ := zk_st_lv g2 rfl
    obtain ⟨x, st2, q4, q5, q6⟩ := zk_st_lv q3 rfl
    have hst : st = .long y :: .long x :: st2 := by rw [← q4]; exact q1
    subst hst
    have q2 : y.toInt = zl_ev s e2 := q2 (zz_beq b1)
    have q5 : x.toInt = zl_ev s e1 := q5 (zz_beq b2)
    by_cases c1 : x > y
    · have c2 : y.toInt < x.toInt := Int64.lt_iff_toInt_lt.mp c1
      have hv : lg_cmp x y = 1 := if_pos c1
      obtain ⟨A', m1, m2, m3⟩ := zk_and_ok (I := I) (A := A) (T := (0, 0, zl_con 1) :: r) (r := Value.int 1 :: st2) (hs := hs.getD 3 []) (cs := [zl_sub (zl_sub e1 e2) (zl_con 1)]) (n := n) g1 ⟨zk_v_int (by rw [zl_con_ev]; rfl), q6⟩ g3 g4 g5 g6 (fun c hc => by rw [List.mem_singleton.mp hc, zl_sub_ev, zl_sub_ev, zl_con_ev]; omega)
      exact ⟨s, _, (n, A'), ze_lcmp hv, List.mem_map.mpr ⟨A', List.mem_append_right _ (List.mem_append_right _ m1), rfl⟩, rfl, m2, m3, fun _ _ => rfl⟩
    · by_cases c2 : x = y
      · have hv : lg_cmp x y = 0 := (if_neg c1).trans (if_pos c2)
        have c3 : x.toInt = y.toInt := congrArg Int64.toInt c2
        obtain ⟨A', m1, m2, m3⟩ := zk_and_ok (I := I) (A := A) (T := (0, 0, zl_con 0) :: r) (r := Value.int 0 :: st2) (hs := hs.getD 2 []) (cs := [zl_sub e1 e2, zl_sub e2 e1]) (n := n) g1 ⟨zk_v_int (by rw [zl_con_ev]; rfl), q6⟩ g3 g4 g5 g6 (fun c hc => by
          rcases List.mem_cons.mp hc with hc | hc
          · rw [hc, zl_sub_ev]
            omega
          · rw [List.mem_singleton.mp hc, zl_sub_ev]
            omega)
        exact ⟨s, _, (n, A'), ze_lcmp hv, List.mem_map.mpr ⟨A', List.mem_append_right _ (List.mem_append_left _ m1), rfl⟩, rfl, m2, m3, fun _ _ => rfl⟩
      · have hv : lg_cmp x y = -1 := (if_neg c1).trans (if_neg c2)
        have c3 : x.toInt < y.toInt := by
          have c4 : ¬ y.toInt < x.toInt := fun hc => c1 (Int64.lt_iff_toInt_lt.mpr hc)
          have c5 : x.toInt ≠ y.toInt := fun hc => c2 (Int64.toInt_inj.mp hc)
          omega
        obtain ⟨A', m1, m2, m3⟩ := zk_and_ok (I := I) (A := A) (T := (0, 0, zl_con (-1)) :: r) (r := Value.int (-1) :: st2) (hs := hs.getD 1 []) (cs := [zl_sub (zl_sub e2 e1) (zl_con 1)]) (n := n) g1 ⟨zk_v_int (by rw [zl_con_ev]; rfl), q6⟩ g3 g4 g5 g6 (fun c hc => by rw [List.mem_singleton.mp hc, zl_sub_ev, zl_sub_ev, zl_con_ev]; omega)
        exact ⟨s, _, (n, A'), ze_lcmp hv, List.mem_map.mpr ⟨A', List.mem_append_left _ m1, rfl⟩, rfl, m2, m3, fun _ _ => rfl⟩
  · split at h
    · rename_i A' hA
      cases h
      exact zk_S_R (zt_lcmp_ok hA)
    · cases h
/-- the lowest half of what an int was: 1 it is not below 0, 2 it is -/
def zt_land3 (hs : List (List Nat)) (A : zk_A) : Option zk_A := match A.2.1, (hs.getD 0 []).getD 0 0 with
  | (1, k2, e2) :: (1, k1, e1) :: r, 1 => cond ((Nat.beq k2 1 && Nat.beq k1 1) && (zl_nul (zl_sub e2 (zl_con 4294967295)) && (zl_en A.2.2.2.1 A.2.2.2.2 (hs.getD 1 []) e1 && zl_en A.2.2.2.1 A.2.2.2.2 (hs.getD 2 []) (zl_sub (zl_con 4294967295) e1)))) (some (A.1, (1, 1, e1) :: r, A.2.2.1, A.2.2.2.1, A.2.2.2.2)) none
  | (1, k2, e2) :: (1, k1, e1) :: r, 2 => cond ((Nat.beq k2 1 && Nat.beq k1 1) && (zl_nul (zl_sub e2 (zl_con 4294967295)) && (zl_en A.2.2.2.1 A.2.2.2.2 (hs.getD 1 []) (zl_sub (zl_con (-1)) e1) && zl_en A.2.2.2.1 A.2.2.2.2 (hs.getD 2 []) (zl_add e1 (zl_con 4294967296))))) (some (A.1, (1, 1, zl_add e1 (zl_con 4294967296)) :: r, A.2.2.1, A.2.2.2.1, A.2.2.2.2)) none
  | _, _ => zt_LL A
theorem zk_nL0 {x : Int64} (h : 0 ≤ x.toInt) : (zz_nL x : Int) = x.toInt := by
  have h1 : x.toInt = x.toBitVec.toInt := rfl
  rw [h1] at h ⊢
  rw [BitVec.toInt_eq_toNat_cond] at h ⊢
  have h2 := x.toBitVec.isLt
  show ((x.toBitVec.toNat : Nat) : Int) = _
  split at h
  · rw [if_pos (by assumption)]
  · omega
theorem zk_nL1 {x : Int64} (h : x.toInt < 0) : (zz_nL x : Int) = x.toInt + 18446744073709551616 := by
  have h1 : x.toInt = x.toBitVec.toInt := rfl
  rw [h1] at h ⊢
  rw [BitVec.toInt_eq_toNat_cond] at h ⊢
  have h2 := x.toBitVec.isLt
  show ((x.toBitVec.toNat : Nat) : Int) = _
  split at h
  · omega
  · rw [if_neg (by assumption)]
    omega
theorem zk_land_m {x y : Int64} (hy : y.toInt = 4294967295) : (x &&& y).toInt = ((zz_nL x % 4294967296 : Nat) : Int) := by
  have e1 : zz_nL (x &&& y) = zz_nL x % 4294967296 := by
    have e2 : zz_nL y = 2 ^ 32 - 1 := by
      have := zk_nL0 (x := y) (by omega)
      omega
    show (x.toBitVec &&& y.toBitVec).toNat = _
    rw [BitVec.toNat_and]
    show zz_nL x &&& zz_nL y = _
    rw [e2, Nat.and_two_pow_sub_one_eq_mod]
  have h1 : (x &&& y).toInt = (x &&& y).toBitVec.toInt := rfl
  have h2 : (x &&& y).toBitVec.toNat = zz_nL x % 4294967296 := e1
  rw [h1, BitVec.toInt_eq_toNat_cond, h2]
  have h3 : zz_nL x % 4294967296 < 4294967296 := Nat.mod_lt _ (by decide)
  rw [if_pos (by omega)]
theorem zt_land3_ok {I : zz_W → Prop} {A A' : zk_A} {n : Nat} {hs : List (List Nat)} (h : zt_land3 hs A = some A') : zk_S I (za_land n) n A A' := by
  obtain ⟨L, T, F, B, C⟩ := A
  unfold zt_land3 at h
  split at h
  · rename_i k2 e2 k1 e1 r hT _
    have hT : T = (1, k2, e2) :: (1, k1, e1) :: r := hT
    subst hT
    obtain ⟨hb, h⟩ := zz_cond h
    obtain ⟨ha, hb⟩ := zz_and hb
    obtain ⟨a1, a2⟩ := zz_and ha
    obtain ⟨b1, hb⟩ := zz_and hb
    obtain ⟨b2, b3⟩ := zz_and hb
    cases h
    refine ⟨Nat.le_refl _, fun K s f hG => ?_⟩
    obtain ⟨p, lv, st, w⟩ := f
    obtain ⟨g1, g2, g3, g4, g5, g6⟩ := hG
    obtain ⟨y, st1, q1, q2, q3⟩ := zk_st_lv g2 rfl
    obtain ⟨x, st2, q4, q5, q6⟩ := zk_st_lv q3 rfl
    have hst : st = .long y :: .long x :: st2 := by rw [← q4]; exact q1
    subst hst
    have q2 : y.toInt = zl_ev s e2 := q2 (zz_beq a1)
    have q5 : x.toInt = zl_ev s e1 := q5 (zz_beq a2)
    have z1 := zl_nul_ok (s := s) b1
    have z2 := zl_en_ok g4 g5 b2
    have z3 := zl_en_ok g4 g5 b3
    rw [zl_sub_ev, zl_con_ev] at z1 z3
    have z4 := zk_nL0 (x := x) (by omega)
    exact ⟨s, _, ze_land rfl, rfl, ⟨g1, ⟨zk_v_lv (by rw [zk_land_m (by omega)]; omega), q6⟩, g3, g4, g5, g6⟩, fun _ _ => rfl⟩
  · rename_i k2 e2 k1 e1 r hT _
    have hT : T = (1, k2, e2) :: (1, k1, e1) :: r := hT
    subst hT
    obtain ⟨hb, h⟩ := zz_cond h
    obtain ⟨ha, hb⟩ := zz_and hb
    obtain ⟨a1, a2⟩ := zz_and ha
    obtain ⟨b1, hb⟩ := zz_and hb
    obtain ⟨b2, b3⟩ := zz_and hb
    cases h
    refine ⟨Nat.le_refl _, fun K s f hG => ?_⟩
    obtain ⟨p, lv, st, w⟩ := f
    obtain ⟨g1, g2, g3, g4, g5, g6⟩ := hG
    obtain ⟨y, st1, q1, q2, q3⟩ := zk_st_lv g2 rfl
    obtain ⟨x, st2, q4, q5, q6⟩ := zk_st_lv q3 rfl
    have hst : st = .long y :: .long x :: st2 := by rw [← q4]; exact q1
    subst hst
    have q2 : y.toInt = zl_ev s e2 := q2 (zz_beq a1)
    have q5 : x.toInt = zl_ev s e1 := q5 (zz_beq a2)
    have z1 := zl_nul_ok (s := s) b1
    have z2 := zl_en_ok g4 g5 b2
    have z3 := zl_en_ok g4 g5 b3
    rw [zl_sub_ev, zl_con_ev] at z1 z2
    rw [zl_add_ev, zl_con_ev] at z3
    have z4 := zk_nL1 (x := x) (by omega)
    exact ⟨s, _, ze_land rfl, rfl, ⟨g1, ⟨zk_v_lv (by rw [zk_land_m (by omega), zl_add_ev, zl_con_ev]; omega), q6⟩, g3, g4, g5, g6⟩, fun _ _ => rfl⟩
  · exact zt_land_ok h
end
end
section
/-! ABSTRACT FRAMES, on: a long that is not below 0, moved right by a number -/
noncomputable section
theorem zk_ofk63 {y : Int32} {k : Int} (h : y.toInt = k) (h0 : 0 ≤ k) (h1 : k ≤ 63) : y = Int32.ofNat k.toNat := by
  apply Int32.toInt_inj.mp
  rw [Int32.toInt_ofNat_of_lt (by omega), h]
  omega
theorem zk_lshr {x : Int64} {k : Nat} (hk : k < 64) : (x >>> ((Int32.ofNat k).toInt64 &&& 63)).toInt = x.toInt / (2 ^ k : Nat) := by
  have h2 : (x >>> ((Int32.ofNat k).toInt64 &&& 63)).toBitVec = x.toBitVec.sshiftRight k := by
    have e : ((Int32.ofNat k).toInt64 &&& 63).toBitVec.smod 64 = BitVec.ofNat 64 k := by
      revert k
      decide
    rw [Int64.toBitVec_shiftRight, e]
    show x.toBitVec.sshiftRight (BitVec.ofNat 64 k).toNat = _
    rw [BitVec.toNat_ofNat, Nat.mod_eq_of_lt (by omega)]
  show (x >>> ((Int32.ofNat k).toInt64 &&& 63)).toBitVec.toInt = x.toBitVec.toInt / (2 ^ k : Nat)
  rw [h2, BitVec.toInt_sshiftRight, Int.shiftRight_eq_div_pow]
def zt_lshr3 (hs : List (List Nat)) (A : zk_A) : Option zk_A := match A.2.1, (hs.getD 0 []).getD 0 0 with
  | (0, k2, e2) :: (1, k1, e1) :: r, 1 => match zl_c e2, zl_ub A.2.2.2.1 e1 with
    | some c, some u => cond (Nat.beq k1 1 && ((decide (0 ≤ c) && decide (c ≤ 62)) && (zl_en A.2.2.2.1 A.2.2.2.2 (hs.getD 1 []) e1 && (Nat.ble (zl_mx e1.2) A.2.2.2.1.length && zk_wf A.2.2.2.1.length A.1 r A.2.2.1 A.2.2.2.2))))
      (some (A.1, (1, 1, zl_sym A.2.2.2.1.length) :: r, A.2.2.1, A.2.2.2.1 ++ [(0, u / (2 ^ c.toNat : Nat))], zl_sub e1 (zl_mul (2 ^ c.toNat : Nat) (zl_sym A.2.2.2.1.length)) :: zl_sub (zl_add (zl_mul (2 ^ c.toNat : Nat) (zl_sym A.2.2.2.1.length)) (zl_con ((2 ^ c.toNat : Nat) - 1))) e1 :: A.2.2.2.2)) none
    | _, _ => none
  | _, _ => zt_LI A
theorem zt_lshr3_ok {I : zz_W → Prop} {A A' : zk_A} {n : Nat} {hs : List (List Nat)} (h : zt_lshr3 hs A = some A') : zk_S I (za_lshr n) n A A' := by
  unfold zt_lshr3 at h
  split at h
  · rename_i k2 e2 k1 e1 r hT _
    obtain ⟨L, T, F, B, C⟩ := A
    have hT : T = (0, k2, e2) :: (1, k1, e1) :: r := hT
    subst hT
    split at h
    · rename_i c u hc hu
      obtain ⟨hb, h⟩ := zz_cond h
      obtain ⟨b2, hb⟩ := zz_and hb
      obtain ⟨b3, hb⟩ := zz_and hb
      obtain ⟨b4, hb⟩ := zz_and hb
      obtain ⟨b5, b6⟩ := zz_and hb
      obtain ⟨b7, b8⟩ := zz_and b3
      have b7 := of_decide_eq_true b7
      have b8 := of_decide_eq_true b8
      have hu : zl_ub B e1 = some u := hu
      have hm0 : 0 < 2 ^ c.toNat := Nat.pos_of_ne_zero (by exact Nat.ne_of_gt (Nat.pow_pos (by decide)))
      generalize hm : 2 ^ c.toNat = m at h hm0
      cases h
      refine ⟨by show B.length ≤ (B ++ [(0, u / (m : Int))]).length; simp, fun K s f hG => ?_⟩
      obtain ⟨p, lv, st, w⟩ := f
      obtain ⟨g1, g2, g3, g4, g5, g6⟩ := hG
      obtain ⟨y, st1, q1, q2, q3⟩ := zk_st_int g2 rfl
      obtain ⟨x, st2, q4, q5, q6⟩ := zk_st_lv q3 rfl
      have hst : st = .int y :: .long x :: st2 := by rw [← q4]; exact q1
      subst hst
      have q2 : y.toInt = zl_ev s e2 := q2
      have q5 : x.toInt = zl_ev s e1 := q5 (zz_beq b2)
      rw [zl_c_ok (s := s) hc] at q2
      have hyk := zk_ofk63 q2 b7 (by omega)
      subst hyk
      have z1 := zl_en_ok g4 g5 b4
      have z2 := zl_ub_ok g4 hu
      have hq : (x >>> ((Int32.ofNat c.toNat).toInt64 &&& 63)).toInt = zl_ev s e1 / (m : Int) := by rw [zk_lshr (by omega), q5, hm]
      have hag : ∀ j, j < B.length → (fun j => if j = B.length then zl_ev s e1 / (m : Int) else s j) j = s j := fun j hj => if_neg (by omega)
      generalize hs' : (fun j => if j = B.length then zl_ev s e1 / (m : Int) else s j) = s' at hag
      have hsB : s' B.length = zl_ev s e1 / (m : Int) := by rw [← hs']; exact if_pos rfl
      obtain ⟨m1, m2, m3, m4⟩ := zk_wf_ok b6 hag g1 q6 g3 g5
      have he1 : zl_ev s' e1 = zl_ev s e1 := zl_ev_eq (n := B.length) (zz_ble b5) hag
      have hd1 := Int.mul_ediv_add_emod (zl_ev s e1) (m : Int)
      have hd2 := Int.emod_nonneg (zl_ev s e1) (b := (m : Int)) (by omega)
      have hd3 := Int.emod_lt_of_pos (zl_ev s e1) (show (0 : Int) < (m : Int) by omega)
      refine ⟨s', _, ze_lshr rfl, rfl, ⟨m1, ⟨zk_v_lv (by rw [zl_sym_ev, hsB]; exact hq), m2⟩, m3, zl_in_snoc (fun k q hk => ?_) ?_ ?_, fun c0 hc0 => ?_, g6⟩, hag⟩
      · have hk' : k < B.length := (List.getElem?_eq_some_iff.mp hk).1
        rw [hag k hk']
        exact g4 k q hk
      · rw [hsB]
        exact Int.ediv_nonneg z1 (by omega)
      · rw [hsB]
        exact Int.ediv_le_ediv (show (0 : Int) < (m : Int) by omega) z2
      · rcases List.mem_cons.mp hc0 with e | hc0
        · rw [e, zl_sub_ev, zl_mul_ev, zl_sym_ev, hsB, he1]
          omega
        · rcases List.mem_cons.mp hc0 with e | hc0
          · rw [e, zl_sub_ev, zl_add_ev, zl_mul_ev, zl_sym_ev, zl_con_ev, hsB, he1]
            omega
          · exact m4 c0 hc0
    · cases h
  · exact zt_lshr_ok h
end
end
section
/-! ABSTRACT FRAMES, on: longs: their lowest bits, moved left by a number, 'or' of two that lie apart -/
noncomputable section
theorem zk_nLi {x : Int64} (h : zz_nL x < 9223372036854775808) : x.toInt = (zz_nL x : Int) := by
  have h1 : x.toInt = x.toBitVec.toInt := rfl
  have h : x.toBitVec.toNat < 9223372036854775808 := h
  rw [h1, BitVec.toInt_eq_toNat_cond, if_pos (by omega)]
  rfl
theorem zk_land_k {x y : Int64} {k m : Nat} (hm : 2 ^ k = m) (h0 : 0 < m) (h1 : m ≤ 4611686018427387904) (hx : 0 ≤ x.toInt) (hy : y.toInt = (m : Int) - 1) : (x &&& y).toInt = x.toInt % (m : Int) := by
  have e2 : zz_nL y = m - 1 := by
    have := zk_nL0 (x := y) (by omega)
    omega
  have e1 : zz_nL (x &&& y) = zz_nL x % m := by
    show (x.toBitVec &&& y.toBitVec).toNat = _
    rw [BitVec.toNat_and]
    show zz_nL x &&& zz_nL y = _
    rw [e2, ← hm, Nat.and_two_pow_sub_one_eq_mod]
  have h3 : zz_nL x % m < m := Nat.mod_lt _ h0
  have h4 := zk_nL0 hx
  rw [zk_nLi (by rw [e1]; omega), e1, Int.natCast_emod, h4]
theorem zk_sh63 {k : Nat} (hk : k < 64) : ((Int32.ofNat k).toInt64 &&& 63).toBitVec.smod 64 = BitVec.ofNat 64 k := by
  revert k
  decide
theorem zk_lshl {x : Int64} {k m : Nat} (hk : k < 64) (hm : 2 ^ k = m) (hx : 0 ≤ x.toInt) (hb : (m : Int) * x.toInt ≤ 9223372036854775807) : (x <<< ((Int32.ofNat k).toInt64 &&& 63)).toInt = (m : Int) * x.toInt := by
  have h2 : (x <<< ((Int32.ofNat k).toInt64 &&& 63)).toBitVec = x.toBitVec <<< k := by
    rw [Int64.toBitVec_shiftLeft, zk_sh63 hk]
    show x.toBitVec <<< (BitVec.ofNat 64 k).toNat = _
    rw [BitVec.toNat_ofNat, Nat.mod_eq_of_lt (by omega)]
  have h3 := zk_nL0 hx
  have hc : ((m * zz_nL x : Nat) : Int) = (m : Int) * x.toInt := by rw [Int.natCast_mul, h3]
  have h4 : zz_nL (x <<< ((Int32.ofNat k).toInt64 &&& 63)) = m * zz_nL x := by
    show (x <<< ((Int32.ofNat k).toInt64 &&& 63)).toBitVec.toNat = _
    rw [h2, BitVec.toNat_shiftLeft, Nat.shiftLeft_eq, hm]
    show zz_nL x * m % 2 ^ 64 = _
    rw [Nat.mul_comm, Nat.mod_eq_of_lt (by omega)]
  rw [zk_nLi (by rw [h4]; omega), h4, hc]
theorem zk_lor_x {x y : Int64} {k m : Nat} (hm : 2 ^ k = m) (hx : 0 ≤ x.toInt) (hd : zz_nL x % m = 0) (hy : 0 ≤ y.toInt) (hy1 : y.toInt < (m : Int)) (hs : x.toInt + y.toInt ≤ 9223372036854775807) : (x ||| y).toInt = x.toInt + y.toInt := by
  have a := zk_nL0 hx
  have b := zk_nL0 hy
  have h3 : zz_nL (x ||| y) = zz_nL x ||| zz_nL y := by
    show (x.toBitVec ||| y.toBitVec).toNat = _
    rw [BitVec.toNat_or]
    rfl
  have h5 := Nat.div_add_mod (zz_nL x) m
  have h6 := Nat.two_pow_add_eq_or_of_lt (i := k) (b := zz_nL y) (by omega) (zz_nL x / m)
  rw [hd, Nat.add_zero] at h5
  rw [hm, h5] at h6
  rw [zk_nLi (by rw [h3, ← h6]; omega), h3, ← h6]
  omega
/-- the lowest bits of a long that is not below 0 (hint 3, how many) -/
def zt_land4 (hs : List (List Nat)) (A : zk_A) : Option zk_A := match A.2.1, (hs.getD 0 []).getD 0 0 with
  | (1, k2, e2) :: (1, k1, e1) :: r, 3 => match zl_ub A.2.2.2.1 e1 with
    | some u => cond ((Nat.beq k2 1 && Nat.beq k1 1) && ((zl_nul (zl_sub e2 (zl_con ((2 ^ ((hs.getD 0 []).getD 1 0) : Nat) - 1))) && Nat.ble ((hs.getD 0 []).getD 1 0) 62) && (zl_en A.2.2.2.1 A.2.2.2.2 (hs.getD 1 []) e1 && (Nat.ble (zl_mx e1.2) A.2.2.2.1.length && zk_wf A.2.2.2.1.length A.1 r A.2.2.1 A.2.2.2.2))))
      (some (A.1, (1, 1, zl_sub e1 (zl_mul (2 ^ ((hs.getD 0 []).getD 1 0) : Nat) (zl_sym A.2.2.2.1.length))) :: r, A.2.2.1, A.2.2.2.1 ++ [(0, u / (2 ^ ((hs.getD 0 []).getD 1 0) : Nat))], zl_sub e1 (zl_mul (2 ^ ((hs.getD 0 []).getD 1 0) : Nat) (zl_sym A.2.2.2.1.length)) :: zl_sub (zl_add (zl_mul (2 ^ ((hs.getD 0 []).getD 1 0) : Nat) (zl_sym A.2.2.2.1.length)) (zl_con ((2 ^ ((hs.getD 0 []).getD 1 0) : Nat) - 1))) e1 :: A.2.2.2.2)) none
    | none => none
  | _, _ => zt_land3 hs A
theorem zt_land4_ok {I : zz_W → Prop} {A A' : zk_A} {n : Nat} {hs : List (List Nat)} (h : zt_land4 hs A = some A') : zk_S I (za_land n) n A A' := by
  unfold zt_land4 at h
  split at h
  · rename_i k2 e2 k1 e1 r hT _
    obtain ⟨L, T, F, B, C⟩ := A
    have hT : T = (1, k2, e2) :: (1, k1, e1) :: r := hT
    subst hT
    split at h
    · rename_i u hu
      generalize (hs.getD 0 []).getD 1 0 = c at h
      obtain ⟨hb, h⟩ := zz_cond h
      obtain ⟨hb1, hb⟩ := zz_and hb
      obtain ⟨a1, a2⟩ := zz_and hb1
      obtain ⟨hb2, hb⟩ := zz_and hb
      obtain ⟨b2, b3⟩ := zz_and hb2
      obtain ⟨b4, hb⟩ := zz_and hb
      obtain ⟨b5, b6⟩ := zz_and hb
      have b3 := zz_ble b3
      have hu : zl_ub B e1 = some u := hu
      have hm0 : 0 < 2 ^ c := Nat.pow_pos (by decide)
      have hm1 : 2 ^ c ≤ 4611686018427387904 := Nat.le_trans (Nat.pow_le_pow_right (by decide) b3) (by decide)
      generalize hm : 2 ^ c = m at h hm0 hm1 b2
      cases h
      refine ⟨by show B.length ≤ (B ++ [(0, u / (m : Int))]).length; simp, fun K s f hG => ?_⟩
      obtain ⟨p, lv, st, w⟩ := f
      obtain ⟨g1, g2, g3, g4, g5, g6⟩ := hG
      obtain ⟨y, st1, q1, q2, q3⟩ := zk_st_lv g2 rfl
      obtain ⟨x, st2, q4, q5, q6⟩ := zk_st_lv q3 rfl
      have hst : st = .long y :: .long x :: st2 := by rw [← q4]; exact q1
      subst hst
      have q2 : y.toInt = zl_ev s e2 := q2 (zz_beq a1)
      have q5 : x.toInt = zl_ev s e1 := q5 (zz_beq a2)
      have z0 := zl_nul_ok (s := s) b2
      rw [zl_sub_ev, zl_con_ev] at z0
      have z1 := zl_en_ok g4 g5 b4
      have z2 := zl_ub_ok g4 hu
      have hq : (x &&& y).toInt = zl_ev s e1 % (m : Int) := by rw [zk_land_k hm hm0 hm1 (by omega) (by omega), q5]
      have hag : ∀ j, j < B.length → (fun j => if j = B.length then zl_ev s e1 / (m : Int) else s j) j = s j := fun j hj => if_neg (by omega)
      generalize hs' : (fun j => if j = B.length then zl_ev s e1 / (m : Int) else s j) = s' at hag
      have hsB : s' B.length = zl_ev s e1 / (m : Int) := by rw [← hs']; exact if_pos rfl
      obtain ⟨m1, m2, m3, m4⟩ := zk_wf_ok b6 hag g1 q6 g3 g5
      have he1 : zl_ev s' e1 = zl_ev s e1 := zl_ev_eq (n := B.length) (zz_ble b5) hag
      have hd1 := Int.mul_ediv_add_emod (zl_ev s e1) (m : Int)
      have hd2 := Int.emod_nonneg (zl_ev s e1) (b := (m : Int)) (by omega)
      have hd3 := Int.emod_lt_of_pos (zl_ev s e1) (show (0 : Int) < (m : Int) by omega)
      refine ⟨s', _, ze_land rfl, rfl, ⟨m1, ⟨zk_v_lv (by rw [zl_sub_ev, zl_mul_ev, zl_sym_ev, hsB, he1, hq]; omega), m2⟩, m3, zl_in_snoc (fun k q hk => ?_) ?_ ?_, fun c0 hc0 => ?_, g6⟩, hag⟩
      · have hk' : k < B.length := (List.getElem?_eq_some_iff.mp hk).1
        rw [hag k hk']
        exact g4 k q hk
      · rw [hsB]
        exact Int.ediv_nonneg z1 (by omega)
      · rw [hsB]
        exact Int.ediv_le_ediv (show (0 : Int) < (m : Int) by omega) z2
      · rcases List.mem_cons.mp hc0 with e | hc0
        · rw [e, zl_sub_ev, zl_mul_ev, zl_sym_ev, hsB, he1]
          omega
        · rcases List.mem_cons.mp hc0 with e | hc0
          · rw [e, zl_sub_ev, zl_add_ev, zl_mul_ev, zl_sym_ev, zl_con_ev, hsB, he1]
            omega
          · exact m4 c0 hc0
    · cases h
  · exact zt_land3_ok h
/-- a long that is not below 0, moved left by a number, within its bounds (hint 1) -/
def zt_lshl3 (hs : List (List Nat)) (A : zk_A) : Option zk_A := match A.2.1, (hs.getD 0 []).getD 0 0 with
  | (0, _, e2) :: (1, k1, e1) :: r, 1 => match zl_c e2 with
    | some c => cond (Nat.beq k1 1 && ((decide (0 ≤ c) && decide (c ≤ 62)) && (zl_en A.2.2.2.1 A.2.2.2.2 (hs.getD 1 []) e1 && zl_en A.2.2.2.1 A.2.2.2.2 (hs.getD 2 []) (zl_sub (zl_con 9223372036854775807) (zl_mul (2 ^ c.toNat : Nat) e1)))))
      (some (A.1, (1, 1, zl_mul (2 ^ c.toNat : Nat) e1) :: r, A.2.2.1, A.2.2.2.1, A.2.2.2.2)) none
    | none => none
  | _, _ => zt_LI A
theorem zt_lshl3_ok {I : zz_W → Prop} {A A' : zk_A} {n : Nat} {hs : List (List Nat)} (h : zt_lshl3 hs A = some A') : zk_S I (za_lshl n) n A A' := by
  unfold zt_lshl3 at h
  split at h
  · rename_i k2 e2 k1 e1 r hT _
    obtain ⟨L, T, F, B, C⟩ := A
    have hT : T = (0, k2, e2) :: (1, k1, e1) :: r := hT
    subst hT
    split at h
    · rename_i c hc
      obtain ⟨hb, h⟩ := zz_cond h
      obtain ⟨b2, hb⟩ := zz_and hb
      obtain ⟨b3, hb⟩ := zz_and hb
      obtain ⟨b4, b5⟩ := zz_and hb
      obtain ⟨b7, b8⟩ := zz_and b3
      have b7 := of_decide_eq_true b7
      have b8 := of_decide_eq_true b8
      generalize hm : 2 ^ c.toNat = m at h b5
      cases h
      refine ⟨Nat.le_refl _, fun K s f hG => ?_⟩
      obtain ⟨p, lv, st, w⟩ := f
      obtain ⟨g1, g2, g3, g4, g5, g6⟩ := hG
      obtain ⟨y, st1, q1, q2, q3⟩ := zk_st_int g2 rfl
      obtain ⟨x, st2, q4, q5, q6⟩ := zk_st_lv q3 rfl
      have hst : st = .int y :: .long x :: st2 := by rw [← q4]; exact q1
      subst hst
      have q2 : y.toInt = zl_ev s e2 := q2
      have q5 : x.toInt = zl_ev s e1 := q5 (zz_beq b2)
      rw [zl_c_ok (s := s) hc] at q2
      have hyk := zk_ofk63 q2 b7 (by omega)
      subst hyk
      have z1 := zl_en_ok g4 g5 b4
      have z2 := zl_en_ok g4 g5 b5
      rw [zl_sub_ev, zl_con_ev, zl_mul_ev] at z2
      exact ⟨s, _, ze_lshl rfl, rfl, ⟨g1, ⟨zk_v_lv (by rw [zk_lshl (by omega) hm (by omega) (by rw [q5]; omega), zl_mul_ev, q5]), q6⟩, g3, g4, g5, g6⟩, fun _ _ => rfl⟩
    · cases h
  · exact zt_lshl_ok h
/-- 'or' of a multiple of 2^k and what is below 2^k (hint 1, k; then hints for both) -/
def zt_lor3 (hs : List (List Nat)) (A : zk_A) : Option zk_A := match A.2.1, (hs.getD 0 []).getD 0 0 with
  | (1, k2, e2) :: (1, k1, e1) :: r, 1 => cond ((Nat.beq k2 1 && Nat.beq k1 1) && ((zl_md (2 ^ ((hs.getD 0 []).getD 1 0)) e2 && Nat.beq (Int.emod (zl_nv e2.1) ((2 ^ ((hs.getD 0 []).getD 1 0) : Nat) : Int)).toNat 0) && (zl_en A.2.2.2.1 A.2.2.2.2 (hs.getD 1 []) e2 && (zl_en A.2.2.2.1 A.2.2.2.2 (hs.getD 2 []) e1 && (zl_en A.2.2.2.1 A.2.2.2.2 (hs.getD 3 []) (zl_sub (zl_con ((2 ^ ((hs.getD 0 []).getD 1 0) : Nat) - 1)) e1) && zl_en A.2.2.2.1 A.2.2.2.2 (hs.getD 4 []) (zl_sub (zl_con 9223372036854775807) (zl_add e1 e2)))))))
      (some (A.1, (1, 1, zl_add e1 e2) :: r, A.2.2.1, A.2.2.2.1, A.2.2.2.2)) none
  | _, _ => zt_LL A
theorem zt_lor3_ok {I : zz_W → Prop} {A A' : zk_A} {n : Nat} {hs : List (List Nat)} (h : zt_lor3 hs A = some A') : zk_S I (za_lor n) n A A' := by
  unfold zt_lor3 at h
  split at h
  · rename_i k2 e2 k1 e1 r hT _
    obtain ⟨L, T, F, B, C⟩ := A
    have hT : T = (1, k2, e2) :: (1, k1, e1) :: r := hT
    subst hT
    generalize (hs.getD 0 []).getD 1 0 = k at h
    obtain ⟨hb, h⟩ := zz_cond h
    obtain ⟨hb1, hb⟩ := zz_and hb
    obtain ⟨a1, a2⟩ := zz_and hb1
    obtain ⟨hb2, hb⟩ := zz_and hb
    obtain ⟨b2, b3⟩ := zz_and hb2
    obtain ⟨b4, hb⟩ := zz_and hb
    obtain ⟨b5, hb⟩ := zz_and hb
    obtain ⟨b6, b7⟩ := zz_and hb
    cases h
    refine ⟨Nat.le_refl _, fun K s f hG => ?_⟩
    obtain ⟨p, lv, st, w⟩ := f
    obtain ⟨g1, g2, g3, g4, g5, g6⟩ := hG
    obtain ⟨y, st1, q1, q2, q3⟩ := zk_st_lv g2 rfl
    obtain ⟨x, st2, q4, q5, q6⟩ := zk_st_lv q3 rfl
    have hst : st = .long y :: .long x :: st2 := by rw [← q4]; exact q1
    subst hst
    have q2 : y.toInt = zl_ev s e2 := q2 (zz_beq a1)
    have q5 : x.toInt = zl_ev s e1 := q5 (zz_beq a2)
    have z1 := zl_en_ok g4 g5 b4
    have z2 := zl_en_ok g4 g5 b5
    have z3 := zl_en_ok g4 g5 b6
    have z4 := zl_en_ok g4 g5 b7
    rw [zl_sub_ev, zl_con_ev] at z3
    rw [zl_sub_ev, zl_con_ev, zl_add_ev] at z4
    have hn := zk_nL0 (x := y) (by omega)
    have hm := zl_md_ok (j := zz_nL y) (s := s) b2 (by omega)
    rw [zz_beq b3] at hm
    have hv : (x ||| y).toInt = zl_ev s e1 + zl_ev s e2 := by
      have hc : x ||| y = y ||| x := by
        apply Int64.toBitVec_inj.mp
        show x.toBitVec ||| y.toBitVec = y.toBitVec ||| x.toBitVec
        exact BitVec.or_comm _ _
      rw [hc, zk_lor_x (k := k) rfl (by omega) hm.symm (by omega) (by omega) (by omega), q2, q5]
      omega
    exact ⟨s, _, ze_lor rfl, rfl, ⟨g1, ⟨zk_v_lv (by rw [hv, zl_add_ev]), q6⟩, g3, g4, g5, g6⟩, fun _ _ => rfl⟩
  · exact zt_lor_ok h
end
end
section
/-! ABSTRACT FRAMES, on: a number's low bits; quotients and rests that are known already -/
noncomputable section
theorem zk_divu {e q m : Int} (hm : 0 < m) (h0 : 0 ≤ e - m * q) (h1 : 0 ≤ m * q + (m - 1) - e) : e / m = q ∧ e % m = e - m * q :=
  (Int.ediv_emod_unique hm).mpr ⟨by omega, h0, by omega⟩
/-- moved right by a number: the quotient is symbol j -/
def zt_ishr3 (hs : List (List Nat)) (A : zk_A) : Option zk_A := match A.2.1, hs.getD 3 [] with
  | (0, _, e2) :: (0, _, e1) :: r, j :: _ => match zl_kn A.2.2.2.1 A.2.2.2.2 hs e2 with
    | some k => cond ((decide (0 ≤ k) && decide (k ≤ 31)) && (zl_en A.2.2.2.1 A.2.2.2.2 (hs.getD 4 []) (zl_sub e1 (zl_mul (2 ^ k.toNat : Nat) (zl_sym j))) && zl_en A.2.2.2.1 A.2.2.2.2 (hs.getD 5 []) (zl_sub (zl_add (zl_mul (2 ^ k.toNat : Nat) (zl_sym j)) (zl_con ((2 ^ k.toNat : Nat) - 1))) e1))) (some (A.1, (0, 0, zl_sym j) :: r, A.2.2.1, A.2.2.2.1, A.2.2.2.2)) none
    | none => none
  | _, _ => zt_ishr2 hs A
theorem zt_ishr3_ok {I : zz_W → Prop} {A A' : zk_A} {n : Nat} {hs : List (List Nat)} (h : zt_ishr3 hs A = some A') : zk_S I (za_ishr n) n A A' := by
  unfold zt_ishr3 at h
  split at h
  · rename_i k2 e2 k1 e1 r j _ hT _
    split at h
    · rename_i k hk
      obtain ⟨hb, h⟩ := zz_cond h
      obtain ⟨hb1, hb2⟩ := zz_and hb
      obtain ⟨b1, b2⟩ := zz_and hb1
      obtain ⟨b3, b4⟩ := zz_and hb2
      have b1 := of_decide_eq_true b1
      have b2 := of_decide_eq_true b2
      cases h
      refine zk_2g hT (Nat.le_refl _) (fun x y => x >>> (y &&& 31)) (fun K p lv x y st w => ze_ishr rfl) (fun s lv st w x y h1 h2 h3 h4 h5 h6 hx hy => ?_)
      have hy := zk_ofk (hy.trans (zl_kn_ok h4 h5 hk)) b1 b2
      subst hy
      have c1 := zl_en_ok h4 h5 b3
      have c2 := zl_en_ok h4 h5 b4
      rw [zl_sub_ev, zl_mul_ev, zl_sym_ev] at c1
      rw [zl_sub_ev, zl_add_ev, zl_mul_ev, zl_sym_ev, zl_con_ev] at c2
      have hm : (0 : Int) < ((2 ^ k.toNat : Nat) : Int) := by
        have := Nat.two_pow_pos k.toNat
        omega
      have hd := (zk_divu hm c1 c2).1
      refine ⟨s, ⟨h1, ⟨zk_v_int ?_, h2⟩, h3, h4, h5, h6⟩, fun _ _ => rfl⟩
      show (x >>> (Int32.ofNat k.toNat &&& 31)).toInt = zl_ev s (zl_sym j)
      rw [zk_ishr (by omega), hx, hd, zl_sym_ev]
    · cases h
  · exact zt_ishr2_ok h
theorem zk_nIm {x : Int32} (h : x.toInt < 0) : (zz_nI x : Int) = x.toInt + 4294967296 := by
  have h1 : x.toInt = x.toBitVec.toInt := rfl
  have h2 : zz_nI x = x.toBitVec.toNat := rfl
  have h3 : x.toBitVec.toInt = if 2 * x.toBitVec.toNat < 2 ^ 32 then (x.toBitVec.toNat : Int) else (x.toBitVec.toNat : Int) - ((2 ^ 32 : Nat) : Int) := by rw [BitVec.toInt_eq_toNat_cond]
  have h4 : ((2 ^ 32 : Nat) : Int) = 4294967296 := by decide
  rw [h4] at h3
  rw [h1] at h ⊢
  rw [h2]
  split at h3
  · omega
  · omega
/-- moved right by a number, as a number that is not below 0: the quotient of what is moved is symbol j; 1 it is below 0; 2 moved by nothing -/
def zt_iushr3 (hs : List (List Nat)) (A : zk_A) : Option zk_A := match A.2.1, hs.getD 3 [] with
  | (0, _, e2) :: (0, _, e1) :: r, j :: f => match zl_kn A.2.2.2.1 A.2.2.2.2 hs e2 with
    | some k => cond (Nat.beq (f.getD 0 0) 2)
        (cond (decide (k = 0)) (some (A.1, (0, 0, e1) :: r, A.2.2.1, A.2.2.2.1, A.2.2.2.2)) none)
        (cond ((decide (1 ≤ k) && decide (k ≤ 31)) && (zl_pos A.2.2.2.1 (cond (Nat.beq (f.getD 0 0) 1) (zl_sub (zl_con (-1)) e1) e1) && (zl_en A.2.2.2.1 A.2.2.2.2 (hs.getD 4 []) (zl_sub e1 (zl_mul (2 ^ k.toNat : Nat) (zl_sym j))) && zl_en A.2.2.2.1 A.2.2.2.2 (hs.getD 5 []) (zl_sub (zl_add (zl_mul (2 ^ k.toNat : Nat) (zl_sym j)) (zl_con ((2 ^ k.toNat : Nat) - 1))) e1))))
          (some (A.1, (0, 0, zl_add (zl_sym j) (zl_con (cond (Nat.beq (f.getD 0 0) 1) (2 ^ (32 - k.toNat) : Nat) 0))) :: r, A.2.2.1, A.2.2.2.1, A.2.2.2.2)) none)
    | none => none
  | _, _ => zt_iushr2 hs A
theorem zt_iushr3_ok {I : zz_W → Prop} {A A' : zk_A} {n : Nat} {hs : List (List Nat)} (h : zt_iushr3 hs A = some A') : zk_S I (za_iushr n) n A A' := by
  unfold zt_iushr3 at h
  split at h
  · rename_i k2 e2 k1 e1 r j f hT _
    split at h
    · rename_i k hk
      cases hf2 : Nat.beq (f.getD 0 0) 2 with
      | true =>
        rw [hf2] at h
        obtain ⟨hb, h⟩ := zz_cond h
        have hb := of_decide_eq_true hb
        cases h
        refine zk_2g hT (Nat.le_refl _) (fun x y => (x.toUInt32 >>> (y.toUInt32 &&& Int32.toUInt32 31)).toInt32) (fun K p lv x y st w => ze_iushr rfl) (fun s lv st w x y h1 h2 h3 h4 h5 h6 hx hy => ?_)
        have hy := zk_ofk (hy.trans (zl_kn_ok h4 h5 hk)) (by omega) (by omega)
        subst hy
        have hv := zk_iushr (x := x) (k := k.toNat) (by omega)
        have hk0 : k.toNat = 0 := by omega
        refine ⟨s, ⟨h1, ⟨zk_v_int ?_, h2⟩, h3, h4, h5, h6⟩, fun _ _ => rfl⟩
        show (x.toUInt32 >>> ((Int32.ofNat k.toNat).toUInt32 &&& Int32.toUInt32 31)).toInt32.toInt = zl_ev s e1
        have he : (x.toUInt32 >>> ((Int32.ofNat k.toNat).toUInt32 &&& Int32.toUInt32 31)).toInt32 = x := by
          rw [← zz_nI_of (x.toUInt32 >>> ((Int32.ofNat k.toNat).toUInt32 &&& Int32.toUInt32 31)).toInt32, hv, hk0, Nat.pow_zero, Nat.div_one, zz_nI_of]
        rw [he]
        exact hx
      | false =>
        rw [hf2] at h
        obtain ⟨hb, h⟩ := zz_cond h
        obtain ⟨hb1, hb2⟩ := zz_and hb
        obtain ⟨b1, b2⟩ := zz_and hb1
        obtain ⟨bp, hb2⟩ := zz_and hb2
        obtain ⟨b3, b4⟩ := zz_and hb2
        have b1 := of_decide_eq_true b1
        have b2 := of_decide_eq_true b2
        cases h
        refine zk_2g hT (Nat.le_refl _) (fun x y => (x.toUInt32 >>> (y.toUInt32 &&& Int32.toUInt32 31)).toInt32) (fun K p lv x y st w => ze_iushr rfl) (fun s lv st w x y h1 h2 h3 h4 h5 h6 hx hy => ?_)
        have hy := zk_ofk (hy.trans (zl_kn_ok h4 h5 hk)) (by omega) b2
        subst hy
        have hp := zl_pos_ok h4 bp
        have c1 := zl_en_ok h4 h5 b3
        have c2 := zl_en_ok h4 h5 b4
        rw [zl_sub_ev, zl_mul_ev, zl_sym_ev] at c1
        rw [zl_sub_ev, zl_add_ev, zl_mul_ev, zl_sym_ev, zl_con_ev] at c2
        have hm : (0 : Int) < ((2 ^ k.toNat : Nat) : Int) := by
          have := Nat.two_pow_pos k.toNat
          omega
        have hd := (zk_divu hm c1 c2).1
        rw [← hx] at hd
        have hv := zk_iushr (x := x) (k := k.toNat) (by omega)
        have hlt : zz_nI x / 2 ^ k.toNat < 2 ^ (32 - k.toNat) := by
          rw [Nat.div_lt_iff_lt_mul (Nat.two_pow_pos _), ← Nat.pow_add, show 32 - k.toNat + k.toNat = 32 by omega]
          exact zz_nI_lt x
        have hle : 2 ^ (32 - k.toNat) ≤ 2 ^ 31 := Nat.pow_le_pow_right (by decide) (by omega)
        have hq : ((zz_nI x / 2 ^ k.toNat : Nat) : Int) = s j + (cond (Nat.beq (f.getD 0 0) 1) ((2 ^ (32 - k.toNat) : Nat) : Int) 0) := by
          rw [Int.natCast_ediv]
          cases hf1 : Nat.beq (f.getD 0 0) 1 with
          | true =>
            rw [hf1] at hp
            have hp : 0 ≤ zl_ev s (zl_sub (zl_con (-1)) e1) := hp
            rw [zl_sub_ev, zl_con_ev] at hp
            have e1 : (4294967296 : Int) = ((2 ^ k.toNat : Nat) : Int) * ((2 ^ (32 - k.toNat) : Nat) : Int) := by
              rw [← Int.natCast_mul, ← Nat.pow_add, show k.toNat + (32 - k.toNat) = 32 by omega]
              rfl
            rw [zk_nIm (x := x) (by omega), e1, Int.add_mul_ediv_left _ _ (by omega), hd]
            rfl
          | false =>
            rw [hf1] at hp
            have hp : 0 ≤ zl_ev s e1 := hp
            rw [zk_nI (x := x) (by omega), hd]
            show s j = s j + 0
            rw [Int.add_zero]
        refine ⟨s, ⟨h1, ⟨zk_v_int ?_, h2⟩, h3, h4, h5, h6⟩, fun _ _ => rfl⟩
        show (x.toUInt32 >>> ((Int32.ofNat k.toNat).toUInt32 &&& Int32.toUInt32 31)).toInt32.toInt = zl_ev s (zl_add (zl_sym j) (zl_con (cond (Nat.beq (f.getD 0 0) 1) (2 ^ (32 - k.toNat) : Nat) 0)))
        rw [zk_nIx (by rw [hv]; omega), hv, hq, zl_add_ev, zl_sym_ev, zl_con_ev]
    · cases h
  · exact zt_iushr2_ok h
theorem zk_and_md {x y : Int32} {m : Nat} (hm : m ≤ 31) (hy : y.toInt = (2 : Int) ^ m - 1) : (x &&& y).toInt = x.toInt % ((2 ^ m : Nat) : Int) := by
  have h2 : ((2 ^ m : Nat) : Int) = (2 : Int) ^ m := by rw [Int.natCast_pow]; rfl
  have hp := Nat.two_pow_pos m
  have e2 := zk_nI (x := y) (by omega)
  have e4 : zz_nI y = 2 ^ m - 1 := by omega
  have h3 := zk_and_bd (x := x) (y := y) (by omega)
  have e3 := zk_nI h3.1
  have e5 : zz_nI (x &&& y) = zz_nI x % 2 ^ m := by rw [zk_and_nI, e4, Nat.and_two_pow_sub_one_eq_mod]
  have e6 : x.toInt % ((2 ^ m : Nat) : Int) = ((zz_nI x % 2 ^ m : Nat) : Int) := by
    have h1 : x.toInt = x.toBitVec.toInt := rfl
    have hn : zz_nI x = x.toBitVec.toNat := rfl
    rw [h1, BitVec.toInt_eq_toNat_cond]
    split
    · rw [hn, Int.natCast_emod]
    · have hk : ((2 ^ 32 : Nat) : Int) = ((2 ^ m : Nat) : Int) * ((2 ^ (32 - m) : Nat) : Int) := by
        rw [← Int.natCast_mul, ← Nat.pow_add, show m + (32 - m) = 32 by omega]
      rw [hk, show (x.toBitVec.toNat : Int) - ((2 ^ m : Nat) : Int) * ((2 ^ (32 - m) : Nat) : Int) = (x.toBitVec.toNat : Int) + ((2 ^ m : Nat) : Int) * (-((2 ^ (32 - m) : Nat) : Int)) by rw [Int.mul_neg, Int.sub_eq_add_neg], Int.add_mul_emod_self_left, hn, Int.natCast_emod]
  rw [← e3, e5, e6]
/-- low bits: 4 a new quotient, 5 the quotient is symbol j -/
def zt_iand4 (hs : List (List Nat)) (A : zk_A) : Option zk_A := match A.2.1, (hs.getD 0 []).getD 0 0 with
  | (0, _, e2) :: (0, _, e1) :: r, 4 => cond (Nat.ble ((hs.getD 0 []).getD 1 0) 31 && (zl_nul (zl_sub e2 (zl_con ((2 : Int) ^ ((hs.getD 0 []).getD 1 0) - 1))) && Nat.ble (zl_mx e1.2) A.2.2.2.1.length))
      (match zk_new A r (-2147483648) 2147483647 with
        | some B => some (B.1, (0, 0, zl_sub e1 (zl_mul (2 ^ ((hs.getD 0 []).getD 1 0) : Nat) (zl_sym A.2.2.2.1.length))) :: r, B.2.2.1, B.2.2.2.1, zl_sub e1 (zl_mul (2 ^ ((hs.getD 0 []).getD 1 0) : Nat) (zl_sym A.2.2.2.1.length)) :: zl_sub (zl_add (zl_mul (2 ^ ((hs.getD 0 []).getD 1 0) : Nat) (zl_sym A.2.2.2.1.length)) (zl_con ((2 ^ ((hs.getD 0 []).getD 1 0) : Nat) - 1))) e1 :: B.2.2.2.2)
        | none => none) none
  | (0, _, e2) :: (0, _, e1) :: r, 5 => cond (Nat.ble ((hs.getD 0 []).getD 1 0) 31 && (zl_nul (zl_sub e2 (zl_con ((2 : Int) ^ ((hs.getD 0 []).getD 1 0) - 1))) && (zl_en A.2.2.2.1 A.2.2.2.2 (hs.getD 1 []) (zl_sub e1 (zl_mul (2 ^ ((hs.getD 0 []).getD 1 0) : Nat) (zl_sym ((hs.getD 0 []).getD 2 0)))) && zl_en A.2.2.2.1 A.2.2.2.2 (hs.getD 2 []) (zl_sub (zl_add (zl_mul (2 ^ ((hs.getD 0 []).getD 1 0) : Nat) (zl_sym ((hs.getD 0 []).getD 2 0))) (zl_con ((2 ^ ((hs.getD 0 []).getD 1 0) : Nat) - 1))) e1))))
      (some (A.1, (0, 0, zl_sub e1 (zl_mul (2 ^ ((hs.getD 0 []).getD 1 0) : Nat) (zl_sym ((hs.getD 0 []).getD 2 0)))) :: r, A.2.2.1, A.2.2.2.1, A.2.2.2.2)) none
  | (0, _, e2) :: (0, _, e1) :: r, 6 => cond (zl_nul (zl_sub e2 (zl_con (-4))) && Nat.ble (zl_mx e1.2) A.2.2.2.1.length)
      (match zk_new A r (zl_fl A.2.2.2.1 e1 4 (-2147483648)) (zl_fh A.2.2.2.1 e1 4 2147483647) with
        | some B => some (B.1, (0, 0, zl_mul 4 (zl_sym A.2.2.2.1.length)) :: r, B.2.2.1, B.2.2.2.1, zl_sub e1 (zl_mul 4 (zl_sym A.2.2.2.1.length)) :: zl_sub (zl_add (zl_mul 4 (zl_sym A.2.2.2.1.length)) (zl_con 3)) e1 :: B.2.2.2.2)
        | none => none) none
  | _, _ => zt_iand3 hs A
theorem zk_and_m4 {x y : Int32} (hy : y.toInt = -4) : (x &&& y).toInt = 4 * (x.toInt / 4) := by
  have ey : y = -4 := Int32.toInt_inj.mp (by rw [hy]; rfl)
  subst ey
  have h1 : (x &&& (3 : Int32)).toInt = x.toInt % 4 := zk_and_md (m := 2) (by decide) (by rfl)
  have h2 : x.toBitVec = (x.toBitVec &&& 3#32) + (x.toBitVec &&& (-4#32)) := by
    rw [BitVec.add_eq_or_of_and_eq_zero _ _ (by
      rw [← BitVec.and_assoc, BitVec.and_assoc x.toBitVec 3#32 x.toBitVec, BitVec.and_comm 3#32 x.toBitVec, ← BitVec.and_assoc, BitVec.and_assoc _ 3#32 (-4#32), show (3#32 &&& -4#32) = 0#32 from by decide, BitVec.and_zero])]
    rw [← BitVec.and_or_distrib_left, show (3#32 ||| -4#32) = BitVec.allOnes 32 from by decide, BitVec.and_allOnes]
  have h3 : x = (x &&& (3 : Int32)) + (x &&& (-4 : Int32)) := Int32.toBitVec_inj.mp h2
  have h4 : (x &&& (-4 : Int32)) = x - (x &&& (3 : Int32)) := by
    conv => rhs; lhs; rw [h3]
    rw [Int32.add_comm, Int32.add_sub_cancel]
  have h5 := zk_lo x
  have h6 := zk_hi x
  have h7 := Int.emod_nonneg x.toInt (show (4 : Int) ≠ 0 by decide)
  have h8 := Int.emod_lt_of_pos x.toInt (show (0 : Int) < 4 by decide)
  have h9 : (x - (x &&& (3 : Int32))).toInt = x.toInt - x.toInt % 4 := by
    rw [Int32.toInt_sub, h1]
    exact Int.bmod_eq_of_le (by omega) (by omega)
  rw [h4, h9]
  omega
theorem zt_iand4_ok {I : zz_W → Prop} {A A' : zk_A} {n : Nat} {hs : List (List Nat)} (h : zt_iand4 hs A = some A') : zk_S I (za_iand n) n A A' := by
  obtain ⟨L, T, F, B, C⟩ := A
  unfold zt_iand4 at h
  split at h
  · rename_i k2 e2 k1 e1 r hT _
    have hT : T = (0, k2, e2) :: (0, k1, e1) :: r := hT
    subst hT
    generalize (hs.getD 0 []).getD 1 0 = m at h
    obtain ⟨hb, h⟩ := zz_cond h
    obtain ⟨b1, hb⟩ := zz_and hb
    obtain ⟨b2, b3⟩ := zz_and hb
    split at h
    · rename_i A1 hA1
      cases h
      have hl := zk_new_len hA1
      refine ⟨hl, fun K s f hG => ?_⟩
      obtain ⟨p, lv, st, w⟩ := f
      obtain ⟨g1, g2, g3, g4, g5, g6⟩ := hG
      obtain ⟨y, st1, q1, q2, q3⟩ := zk_st_int g2 rfl
      obtain ⟨x, st2, q4, q5, q6⟩ := zk_st_int q3 rfl
      have hst : st = .int y :: .int x :: st2 := by rw [← q4]; exact q1
      subst hst
      have z1 := zl_nul_ok (s := s) b2
      rw [zl_sub_ev, zl_con_ev] at z1
      have q2 : y.toInt = zl_ev s e2 := q2
      have q5 : x.toInt = zl_ev s e1 := q5
      have hm := zz_ble b1
      have hmd := zk_and_md (x := x) (y := y) hm (by omega)
      have hp : (1 : Int) ≤ ((2 ^ m : Nat) : Int) := by
        have := Nat.two_pow_pos m
        omega
      generalize hc : ((2 ^ m : Nat) : Int) = c at hmd hp ⊢
      have d1 := Int.mul_ediv_add_emod x.toInt c
      have d2 := Int.emod_nonneg x.toInt (show c ≠ 0 by omega)
      have d3 := Int.emod_lt_of_pos x.toInt (show 0 < c by omega)
      have l1 : (-2147483648 : Int) ≤ x.toInt / c := by
        have h1 : (-2147483648 : Int) / c ≤ x.toInt / c := Int.ediv_le_ediv (by omega) (zk_lo x)
        have h2 : (-2147483648 : Int) ≤ (-2147483648 : Int) / c := by
          refine Int.le_ediv_of_mul_le (by omega) ?_
          have : (2147483648 : Int) * 1 ≤ 2147483648 * c := Int.mul_le_mul_of_nonneg_left hp (by decide)
          omega
        omega
      have l2 : x.toInt / c ≤ (2147483647 : Int) := by
        have h1 : x.toInt / c ≤ (2147483647 : Int) / c := Int.ediv_le_ediv (by omega) (zk_hi x)
        have h2 : (2147483647 : Int) / c ≤ 2147483647 := Int.ediv_le_self _ (by decide)
        omega
      have hv : (Int32.ofInt (x.toInt / c)).toInt = x.toInt / c := Int32.toInt_ofInt_of_le (by omega) (by omega)
      obtain ⟨-, s', hg, hs'⟩ := zk_new_ok (I := I) (x := Int32.ofInt (x.toInt / c)) (n := n) (w := w) (lv := lv) hA1 g1 q6 g3 g4 g5 g6 (by rw [hv]; exact l1) (by rw [hv]; exact l2)
      obtain ⟨j1, j2, j3, j4, j5, j6⟩ := hg
      have hA1T : A1.2.1 = (0, 0, zl_sym B.length) :: r := by
        obtain ⟨-, hA1⟩ := zz_cond hA1
        cases hA1
        rfl
      rw [hA1T] at j2
      have hsym : x.toInt / c = s' B.length := by
        obtain ⟨z, z1, z2⟩ := j2.1.1 rfl
        cases z1
        have z2 : (Int32.ofInt (x.toInt / c)).toInt = zl_ev s' (zl_sym B.length) := z2
        rw [zl_sym_ev, hv] at z2
        exact z2
      have he1 : zl_ev s' e1 = x.toInt := by
        rw [zl_ev_eq (t := s) (n := B.length) (zz_ble b3) hs']
        exact q5.symm
      rw [hsym] at d1
      refine ⟨s', _, ze_iand rfl, rfl, ⟨j1, ⟨zk_v_int ?_, j2.2⟩, j3, j4, fun e he => ?_, j6⟩, hs'⟩
      · rw [hmd, zl_sub_ev, zl_mul_ev, zl_sym_ev, he1]
        show x.toInt % c = x.toInt - c * s' B.length
        omega
      · rcases List.mem_cons.mp he with e0 | he
        · rw [e0, zl_sub_ev, zl_mul_ev, zl_sym_ev, he1]
          show 0 ≤ x.toInt - c * s' B.length
          omega
        · rcases List.mem_cons.mp he with e0 | he
          · rw [e0, zl_sub_ev, zl_add_ev, zl_mul_ev, zl_sym_ev, zl_con_ev, he1]
            show 0 ≤ c * s' B.length + (c - 1) - x.toInt
            omega
          · exact j5 e he
    · cases h
  · rename_i k2 e2 k1 e1 r hT _
    have hT : T = (0, k2, e2) :: (0, k1, e1) :: r := hT
    subst hT
    generalize (hs.getD 0 []).getD 1 0 = m at h
    generalize (hs.getD 0 []).getD 2 0 = j at h
    obtain ⟨hb, h⟩ := zz_cond h
    obtain ⟨b1, hb⟩ := zz_and hb
    obtain ⟨b2, hb⟩ := zz_and hb
    obtain ⟨b3, b4⟩ := zz_and hb
    cases h
    refine ⟨Nat.le_refl _, fun K s f hG => ?_⟩
    obtain ⟨p, lv, st, w⟩ := f
    obtain ⟨g1, g2, g3, g4, g5, g6⟩ := hG
    obtain ⟨y, st1, q1, q2, q3⟩ := zk_st_int g2 rfl
    obtain ⟨x, st2, q4, q5, q6⟩ := zk_st_int q3 rfl
    have hst : st = .int y :: .int x :: st2 := by rw [← q4]; exact q1
    subst hst
    have z1 := zl_nul_ok (s := s) b2
    rw [zl_sub_ev, zl_con_ev] at z1
    have q2 : y.toInt = zl_ev s e2 := q2
    have q5 : x.toInt = zl_ev s e1 := q5
    have hmd := zk_and_md (x := x) (y := y) (zz_ble b1) (by omega)
    have c1 := zl_en_ok g4 g5 b3
    have c2 := zl_en_ok g4 g5 b4
    rw [zl_sub_ev, zl_mul_ev, zl_sym_ev] at c1
    rw [zl_sub_ev, zl_add_ev, zl_mul_ev, zl_sym_ev, zl_con_ev] at c2
    have hm : (0 : Int) < ((2 ^ m : Nat) : Int) := by
      have := Nat.two_pow_pos m
      omega
    have hd := (zk_divu hm c1 c2).2
    refine ⟨s, _, ze_iand rfl, rfl, ⟨g1, ⟨zk_v_int ?_, q6⟩, g3, g4, g5, g6⟩, fun _ _ => rfl⟩
    rw [hmd, q5, hd, zl_sub_ev, zl_mul_ev, zl_sym_ev]
  · rename_i k2 e2 k1 e1 r hT _
    have hT : T = (0, k2, e2) :: (0, k1, e1) :: r := hT
    subst hT
    obtain ⟨hb, h⟩ := zz_cond h
    obtain ⟨b2, b3⟩ := zz_and hb
    split at h
    · rename_i A1 hA1
      cases h
      have hl := zk_new_len hA1
      refine ⟨hl, fun K s f hG => ?_⟩
      obtain ⟨p, lv, st, w⟩ := f
      obtain ⟨g1, g2, g3, g4, g5, g6⟩ := hG
      obtain ⟨y, st1, q1, q2, q3⟩ := zk_st_int g2 rfl
      obtain ⟨x, st2, q4, q5, q6⟩ := zk_st_int q3 rfl
      have hst : st = .int y :: .int x :: st2 := by rw [← q4]; exact q1
      subst hst
      have z1 := zl_nul_ok (s := s) b2
      rw [zl_sub_ev, zl_con_ev] at z1
      have q2 : y.toInt = zl_ev s e2 := q2
      have q5 : x.toInt = zl_ev s e1 := q5
      have hmd := zk_and_m4 (x := x) (y := y) (by omega)
      have x1 := zk_lo x
      have x2 := zk_hi x
      have hv : (Int32.ofInt (x.toInt / 4)).toInt = x.toInt / 4 := Int32.toInt_ofInt_of_le (by omega) (by omega)
      obtain ⟨-, s', hg, hs'⟩ := zk_new_ok (I := I) (x := Int32.ofInt (x.toInt / 4)) (n := n) (w := w) (lv := lv) hA1 g1 q6 g3 g4 g5 g6 (by rw [hv, q5]; exact zl_fl_ok g4 (by decide) (by rw [← q5]; omega)) (by rw [hv, q5]; exact zl_fh_ok g4 (by decide) (by rw [← q5]; omega))
      obtain ⟨j1, j2, j3, j4, j5, j6⟩ := hg
      have hA1T : A1.2.1 = (0, 0, zl_sym B.length) :: r := by
        obtain ⟨-, hA1⟩ := zz_cond hA1
        cases hA1
        rfl
      rw [hA1T] at j2
      have hsym : x.toInt / 4 = s' B.length := by
        obtain ⟨z, z1, z2⟩ := j2.1.1 rfl
        cases z1
        have z2 : (Int32.ofInt (x.toInt / 4)).toInt = zl_ev s' (zl_sym B.length) := z2
        rw [zl_sym_ev, hv] at z2
        exact z2
      have he1 : zl_ev s' e1 = x.toInt := by
        rw [zl_ev_eq (t := s) (n := B.length) (zz_ble b3) hs']
        exact q5.symm
      refine ⟨s', _, ze_iand rfl, rfl, ⟨j1, ⟨zk_v_int ?_, j2.2⟩, j3, j4, fun e he => ?_, j6⟩, hs'⟩
      · rw [hmd, zl_mul_ev, zl_sym_ev, hsym]
      · rcases List.mem_cons.mp he with e0 | he
        · rw [e0, zl_sub_ev, zl_mul_ev, zl_sym_ev, he1]
          show 0 ≤ x.toInt - 4 * s' B.length
          omega
        · rcases List.mem_cons.mp he with e0 | he
          · rw [e0, zl_sub_ev, zl_add_ev, zl_mul_ev, zl_sym_ev, zl_con_ev, he1]
            show 0 ≤ 4 * s' B.length + 3 - x.toInt
            omega
          · exact j5 e he
    · cases h
  · exact zt_iand3_ok h
/-- divided by a number: the quotient is symbol j -/
def zt_idiv3 (hs : List (List Nat)) (A : zk_A) : Option zk_A := match A.2.1, (hs.getD 0 []).getD 0 0 with
  | (0, _, e2) :: (0, _, e1) :: r, 1 => match zl_c e2 with
    | some c => cond (decide (0 < c) && (zl_en A.2.2.2.1 A.2.2.2.2 (hs.getD 1 []) e1 && (zl_en A.2.2.2.1 A.2.2.2.2 (hs.getD 2 []) (zl_sub e1 (zl_mul c (zl_sym ((hs.getD 0 []).getD 1 0)))) && zl_en A.2.2.2.1 A.2.2.2.2 (hs.getD 3 []) (zl_sub (zl_add (zl_mul c (zl_sym ((hs.getD 0 []).getD 1 0))) (zl_con (c - 1))) e1)))) (some (A.1, (0, 0, zl_sym ((hs.getD 0 []).getD 1 0)) :: r, A.2.2.1, A.2.2.2.1, A.2.2.2.2)) none
    | none => none
  | _, _ => zt_idiv2 A
theorem zt_idiv3_ok {I : zz_W → Prop} {A A' : zk_A} {n : Nat} {hs : List (List Nat)} (h : zt_idiv3 hs A = some A') : zk_S I (za_idiv n) n A A' := by
  obtain ⟨L, T, F, B, C⟩ := A
  unfold zt_idiv3 at h
  split at h
  · rename_i k2 e2 k1 e1 r hT _
    have hT : T = (0, k2, e2) :: (0, k1, e1) :: r := hT
    subst hT
    generalize (hs.getD 0 []).getD 1 0 = j at h
    split at h
    · rename_i c hc
      obtain ⟨hb, h⟩ := zz_cond h
      obtain ⟨b1, hb⟩ := zz_and hb
      obtain ⟨b2, hb⟩ := zz_and hb
      obtain ⟨b3, b4⟩ := zz_and hb
      have b1 := of_decide_eq_true b1
      cases h
      refine ⟨Nat.le_refl _, fun K s f hG => ?_⟩
      obtain ⟨p, lv, st, w⟩ := f
      obtain ⟨g1, g2, g3, g4, g5, g6⟩ := hG
      obtain ⟨y, st1, q1, q2, q3⟩ := zk_st_int g2 rfl
      obtain ⟨x, st2, q4, q5, q6⟩ := zk_st_int q3 rfl
      have hst : st = .int y :: .int x :: st2 := by rw [← q4]; exact q1
      subst hst
      have q2 : y.toInt = zl_ev s e2 := q2
      have q5 : x.toInt = zl_ev s e1 := q5
      rw [zl_c_ok (s := s) hc] at q2
      have c0 := zl_en_ok g4 g5 b2
      have c1 := zl_en_ok g4 g5 b3
      have c2 := zl_en_ok g4 g5 b4
      rw [zl_sub_ev, zl_mul_ev, zl_sym_ev] at c1
      rw [zl_sub_ev, zl_add_ev, zl_mul_ev, zl_sym_ev, zl_con_ev] at c2
      have hyn : ¬ y = 0 := by
        intro e
        rw [e] at q2
        have : (0 : Int32).toInt = 0 := rfl
        omega
      have hd := (zk_divu b1 c1 c2).1
      refine ⟨s, _, ze_idiv hyn rfl, rfl, ⟨g1, ⟨zk_v_int ?_, q6⟩, g3, g4, g5, g6⟩, fun _ _ => rfl⟩
      rw [zk_div q2 b1, q5, Int.tdiv_eq_ediv_of_nonneg c0, hd, zl_sym_ev]
    · cases h
  · exact zt_idiv2_ok h
/-- the rest by a number: the quotient is symbol j -/
def zt_irem4 (hs : List (List Nat)) (A : zk_A) : Option zk_A := match A.2.1, (hs.getD 0 []).getD 1 0 with
  | (0, _, e2) :: (0, _, e1) :: r, 1 => match zl_c e2 with
    | some c => cond (decide (0 < c) && (zl_en A.2.2.2.1 A.2.2.2.2 (hs.getD 1 []) e1 && (zl_en A.2.2.2.1 A.2.2.2.2 (hs.getD 2 []) (zl_sub e1 (zl_mul c (zl_sym ((hs.getD 0 []).getD 2 0)))) && zl_en A.2.2.2.1 A.2.2.2.2 (hs.getD 3 []) (zl_sub (zl_add (zl_mul c (zl_sym ((hs.getD 0 []).getD 2 0))) (zl_con (c - 1))) e1)))) (some (A.1, (0, 0, zl_sub e1 (zl_mul c (zl_sym ((hs.getD 0 []).getD 2 0)))) :: r, A.2.2.1, A.2.2.2.1, A.2.2.2.2)) none
    | none => none
  | _, _ => zt_irem3 hs A
theorem zt_irem4_ok {I : zz_W → Prop} {A A' : zk_A} {n : Nat} {hs : List (List Nat)} (h : zt_irem4 hs A = some A') : zk_S I (za_irem n) n A A' := by
  obtain ⟨L, T, F, B, C⟩ := A
  unfold zt_irem4 at h
  split at h
  · rename_i k2 e2 k1 e1 r hT _
    have hT : T = (0, k2, e2) :: (0, k1, e1) :: r := hT
    subst hT
    generalize (hs.getD 0 []).getD 2 0 = j at h
    split at h
    · rename_i c hc
      obtain ⟨hb, h⟩ := zz_cond h
      obtain ⟨b1, hb⟩ := zz_and hb
      obtain ⟨b2, hb⟩ := zz_and hb
      obtain ⟨b3, b4⟩ := zz_and hb
      have b1 := of_decide_eq_true b1
      cases h
      refine ⟨Nat.le_refl _, fun K s f hG => ?_⟩
      obtain ⟨p, lv, st, w⟩ := f
      obtain ⟨g1, g2, g3, g4, g5, g6⟩ := hG
      obtain ⟨y, st1, q1, q2, q3⟩ := zk_st_int g2 rfl
      obtain ⟨x, st2, q4, q5, q6⟩ := zk_st_int q3 rfl
      have hst : st = .int y :: .int x :: st2 := by rw [← q4]; exact q1
      subst hst
      have q2 : y.toInt = zl_ev s e2 := q2
      have q5 : x.toInt = zl_ev s e1 := q5
      rw [zl_c_ok (s := s) hc] at q2
      have c0 := zl_en_ok g4 g5 b2
      have c1 := zl_en_ok g4 g5 b3
      have c2 := zl_en_ok g4 g5 b4
      rw [zl_sub_ev, zl_mul_ev, zl_sym_ev] at c1
      rw [zl_sub_ev, zl_add_ev, zl_mul_ev, zl_sym_ev, zl_con_ev] at c2
      have hyn : ¬ y = 0 := by
        intro e
        rw [e] at q2
        have : (0 : Int32).toInt = 0 := rfl
        omega
      have hd := (zk_divu b1 c1 c2).2
      refine ⟨s, _, ze_irem hyn rfl, rfl, ⟨g1, ⟨zk_v_int ?_, q6⟩, g3, g4, g5, g6⟩, fun _ _ => rfl⟩
      rw [zk_rem q2 b1, q5, Int.tmod_eq_emod_of_nonneg c0, hd, zl_sub_ev, zl_mul_ev, zl_sym_ev]
    · cases h
  · exact zt_irem3_ok h
/-- a place of a constant row of ints -/
def zk_kb (h : List Nat) (k : Nat) : Int := (h.getD k 0 : Int) - 2147483648
def zt_kl (S2 : zz_Lr) (hs : List (List Nat)) (A : zk_A) : Option zk_A := match A.2.1 with
  | (0, _, e) :: (2, i, _) :: r => match zz_k2 S2 i with
    | some q => cond (zk_ix A (hs.getD 1 []) (hs.getD 2 []) e q.1 && ((Nat.blt q.1 2147483648 && not (Nat.beq (zz_at 32 q.2 q.1) 1)) && (List.range q.1).all (fun j => decide (zk_kb (hs.getD 0 []) 0 ≤ (Int32.ofNat (zz_at 32 q.2 j)).toInt) && decide ((Int32.ofNat (zz_at 32 q.2 j)).toInt ≤ zk_kb (hs.getD 0 []) 1)))) (zk_new A r (zk_kb (hs.getD 0 []) 0) (zk_kb (hs.getD 0 []) 1)) none
    | none => none
  | _ => none
theorem zt_kl_ok {S2 : zz_Lr} {I : zz_W → Prop} {A A' : zk_A} {n : Nat} {hs : List (List Nat)} (h : zt_kl S2 hs A = some A') : zk_S I (za_kl (zz_ki S2) n) n A A' := by
  obtain ⟨L, T, F, B, C⟩ := A
  unfold zt_kl at h
  split at h
  · rename_i d0 e i e0 r hT
    have hT : T = (0, d0, e) :: (2, i, e0) :: r := hT
    subst hT
    split at h
    · rename_i q hq
      obtain ⟨hb, h⟩ := zz_cond h
      obtain ⟨b1, hb⟩ := zz_and hb
      obtain ⟨b2, b3⟩ := zz_and hb
      obtain ⟨b4, b5⟩ := zz_and b2
      refine ⟨zk_new_len h, fun K s f hG => ?_⟩
      obtain ⟨p, lv, st, w⟩ := f
      obtain ⟨g1, g2, g3, g4, g5, g6⟩ := hG
      obtain ⟨j, st1, q1, q2, q3⟩ := zk_st_int g2 rfl
      obtain ⟨v, st2, q4, q5, q6⟩ := zk_st_cons q3
      have e3 : v = .ref i := q5.2.2.1 rfl
      subst e3
      have hst : st = .int j :: .ref i :: st2 := by rw [← q4]; exact q1
      subst hst
      have hj := zk_ix_ok b1 g4 g5 q2
      have hv : zz_ki S2 i (zz_nI j) = some (zz_at 32 q.2 (zz_nI j)) := by
        unfold zz_ki
        rw [hq]
        show cond (Nat.blt (zz_nI j) q.1 && Nat.blt q.1 2147483648 && not (Nat.beq (zz_at 32 q.2 q.1) 1)) (some (zz_at 32 q.2 (zz_nI j))) none = _
        rw [show Nat.blt (zz_nI j) q.1 = true from Nat.ble_eq.mpr hj, b4, b5]
        rfl
      have hr := List.all_eq_true.mp b3 (zz_nI j) (List.mem_range.mpr hj)
      obtain ⟨r1, r2⟩ := zz_and hr
      have r1 := of_decide_eq_true r1
      have r2 := of_decide_eq_true r2
      obtain ⟨-, s', hg, hs'⟩ := zk_new_ok (I := I) (x := Int32.ofNat (zz_at 32 q.2 (zz_nI j))) (n := n) (w := w) (lv := lv) h g1 q6 g3 g4 g5 g6 r1 r2
      exact ⟨s', _, ze_kl hv rfl, rfl, hg, hs'⟩
    · cases h
  · cases h
theorem zk_c16 (x : Int32) : 0 ≤ ((x.toUInt32 % 65536).toInt32).toInt ∧ ((x.toUInt32 % 65536).toInt32).toInt ≤ 65535 := by
  have h1 : zz_nI (x.toUInt32 % 65536).toInt32 = zz_nI x % 65536 := by
    show (x.toUInt32 % 65536).toNat = _
    rw [UInt32.toNat_mod]
    rfl
  have h2 : zz_nI x % 65536 < 65536 := Nat.mod_lt _ (by decide)
  rw [zk_nIx (by rw [h1]; omega), h1]
  omega
theorem zt_i2c_ok {I : zz_W → Prop} {A A' : zk_A} {n : Nat} (h : zt_1b (fun _ _ => (0, 65535)) A = some A') : zk_S I (za_i2c n) n A A' := zt_1b_ok (g := fun x => (x.toUInt32 % 65536).toInt32) (fun K p lv x r w => ze_i2c rfl) (fun _ _ x _ _ _ => zk_c16 x) h
/-- or, the low bits apart: the sum -/
theorem zk_or_x {x y : Int32} {k : Nat} (hk : k ≤ 31) (hx : 0 ≤ x.toInt) (hm : zz_nI x % 2 ^ k = 0) (hy : 0 ≤ y.toInt) (hy2 : y.toInt < ((2 ^ k : Nat) : Int)) : (x ||| y).toInt = x.toInt + y.toInt := by
  have h1 := zk_nI hx
  have h2 := zk_nI hy
  have h3 : zz_nI (x ||| y) = zz_nI x ||| zz_nI y := by
    unfold zz_nI
    rw [Int32.toBitVec_or, BitVec.toNat_or]
  have hx2 := zk_hi x
  have hy3 := zk_hi y
  have h4 : zz_nI x ||| zz_nI y < 2 ^ 31 := Nat.or_lt_two_pow (by omega) (by omega)
  have h5 := Nat.div_add_mod (zz_nI x) (2 ^ k)
  have h6 := Nat.two_pow_add_eq_or_of_lt (i := k) (b := zz_nI y) (by omega) (zz_nI x / 2 ^ k)
  rw [hm, Nat.add_zero] at h5
  rw [h5] at h6
  rw [zk_nIx (by rw [h3]; omega), h3, ← h6]
  omega
def zt_ior3 (hs : List (List Nat)) (A : zk_A) : Option zk_A := match A.2.1, hs.getD 1 [] with
  | (0, _, e2) :: (0, _, e1) :: r, k :: _ => cond ((Nat.ble k 31 && (zl_md (2 ^ k) e1 && Nat.beq (Int.emod (zl_nv e1.1) ((2 ^ k : Nat) : Int)).toNat 0)) && (zl_en A.2.2.2.1 A.2.2.2.2 (hs.getD 2 []) e1 && (zl_en A.2.2.2.1 A.2.2.2.2 (hs.getD 3 []) e2 && zl_en A.2.2.2.1 A.2.2.2.2 (hs.getD 4 []) (zl_sub (zl_con (((2 ^ k : Nat) : Int) - 1)) e2)))) (some (A.1, (0, 0, zl_add e1 e2) :: r, A.2.2.1, A.2.2.2.1, A.2.2.2.2)) none
  | _, _ => zt_2b (zk_bdOr ((hs.getD 0 []).getD 0 0)) A
theorem zt_ior3_ok {I : zz_W → Prop} {A A' : zk_A} {n : Nat} {hs : List (List Nat)} (h : zt_ior3 hs A = some A') : zk_S I (za_ior n) n A A' := by
  unfold zt_ior3 at h
  split at h
  · rename_i k2 e2 k1 e1 r k _ hT _
    obtain ⟨hb, h⟩ := zz_cond h
    obtain ⟨hb1, hb2⟩ := zz_and hb
    obtain ⟨b1, hb1⟩ := zz_and hb1
    obtain ⟨b2, b3⟩ := zz_and hb1
    obtain ⟨b4, hb2⟩ := zz_and hb2
    obtain ⟨b5, b6⟩ := zz_and hb2
    cases h
    refine zk_2g hT (Nat.le_refl _) (fun x y => x ||| y) (fun K p lv x y st w => ze_ior rfl) (fun s lv st w x y h1 h2 h3 h4 h5 h6 hx hy => ?_)
    have c1 := zl_en_ok h4 h5 b4
    have c2 := zl_en_ok h4 h5 b5
    have c3 := zl_en_ok h4 h5 b6
    rw [zl_sub_ev, zl_con_ev] at c3
    have hn := zk_nI (x := x) (by omega)
    have hm := zl_md_ok (j := zz_nI x) (s := s) b2 (by omega)
    rw [zz_beq b3] at hm
    refine ⟨s, ⟨h1, ⟨zk_v_int ?_, h2⟩, h3, h4, h5, h6⟩, fun _ _ => rfl⟩
    show (x ||| y).toInt = zl_ev s (zl_add e1 e2)
    rw [zk_or_x (zz_ble b1) (by omega) hm.symm (by omega) (by omega), zl_add_ev, hx, hy]
  · exact zt_ior2_ok h
/-- low bits: 7 the quotient is symbol j and c -/
def zt_iand5 (hs : List (List Nat)) (A : zk_A) : Option zk_A := match A.2.1, (hs.getD 0 []).getD 0 0 with
  | (0, _, e2) :: (0, _, e1) :: r, 7 => cond (Nat.ble ((hs.getD 0 []).getD 1 0) 31 && (zl_nul (zl_sub e2 (zl_con ((2 : Int) ^ ((hs.getD 0 []).getD 1 0) - 1))) && (zl_en A.2.2.2.1 A.2.2.2.2 (hs.getD 1 []) (zl_sub e1 (zl_mul (2 ^ ((hs.getD 0 []).getD 1 0) : Nat) (zl_add (zl_sym ((hs.getD 0 []).getD 2 0)) (zl_con ((hs.getD 0 []).getD 3 0 : Nat))))) && zl_en A.2.2.2.1 A.2.2.2.2 (hs.getD 2 []) (zl_sub (zl_add (zl_mul (2 ^ ((hs.getD 0 []).getD 1 0) : Nat) (zl_add (zl_sym ((hs.getD 0 []).getD 2 0)) (zl_con ((hs.getD 0 []).getD 3 0 : Nat)))) (zl_con ((2 ^ ((hs.getD 0 []).getD 1 0) : Nat) - 1))) e1))))
      (some (A.1, (0, 0, zl_sub e1 (zl_mul (2 ^ ((hs.getD 0 []).getD 1 0) : Nat) (zl_add (zl_sym ((hs.getD 0 []).getD 2 0)) (zl_con ((hs.getD 0 []).getD 3 0 : Nat))))) :: r, A.2.2.1, A.2.2.2.1, A.2.2.2.2)) none
  | _, _ => zt_iand4 hs A
theorem zt_iand5_ok {I : zz_W → Prop} {A A' : zk_A} {n : Nat} {hs : List (List Nat)} (h : zt_iand5 hs A = some A') : zk_S I (za_iand n) n A A' := by
  obtain ⟨L, T, F, B, C⟩ := A
  unfold zt_iand5 at h
  split at h
  · rename_i k2 e2 k1 e1 r hT _
    have hT : T = (0, k2, e2) :: (0, k1, e1) :: r := hT
    subst hT
    generalize (hs.getD 0 []).getD 1 0 = m at h
    generalize hqq : zl_add (zl_sym ((hs.getD 0 []).getD 2 0)) (zl_con ((hs.getD 0 []).getD 3 0 : Nat)) = qq at h
    obtain ⟨hb, h⟩ := zz_cond h
    obtain ⟨b1, hb⟩ := zz_and hb
    obtain ⟨b2, hb⟩ := zz_and hb
    obtain ⟨b3, b4⟩ := zz_and hb
    cases h
    refine ⟨Nat.le_refl _, fun K s f hG => ?_⟩
    obtain ⟨p, lv, st, w⟩ := f
    obtain ⟨g1, g2, g3, g4, g5, g6⟩ := hG
    obtain ⟨y, st1, q1, q2, q3⟩ := zk_st_int g2 rfl
    obtain ⟨x, st2, q4, q5, q6⟩ := zk_st_int q3 rfl
    have hst : st = .int y :: .int x :: st2 := by rw [← q4]; exact q1
    subst hst
    have z1 := zl_nul_ok (s := s) b2
    rw [zl_sub_ev, zl_con_ev] at z1
    have q2 : y.toInt = zl_ev s e2 := q2
    have q5 : x.toInt = zl_ev s e1 := q5
    have hmd := zk_and_md (x := x) (y := y) (zz_ble b1) (by omega)
    have c1 := zl_en_ok g4 g5 b3
    have c2 := zl_en_ok g4 g5 b4
    rw [zl_sub_ev, zl_mul_ev] at c1
    rw [zl_sub_ev, zl_add_ev, zl_mul_ev, zl_con_ev] at c2
    have hm : (0 : Int) < ((2 ^ m : Nat) : Int) := by
      have := Nat.two_pow_pos m
      omega
    have hd := (zk_divu hm c1 c2).2
    refine ⟨s, _, ze_iand rfl, rfl, ⟨g1, ⟨zk_v_int ?_, q6⟩, g3, g4, g5, g6⟩, fun _ _ => rfl⟩
    rw [hmd, q5, hd, zl_sub_ev, zl_mul_ev]
  · exact zt_iand4_ok h
end
end
section
/-! ABSTRACT FRAMES, on: texts that stood there before, fields of longs that are set, bytes that are known, copies of rows -/
noncomputable section
/-- how many places values take -/
def zk_cz (T : List zk_V) : Nat := match T with
  | [] => 0
  | a :: T => cond (Nat.beq a.1 1) 2 1 + zk_cz T
def zk_t3 (T : List zk_V) : Bool := T.all (fun a => Nat.ble a.1 3)
theorem zk_cz_ok {s : Nat → Int} : ∀ {T : List zk_V} {st : List Value}, zk_t3 T = true → zk_st s T st → zz_cs st = zk_cz T
  | [], [], _, _ => rfl
  | [], _ :: _, _, h => h.elim
  | _ :: _, [], _, h => h.elim
  | a :: T, v :: st, ht, h => by
    unfold zk_t3 at ht
    rw [List.all_cons] at ht
    obtain ⟨t1, t2⟩ := zz_and ht
    have h2 : zz_cs (v :: st) = v.category + zz_cs st := by unfold zz_cs; simp
    rw [h2, zk_cz_ok (T := T) t2 h.2]
    show _ = cond (Nat.beq a.1 1) 2 1 + zk_cz T
    have hc := zk_cat h.1 t1
    rw [← hc]
    rcases lv_cat v with e | e
    · rw [e]; rfl
    · rw [e]; rfl
/-- a text's row of bytes -/
def zt_kv (S : zz_Lr) (A : zk_A) : Option zk_A := match A.2.1 with
  | (2, i, _) :: r => cond (zz_kg S i) (some (A.1, (2, i + 1, zl_con 0) :: r, A.2.2.1, A.2.2.2.1, A.2.2.2.2)) none
  | _ => none
theorem zt_kv_ok {S : zz_Lr} {I : zz_W → Prop} {A A' : zk_A} {n : Nat} (h : zt_kv S A = some A') : zk_S I (za_kf (zz_kv S) n) n A A' := by
  obtain ⟨L, T, F, B, C⟩ := A
  unfold zt_kv at h
  split at h
  · rename_i i e0 r hT
    have hT : T = (2, i, e0) :: r := hT
    subst hT
    obtain ⟨hb, h⟩ := zz_cond h
    cases h
    refine ⟨Nat.le_refl _, fun K s f hG => ?_⟩
    obtain ⟨p, lv, st, w⟩ := f
    obtain ⟨g1, g2, g3, g4, g5, g6⟩ := hG
    obtain ⟨v, st2, q4, q5, q6⟩ := zk_st_cons g2
    have e3 : v = .ref i := q5.2.2.1 rfl
    subst e3
    have q4 : st = .ref i :: st2 := q4
    subst q4
    have hv : zz_kv S i = some (.ref (i + 1)) := by
      unfold zz_kg at hb
      unfold zz_kv
      split at hb
      · rfl
      · cases hb
    exact ⟨s, _, ze_kf hv, rfl, ⟨g1, ⟨zk_v_ref, q6⟩, g3, g4, g5, g6⟩, fun _ _ => rfl⟩
  · cases h
def zt_kc (S : zz_Lr) (A : zk_A) : Option zk_A := match A.2.1 with
  | (2, i, _) :: r => cond (zz_kg S i) (some (A.1, (0, 0, zl_con 0) :: r, A.2.2.1, A.2.2.2.1, A.2.2.2.2)) none
  | _ => none
theorem zt_kc_ok {S : zz_Lr} {I : zz_W → Prop} {A A' : zk_A} {n : Nat} (h : zt_kc S A = some A') : zk_S I (za_kf (zz_kc S) n) n A A' := by
  obtain ⟨L, T, F, B, C⟩ := A
  unfold zt_kc at h
  split at h
  · rename_i i e0 r hT
    have hT : T = (2, i, e0) :: r := hT
    subst hT
    obtain ⟨hb, h⟩ := zz_cond h
    cases h
    refine ⟨Nat.le_refl _, fun K s f hG => ?_⟩
    obtain ⟨p, lv, st, w⟩ := f
    obtain ⟨g1, g2, g3, g4, g5, g6⟩ := hG
    obtain ⟨v, st2, q4, q5, q6⟩ := zk_st_cons g2
    have e3 : v = .ref i := q5.2.2.1 rfl
    subst e3
    have q4 : st = .ref i :: st2 := q4
    subst q4
    have hv : zz_kc S i = some (.int (Int32.ofNat 0)) := by
      unfold zz_kg at hb
      unfold zz_kc
      split at hb
      · rfl
      · cases hb
    exact ⟨s, _, ze_kf hv, rfl, ⟨g1, ⟨zk_v_int (by rw [zl_con_ev]; rfl), q6⟩, g3, g4, g5, g6⟩, fun _ _ => rfl⟩
  · cases h
/-- a constant row's length -/
def zt_kn (S S2 : zz_Lr) (A : zk_A) : Option zk_A := match A.2.1 with
  | (2, i, _) :: r => match zz_kn S S2 i with
    | some q => cond (Nat.blt q 2147483648) (some (A.1, (0, 0, zl_con (q : Int)) :: r, A.2.2.1, A.2.2.2.1, A.2.2.2.2)) none
    | none => none
  | _ => none
theorem zt_kn_ok {S S2 : zz_Lr} {I : zz_W → Prop} {A A' : zk_A} {n : Nat} (h : zt_kn S S2 A = some A') : zk_S I (za_kn (zz_kn S S2) n) n A A' := by
  obtain ⟨L, T, F, B, C⟩ := A
  unfold zt_kn at h
  split at h
  · rename_i i e0 r hT
    have hT : T = (2, i, e0) :: r := hT
    subst hT
    split at h
    · rename_i q hq
      obtain ⟨hb, h⟩ := zz_cond h
      have hb := zz_blt hb
      cases h
      refine ⟨Nat.le_refl _, fun K s f hG => ?_⟩
      obtain ⟨p, lv, st, w⟩ := f
      obtain ⟨g1, g2, g3, g4, g5, g6⟩ := hG
      obtain ⟨v, st2, q4, q5, q6⟩ := zk_st_cons g2
      have e3 : v = .ref i := q5.2.2.1 rfl
      subst e3
      have q4 : st = .ref i :: st2 := q4
      subst q4
      exact ⟨s, _, ze_kn hq rfl, rfl, ⟨g1, ⟨zk_v_int (by rw [zl_con_ev]; exact Int32.toInt_ofNat_of_lt (by omega)), q6⟩, g3, g4, g5, g6⟩, fun _ _ => rfl⟩
    · cases h
  · cases h
/-- a byte of a text: at a place that is known, the byte itself -/
def zt_kb (S : zz_Lr) (hs : List (List Nat)) (A : zk_A) : Option zk_A := match A.2.1 with
  | (0, _, e) :: (2, i, _) :: r => match zz_kt S 1 i with
    | some q => cond (zk_ix A (hs.getD 0 []) (hs.getD 1 []) e q.1 && (Nat.blt q.1 2147483648 && (Nat.blt ((hs.getD 5 []).getD 1 0) 128 && (List.range q.1).all (fun j => Nat.ble ((hs.getD 5 []).getD 0 0) (zz_at 8 q.2 j) && Nat.ble (zz_at 8 q.2 j) ((hs.getD 5 []).getD 1 0)))))
        (match hs.getD 2 [] with
          | k :: _ => cond (zl_en A.2.2.2.1 A.2.2.2.2 (hs.getD 3 []) (zl_sub e (zl_con (k : Int))) && zl_en A.2.2.2.1 A.2.2.2.2 (hs.getD 4 []) (zl_sub (zl_con (k : Int)) e)) (some (A.1, (0, 0, zl_con (zz_at 8 q.2 k : Int)) :: r, A.2.2.1, A.2.2.2.1, A.2.2.2.2)) none
          | [] => zk_new A r (((hs.getD 5 []).getD 0 0 : Nat) : Int) (((hs.getD 5 []).getD 1 0 : Nat) : Int)) none
    | none => none
  | _ => none
theorem zt_kb_ok {S : zz_Lr} {I : zz_W → Prop} {A A' : zk_A} {n : Nat} {hs : List (List Nat)} (h : zt_kb S hs A = some A') : zk_S I (za_kl (zz_kb S) n) n A A' := by
  obtain ⟨L, T, F, B, C⟩ := A
  unfold zt_kb at h
  split at h
  · rename_i d0 e i e0 r hT
    have hT : T = (0, d0, e) :: (2, i, e0) :: r := hT
    subst hT
    split at h
    · rename_i q hq
      obtain ⟨hb, h⟩ := zz_cond h
      obtain ⟨b1, hb⟩ := zz_and hb
      obtain ⟨b2, hb⟩ := zz_and hb
      obtain ⟨b0, b3⟩ := zz_and hb
      have b0 := zz_blt b0
      have key : ∀ (s : Nat → Int) (lv : List (Nat × Value)) (st : List Value) (w : zz_W), zk_st s ((0, d0, e) :: (2, i, e0) :: r) st → zl_in s B → zk_cs s C → ∃ (j : Int32) (st2 : List Value), st = .int j :: .ref i :: st2 ∧ j.toInt = zl_ev s e ∧ 0 ≤ j.toInt ∧ zk_st s r st2 ∧ zz_nI j < q.1 ∧ zz_kb S i (zz_nI j) = some (zz_at 8 q.2 (zz_nI j)) := by
        intro s lv st w g2 g4 g5
        obtain ⟨j, st1, q1, q2, q3⟩ := zk_st_int g2 rfl
        obtain ⟨v, st2, q4, q5, q6⟩ := zk_st_cons q3
        have e3 : v = .ref i := q5.2.2.1 rfl
        subst e3
        have hj := zk_ix_ok b1 g4 g5 q2
        have q2 : j.toInt = zl_ev s e := q2
        have hj0 : 0 ≤ j.toInt := by
          have := zl_en_ok g4 g5 (zz_and b1).1
          omega
        refine ⟨j, st2, by rw [← q4]; exact q1, q2, hj0, q6, hj, ?_⟩
        unfold zz_kb
        rw [hq]
        show cond (Nat.blt (zz_nI j) q.1 && Nat.blt q.1 2147483648) (some (zz_at 8 q.2 (zz_nI j))) none = _
        rw [show Nat.blt (zz_nI j) q.1 = true from Nat.ble_eq.mpr hj, b2]
        rfl
      split at h
      · rename_i k _ hk
        obtain ⟨hb2, h⟩ := zz_cond h
        obtain ⟨b4, b5⟩ := zz_and hb2
        cases h
        refine ⟨Nat.le_refl _, fun K s f hG => ?_⟩
        obtain ⟨p, lv, st, w⟩ := f
        obtain ⟨g1, g2, g3, g4, g5, g6⟩ := hG
        obtain ⟨j, st2, hst, q2, q3, q6, hj, hv⟩ := key s lv st w g2 g4 g5
        subst hst
        have c1 := zl_en_ok g4 g5 b4
        have c2 := zl_en_ok g4 g5 b5
        rw [zl_sub_ev, zl_con_ev] at c1 c2
        have hn := zk_nI q3
        have ek : zz_nI j = k := by omega
        rw [ek] at hv hj
        have h7 := zz_ble (zz_and (List.all_eq_true.mp b3 k (List.mem_range.mpr hj))).2
        refine ⟨s, _, ze_kl (by rw [ek]; exact hv) rfl, rfl, ⟨g1, ⟨zk_v_int ?_, q6⟩, g3, g4, g5, g6⟩, fun _ _ => rfl⟩
        rw [zl_con_ev]
        exact Int32.toInt_ofNat_of_lt (by omega)
      · refine ⟨zk_new_len h, fun K s f hG => ?_⟩
        obtain ⟨p, lv, st, w⟩ := f
        obtain ⟨g1, g2, g3, g4, g5, g6⟩ := hG
        obtain ⟨j, st2, hst, q2, q3, q6, hj, hv⟩ := key s lv st w g2 g4 g5
        subst hst
        obtain ⟨h6, h7⟩ := zz_and (List.all_eq_true.mp b3 (zz_nI j) (List.mem_range.mpr hj))
        have h6 := zz_ble h6
        have h7 := zz_ble h7
        have e7 : (Int32.ofNat (zz_at 8 q.2 (zz_nI j))).toInt = (zz_at 8 q.2 (zz_nI j) : Int) := Int32.toInt_ofNat_of_lt (by omega)
        obtain ⟨-, s', hg, hs'⟩ := zk_new_ok (I := I) (x := Int32.ofNat (zz_at 8 q.2 (zz_nI j))) (n := n) (w := w) (lv := lv) h g1 q6 g3 g4 g5 g6 (by rw [e7]; omega) (by rw [e7]; omega)
        exact ⟨s', _, ze_kl hv rfl, rfl, hg, hs'⟩
    · cases h
  · cases h
/-- a long's field is set -/
def zt_putL (HT : List (List zk_H)) (M : zk_M) (ci k : Nat) (A : zk_A) : Option zk_A := match A.2.1 with
  | (1, _, _) :: (2, i, _) :: T => match zk_fs HT ci i k with
    | some (1, _, _) => cond (zk_inM M.1 i k) (some (A.1, T, zk_fr A.2.2.1 i k, A.2.2.2.1, A.2.2.2.2)) none
    | _ => none
  | _ => none
theorem zt_putL_ok {c : Nat} {HT : List (List zk_H)} {M : zk_M} {w0 : zk_W0} {A A' : zk_A} {ci k n : Nat} (h : zt_putL HT M ci k A = some A') : zk_SW c HT M w0 (za_putL ci k n) n A A' (fun _ w w' => zk_rF (zk_tg1 A) k w w') := by
  obtain ⟨L, T0, F, B, C⟩ := A
  unfold zt_putL at h
  split at h
  · rename_i d0 ev i e0 T hT
    have hT : T0 = (1, d0, ev) :: (2, i, e0) :: T := hT
    subst hT
    split at h
    · rename_i d q hfs
      obtain ⟨b2, h⟩ := zz_cond h
      cases h
      refine ⟨rfl, fun K s f hpv hG => ?_⟩
      obtain ⟨p, lv, st, w⟩ := f
      obtain ⟨g1, g2, g3, g4, g5, g6⟩ := hG
      obtain ⟨u, st1, q1, q2, q3⟩ := zk_st_cons g2
      obtain ⟨x, ex, -⟩ := q2.2.1 rfl
      subst ex
      obtain ⟨v, st2, q4, q5, q6⟩ := zk_st_cons q3
      have e3 : v = .ref i := q5.2.2.1 rfl
      subst e3
      have hst : st = .long x :: .ref i :: st2 := by rw [← q4]; exact q1
      subst hst
      obtain ⟨w', u1, u2, u3, u4, u5⟩ := zk_J_pf (x := zz_nL x) g6 hfs (fun h => absurd (show (1 : Nat) = 2 from h) (by decide)) (zz_nL_lt x) (fun h => absurd (show (1 : Nat) = 0 from h) (by decide)) (zk_inM_ok b2)
      obtain ⟨o1, o2, o3, o4, o5, o6, o7, o8⟩ := zk_fs_ok hfs g6.1
      refine ⟨(n, lv, st2, w'), ?_, rfl, ⟨g1, q6, fun y hy => zk_fr_ok g3 u4 y hy, g4, g5, u2⟩, ⟨u5, fun m hm => u4 i m (fun e => hm (Prod.mk.inj e).2)⟩⟩
      show zz_pf w i ci k (zz_nL x) (fun w => some ((n, lv, st2, w) : zz_F)) = _
      unfold zz_pf
      rw [o6]
      show zz_fN (zz_to 64 (zz_g w i).2.2.2 k (zz_nL x)) (fun N => zz_st w i (3, ci, (zz_g w i).2.2.1, N) none (fun w => some ((n, lv, st2, w) : zz_F))) = _
      rw [zz_fN_eq]
      exact u1 _ _
    · cases h
  · cases h
/-- a byte that is known -/
theorem zk_b8x {x : Int32} (h1 : -128 ≤ x.toInt) (h2 : x.toInt ≤ 127) : (x.toInt8.toInt32).toInt = x.toInt := by
  have e : (x.toInt8.toInt32).toInt = x.toInt8.toInt := Int8.toInt_toInt32 _
  rw [e, Int32.toInt_toInt8, Int.bmod_def]
  omega
def zt_i2b2 (hs : List (List Nat)) (A : zk_A) : Option zk_A := match A.2.1, hs.getD 0 [] with
  | (0, _, e) :: r, _ :: _ => cond (zl_en A.2.2.2.1 A.2.2.2.2 (hs.getD 1 []) (zl_add e (zl_con 128)) && zl_en A.2.2.2.1 A.2.2.2.2 (hs.getD 2 []) (zl_sub (zl_con 127) e)) (some (A.1, (0, 0, e) :: r, A.2.2.1, A.2.2.2.1, A.2.2.2.2)) none
  | _, _ => zt_1b (fun _ _ => ((-128), 127)) A
theorem zt_i2b2_ok {I : zz_W → Prop} {A A' : zk_A} {n : Nat} {hs : List (List Nat)} (h : zt_i2b2 hs A = some A') : zk_S I (za_i2b n) n A A' := by
  unfold zt_i2b2 at h
  split at h
  · rename_i d0 e r k _ hT _
    obtain ⟨hb, h⟩ := zz_cond h
    obtain ⟨b1, b2⟩ := zz_and hb
    cases h
    obtain ⟨L, T, F, B, C⟩ := A
    have hT : T = (0, d0, e) :: r := hT
    subst hT
    refine ⟨Nat.le_refl _, fun K s f hG => ?_⟩
    obtain ⟨p, lv, st, w⟩ := f
    obtain ⟨g1, g2, g3, g4, g5, g6⟩ := hG
    obtain ⟨x, st2, q4, q5, q6⟩ := zk_st_int g2 rfl
    have q4 : st = .int x :: st2 := q4
    subst q4
    have c1 := zl_en_ok g4 g5 b1
    have c2 := zl_en_ok g4 g5 b2
    rw [zl_add_ev, zl_con_ev] at c1
    rw [zl_sub_ev, zl_con_ev] at c2
    have q5 : x.toInt = zl_ev s e := q5
    exact ⟨s, _, ze_i2b rfl, rfl, ⟨g1, ⟨zk_v_int (by rw [zk_b8x (by omega) (by omega)]; exact q5), q6⟩, g3, g4, g5, g6⟩, fun _ _ => rfl⟩
  · exact zt_i2b_ok h
/-- a char that is known -/
theorem zk_c16x {x : Int32} (h1 : 0 ≤ x.toInt) (h2 : x.toInt ≤ 65535) : ((x.toUInt32 % 65536).toInt32).toInt = x.toInt := by
  have e1 : zz_nI (x.toUInt32 % 65536).toInt32 = zz_nI x % 65536 := by
    show (x.toUInt32 % 65536).toNat = _
    rw [UInt32.toNat_mod]
    rfl
  have hn := zk_nI h1
  have e2 : zz_nI x % 65536 = zz_nI x := Nat.mod_eq_of_lt (by omega)
  rw [zk_nIx (by rw [e1, e2]; omega), e1, e2, hn]
theorem zk_nIn {x : Int32} (h : x.toInt < 0) : (zz_nI x : Int) = x.toInt + 4294967296 := by
  have h1 : x.toInt = x.toBitVec.toInt := rfl
  rw [h1] at h ⊢
  rw [BitVec.toInt_eq_toNat_cond] at h ⊢
  have h2 := x.toBitVec.isLt
  show ((x.toBitVec.toNat : Nat) : Int) = _
  split at h
  · omega
  · rw [if_neg (by assumption)]
    omega
theorem zk_c16n {x : Int32} (h1 : -65536 ≤ x.toInt) (h2 : x.toInt < 0) : ((x.toUInt32 % 65536).toInt32).toInt = x.toInt + 65536 := by
  have e1 : zz_nI (x.toUInt32 % 65536).toInt32 = zz_nI x % 65536 := by
    show (x.toUInt32 % 65536).toNat = _
    rw [UInt32.toNat_mod]
    rfl
  have hn := zk_nIn h2
  rw [zk_nIx (by rw [e1]; omega), e1]
  omega
def zt_i2c2 (hs : List (List Nat)) (A : zk_A) : Option zk_A := match A.2.1, hs.getD 0 [] with
  | (0, _, e) :: r, _ :: _ :: _ => cond (zl_en A.2.2.2.1 A.2.2.2.2 (hs.getD 1 []) (zl_add e (zl_con 65536)) && zl_en A.2.2.2.1 A.2.2.2.2 (hs.getD 2 []) (zl_sub (zl_con (-1)) e)) (some (A.1, (0, 0, zl_add e (zl_con 65536)) :: r, A.2.2.1, A.2.2.2.1, A.2.2.2.2)) none
  | (0, _, e) :: r, _ :: [] => cond (zl_en A.2.2.2.1 A.2.2.2.2 (hs.getD 1 []) e && zl_en A.2.2.2.1 A.2.2.2.2 (hs.getD 2 []) (zl_sub (zl_con 65535) e)) (some (A.1, (0, 0, e) :: r, A.2.2.1, A.2.2.2.1, A.2.2.2.2)) none
  | _, _ => zt_1b (fun _ _ => (0, 65535)) A
theorem zt_i2c2_ok {I : zz_W → Prop} {A A' : zk_A} {n : Nat} {hs : List (List Nat)} (h : zt_i2c2 hs A = some A') : zk_S I (za_i2c n) n A A' := by
  unfold zt_i2c2 at h
  split at h
  · rename_i d0 e r k _ _ hT _
    obtain ⟨hb, h⟩ := zz_cond h
    obtain ⟨b1, b2⟩ := zz_and hb
    cases h
    obtain ⟨L, T, F, B, C⟩ := A
    have hT : T = (0, d0, e) :: r := hT
    subst hT
    refine ⟨Nat.le_refl _, fun K s f hG => ?_⟩
    obtain ⟨p, lv, st, w⟩ := f
    obtain ⟨g1, g2, g3, g4, g5, g6⟩ := hG
    obtain ⟨x, st2, q4, q5, q6⟩ := zk_st_int g2 rfl
    have q4 : st = .int x :: st2 := q4
    subst q4
    have c1 := zl_en_ok g4 g5 b1
    have c2 := zl_en_ok g4 g5 b2
    rw [zl_add_ev, zl_con_ev] at c1
    rw [zl_sub_ev, zl_con_ev] at c2
    have q5 : x.toInt = zl_ev s e := q5
    exact ⟨s, _, ze_i2c rfl, rfl, ⟨g1, ⟨zk_v_int (by rw [zk_c16n (by omega) (by omega), zl_add_ev, zl_con_ev, q5]), q6⟩, g3, g4, g5, g6⟩, fun _ _ => rfl⟩
  · rename_i d0 e r k hT _
    obtain ⟨hb, h⟩ := zz_cond h
    obtain ⟨b1, b2⟩ := zz_and hb
    cases h
    obtain ⟨L, T, F, B, C⟩ := A
    have hT : T = (0, d0, e) :: r := hT
    subst hT
    refine ⟨Nat.le_refl _, fun K s f hG => ?_⟩
    obtain ⟨p, lv, st, w⟩ := f
    obtain ⟨g1, g2, g3, g4, g5, g6⟩ := hG
    obtain ⟨x, st2, q4, q5, q6⟩ := zk_st_int g2 rfl
    have q4 : st = .int x :: st2 := q4
    subst q4
    have c1 := zl_en_ok g4 g5 b1
    have c2 := zl_en_ok g4 g5 b2
    rw [zl_sub_ev, zl_con_ev] at c2
    have q5 : x.toInt = zl_ev s e := q5
    exact ⟨s, _, ze_i2c rfl, rfl, ⟨g1, ⟨zk_v_int (by rw [zk_c16x (by omega) (by omega)]; exact q5), q6⟩, g3, g4, g5, g6⟩, fun _ _ => rfl⟩
  · exact zt_i2c_ok h
/-- or, the low bits apart, the other way round -/
def zt_ior4 (hs : List (List Nat)) (A : zk_A) : Option zk_A := match A.2.1, hs.getD 1 [] with
  | (0, _, e2) :: (0, _, e1) :: r, k :: _ :: _ => cond ((Nat.ble k 31 && (zl_md (2 ^ k) e2 && Nat.beq (Int.emod (zl_nv e2.1) ((2 ^ k : Nat) : Int)).toNat 0)) && (zl_en A.2.2.2.1 A.2.2.2.2 (hs.getD 2 []) e2 && (zl_en A.2.2.2.1 A.2.2.2.2 (hs.getD 3 []) e1 && zl_en A.2.2.2.1 A.2.2.2.2 (hs.getD 4 []) (zl_sub (zl_con (((2 ^ k : Nat) : Int) - 1)) e1)))) (some (A.1, (0, 0, zl_add e1 e2) :: r, A.2.2.1, A.2.2.2.1, A.2.2.2.2)) none
  | _, _ => zt_ior3 hs A
theorem zt_ior4_ok {I : zz_W → Prop} {A A' : zk_A} {n : Nat} {hs : List (List Nat)} (h : zt_ior4 hs A = some A') : zk_S I (za_ior n) n A A' := by
  unfold zt_ior4 at h
  split at h
  · rename_i k2 e2 k1 e1 r k _ _ hT _
    obtain ⟨hb, h⟩ := zz_cond h
    obtain ⟨hb1, hb2⟩ := zz_and hb
    obtain ⟨b1, hb1⟩ := zz_and hb1
    obtain ⟨b2, b3⟩ := zz_and hb1
    obtain ⟨b4, hb2⟩ := zz_and hb2
    obtain ⟨b5, b6⟩ := zz_and hb2
    cases h
    refine zk_2g hT (Nat.le_refl _) (fun x y => x ||| y) (fun K p lv x y st w => ze_ior rfl) (fun s lv st w x y h1 h2 h3 h4 h5 h6 hx hy => ?_)
    have c1 := zl_en_ok h4 h5 b4
    have c2 := zl_en_ok h4 h5 b5
    have c3 := zl_en_ok h4 h5 b6
    rw [zl_sub_ev, zl_con_ev] at c3
    have hn := zk_nI (x := y) (by omega)
    have hm := zl_md_ok (j := zz_nI y) (s := s) b2 (by omega)
    rw [zz_beq b3] at hm
    refine ⟨s, ⟨h1, ⟨zk_v_int ?_, h2⟩, h3, h4, h5, h6⟩, fun _ _ => rfl⟩
    show (x ||| y).toInt = zl_ev s (zl_add e1 e2)
    rw [Int32.or_comm, zk_or_x (zz_ble b1) (by omega) hm.symm (by omega) (by omega), zl_add_ev, hx, hy]
    omega
  · exact zt_ior3_ok h
/-- a byte is set, whose value is known from here on -/
def zt_astB2 (HT : List (List zk_H)) (M : zk_M) (h1 h2 h3 h4 h5 h6 : List Nat) (t : Nat) (A : zk_A) : Option zk_A := match A.2.1 with
  | (0, _, ev) :: _ => cond (zl_en A.2.2.2.1 A.2.2.2.2 h5 (zl_add ev (zl_con 128)) && zl_en A.2.2.2.1 A.2.2.2.2 h6 (zl_sub (zl_con 127) ev)) (zt_astI HT M h1 h2 h3 h4 t A) none
  | _ => none
theorem zt_astB2_ok {c : Nat} {HT : List (List zk_H)} {M : zk_M} {w0 : zk_W0} {A A' : zk_A} {h1 h2 h3 h4 h5 h6 : List Nat} {t n : Nat} (h : zt_astB2 HT M h1 h2 h3 h4 h5 h6 t A = some A') : zk_SW c HT M w0 (za_astB t n) n A A' (fun s w w' => zk_rR (zk_tg2 A) (zl_ev s (zk_ix2 A)) w w' ∧ 0 ≤ zl_ev s (zk_ix2 A) ∧ (true = true → zk_el w' (zk_tg2 A) (zl_ev s (zk_ix2 A)) = zl_ev s (zk_vl A))) := by
  unfold zt_astB2 at h
  split at h
  · rename_i d0 ev r hT
    obtain ⟨hb, h⟩ := zz_cond h
    obtain ⟨b1, b2⟩ := zz_and hb
    have h0 := zt_astI_ok (c := c) (w0 := w0) (n := n) h
    refine ⟨h0.1, fun K s f hpv hG => ?_⟩
    obtain ⟨f', e1, e2, e3, e4⟩ := h0.2 K s f hpv hG
    refine ⟨f', ?_, e2, e3, e4⟩
    rw [← e1]
    obtain ⟨p, lv, st, w⟩ := f
    obtain ⟨g1, g2, g3, g4, g5, g6⟩ := hG
    rw [hT] at g2
    obtain ⟨x, st2, q4, q5, q6⟩ := zk_st_int g2 rfl
    have q4 : st = .int x :: st2 := q4
    subst q4
    have c1 := zl_en_ok g4 g5 b1
    have c2 := zl_en_ok g4 g5 b2
    rw [zl_add_ev, zl_con_ev] at c1
    rw [zl_sub_ev, zl_con_ev] at c2
    have q5 : x.toInt = zl_ev s ev := q5
    have hx : x.toInt8.toInt32 = x := Int32.toInt_inj.mp (zk_b8x (by omega) (by omega))
    unfold za_astB za_astI
    cases st2 with
    | nil => rfl
    | cons u st3 =>
      cases u with
      | int j =>
        cases st3 with
        | nil => rfl
        | cons u2 st4 =>
          cases u2 with
          | ref i =>
            show zz_pr w i 0 t 32 (zz_nI j) (zz_nI x.toInt8.toInt32) _ = zz_pr w i 0 t 32 (zz_nI j) (zz_nI x) _
            rw [hx]
          | _ => rfl
      | _ => rfl
  · cases h
/-- a copy of a row's elements into a row -/
theorem zk_J_cp {c : Nat} {HT : List (List zk_H)} {M : zk_M} {w0 : zk_W0} {w : zz_W} {t a b la lb i j k : Nat} {loa hia lob hib : Int} (hJ : zk_J c HT M w0 w) (ha : zk_rs HT 0 t a = some (la, loa, hia)) (hb : zk_rs HT 0 t b = some (lb, lob, hib)) (hi : i + k ≤ la) (hj : j + k ≤ lb) (h1 : lob ≤ loa) (h2 : hia ≤ hib) (hq : (zk_h HT b).2.2.2.2.2 = [] ∨ a = b ∧ i % (zk_h HT b).2.2.2.2.2.length = j % (zk_h HT b).2.2.2.2.2.length) (hM : (b, 999) ∈ M.1) :
    ∃ w' : zz_W, (∀ (β : Type) (kk : zz_W → Option β), zz_st w b (0, t, (zz_g w b).2.2.1, zz_cp 32 (zz_g w a).2.2.2 (zz_g w b).2.2.2 i j k) none kk = kk w') ∧ zk_J c HT M w0 w' ∧ (∀ a' m, (zk_h HT a').1 = 3 → zk_fd w' (a', m) = zk_fd w (a', m)) ∧ (∀ a', a' ≠ b → zz_g w' a' = zz_g w a') := by
  obtain ⟨o1, o2, o3, o4, o5, o6⟩ := zk_rs_ok hb (by decide) hJ.1
  obtain ⟨p1, p2, p3, p4, p5, p6⟩ := zk_rs_ok ha (by decide) hJ.1
  obtain ⟨⟨s1, s2, s3, s4⟩, hsm, hw1, hw2, hk⟩ := hJ
  have hi' : b < 16 * c := by omega
  have hg := zk_up_g (x := (0, t, (zz_g w b).2.2.1, zz_cp 32 (zz_g w a).2.2.2 (zz_g w b).2.2.2 i j k)) s1 hi'
  have h0 : (zz_g w b).1 = 0 := by rw [o4]
  refine ⟨zz_up w b (0, t, (zz_g w b).2.2.1, zz_cp 32 (zz_g w a).2.2.2 (zz_g w b).2.2.2 i j k), fun β kk => zk_up_st s1 hi', ⟨?_, ⟨fun a' m h8 hn hl h3 => ?_, fun a' hn hl h3 => ?_⟩, hw1, hw2, fun a' ha' => ?_⟩, fun a' m h3 => ?_, fun a' ha' => by rw [hg, if_neg ha']⟩
  · refine zk_I_up ⟨s1, s2, s3, s4⟩ o1 (fun hn => ?_)
    obtain ⟨-, g1, g2, g3, g4, g5, g6, -⟩ := s4 b hn
    refine ⟨o2.symm, ?_, g3, fun _ m hm => ?_, fun h => absurd (o2.symm.trans h) (by decide), fun h => absurd (o2.symm.trans h) (by decide), fun h => absurd (o2.symm.trans h) (by decide)⟩
    · rw [o4] at g2
      exact g2
    · show (_ ≤ (Int32.ofNat (zz_at 32 (zz_cp 32 (zz_g w a).2.2.2 (zz_g w b).2.2.2 i j k) m)).toInt ∧ (Int32.ofNat (zz_at 32 (zz_cp 32 (zz_g w a).2.2.2 (zz_g w b).2.2.2 i j k) m)).toInt ≤ _) ∧ ∀ q : Nat × Nat × Int × Int, _ → q.2.2.1 ≤ (Int32.ofNat (zz_at 32 (zz_cp 32 (zz_g w a).2.2.2 (zz_g w b).2.2.2 i j k) m)).toInt ∧ (Int32.ofNat (zz_at 32 (zz_cp 32 (zz_g w a).2.2.2 (zz_g w b).2.2.2 i j k) m)).toInt ≤ q.2.2.2
      rw [zz_at_cp]
      by_cases e : j ≤ m ∧ m < j + k
      · rw [if_pos e]
        have p5 := p5 rfl (i + (m - j)) (by omega)
        unfold zk_rs at hb
        obtain ⟨-, hb⟩ := zz_cond hb
        have hb : ((zk_h HT b).2.2.1, (zk_h HT b).2.2.2.1, (zk_h HT b).2.2.2.2.1) = (lb, lob, hib) := Option.some.inj hb
        have e5 : (zk_h HT b).2.2.2.1 = lob := congrArg (fun q => q.2.1) hb
        have e6 : (zk_h HT b).2.2.2.2.1 = hib := congrArg (fun q => q.2.2) hb
        rw [e5, e6]
        refine ⟨⟨by have := p5.1.1; omega, by have := p5.1.2; omega⟩, fun q hqq => ?_⟩
        rcases hq with hq | ⟨hq1, hq2⟩
        · rw [hq] at hqq
          cases hqq
        · subst hq1
          refine p5.2 q ?_
          rw [← hqq, Nat.add_mod, hq2, ← Nat.add_mod, show j + (m - j) = m by omega]
      · rw [if_neg e]
        exact g4 o2 m hm
  · unfold zk_fd
    rw [hg]
    by_cases e : a' = b
    · exfalso
      subst e
      have := zk_k3_1 (hk a' hl)
      omega
    · rw [if_neg e]
      exact hsm.1 a' m h8 hn hl h3
  · by_cases e : a' = b
    · subst e
      exact absurd hM hn
    · refine ⟨fun h8 => ?_, fun m hm hv => ?_⟩
      · rw [hg, if_neg e]
        exact (hsm.2 a' hn hl h3).1 h8
      · unfold zk_el
        rw [hg, if_neg e]
        exact (hsm.2 a' hn hl h3).2 m hm hv
  · rw [hg]
    by_cases e : a' = b
    · subst e
      rw [if_pos rfl]
      rw [← hk a' ha']
      exact zk_k3_of h0 (by rw [o4]) rfl
    · rw [if_neg e]
      exact hk a' ha'
  · unfold zk_fd
    rw [hg]
    by_cases e : a' = b
    · subst e
      omega
    · rw [if_neg e]
/-- where a copy goes -/
def zk_tgc (A : zk_A) : Nat := match A.2.1 with
  | _ :: _ :: (2, b, _) :: _ => b
  | _ => 0
/-- hints: 0 <= i, 0 <= j, 0 <= k, i + k and j + k within the rows -/
def zt_cpy (HT : List (List zk_H)) (M : zk_M) (hs : List (List Nat)) (t : Nat) (A : zk_A) : Option zk_A := match A.2.1 with
  | (0, _, k) :: (0, _, j) :: (2, b, _) :: (0, _, i) :: (2, a, _) :: T => match zk_rs HT 0 t a, zk_rs HT 0 t b with
    | some (la, loa, hia), some (lb, lob, hib) => cond ((zl_en A.2.2.2.1 A.2.2.2.2 (hs.getD 0 []) i && (zl_en A.2.2.2.1 A.2.2.2.2 (hs.getD 1 []) j && (zl_en A.2.2.2.1 A.2.2.2.2 (hs.getD 2 []) k && (zl_en A.2.2.2.1 A.2.2.2.2 (hs.getD 3 []) (zl_sub (zl_con (la : Int)) (zl_add i k)) && zl_en A.2.2.2.1 A.2.2.2.2 (hs.getD 4 []) (zl_sub (zl_con (lb : Int)) (zl_add j k)))))) && ((decide (lob ≤ loa) && (decide (hia ≤ hib) && (zk_inM M.1 b 999 && A.2.2.1.all (fun q => Nat.beq (zk_h HT q.1.1).1 3)))) && ((Nat.beq (zk_h HT b).2.2.2.2.2.length 0 || (Nat.beq a b && ((zl_md (zk_h HT b).2.2.2.2.2.length i && zl_md (zk_h HT b).2.2.2.2.2.length j) && Nat.beq (Int.emod (zl_nv i.1) ((zk_h HT b).2.2.2.2.2.length : Int)).toNat (Int.emod (zl_nv j.1) ((zk_h HT b).2.2.2.2.2.length : Int)).toNat))) && ((Nat.blt la 2147483648 && Nat.blt lb 2147483648) && (Nat.ble (zk_cz T) 8 && zk_t3 T))))) (some (A.1, T, A.2.2.1, A.2.2.2.1, A.2.2.2.2)) none
    | _, _ => none
  | _ => none
theorem zk_ik {w : zz_W} {t a la i k : Nat} (h1 : a < w.1) (h2 : w.1 ≤ 1000000) (h3 : zz_g w a = (0, t, la, (zz_g w a).2.2.2)) (h4 : i + k ≤ la) (h5 : la < 2147483648) : zz_ik w a t i k = true := by
  unfold zz_ik
  rw [h3]
  have a1 : Nat.blt a w.1 = true := Nat.ble_eq.mpr h1
  have a2 : Nat.blt a 1000000 = true := Nat.ble_eq.mpr (by omega)
  have a3 : Nat.ble (i + k) la = true := Nat.ble_eq.mpr h4
  have a4 : Nat.blt la 2147483648 = true := Nat.ble_eq.mpr h5
  show (Nat.blt a w.1 && (Nat.blt a 1000000 && (Nat.beq 0 0 && (Nat.beq t t && (Nat.ble (i + k) la && Nat.blt la 2147483648))))) = true
  rw [a1, a2, a3, a4, Nat.beq_refl t]
  rfl
theorem zt_cpy_gen {c : Nat} {HT : List (List zk_H)} {M : zk_M} {w0 : zk_W0} {A A' : zk_A} {hs : List (List Nat)} {t n : Nat} {act : zz_A} (ha : ∀ (K : zz_K) (p : Nat) (lv : List (Nat × Value)) (k j i : Int32) (b a : Nat) (r : List Value) (w : zz_W) (la : Nat) (loa hia : Int), zk_I c HT w → zk_rs HT 0 t a = some (la, loa, hia) → zz_nI i + zz_nI k ≤ la → zz_ik w a t (zz_nI i) (zz_nI k) = true → zz_ik w b t (zz_nI j) (zz_nI k) = true → zz_cs r ≤ 8 → act K (p, lv, .int k :: .int j :: .ref b :: .int i :: .ref a :: r, w) = zz_fN (zz_cp 32 (zz_g w a).2.2.2 (zz_g w b).2.2.2 (zz_nI i) (zz_nI j) (zz_nI k)) (fun N => zz_st w b (0, t, (zz_g w b).2.2.1, N) none (fun w' => some (n, lv, r, w'))))
    (h : zt_cpy HT M hs t A = some A') : zk_SW c HT M w0 act n A A' (fun _ w w' => ∀ a, a ≠ zk_tgc A → zz_g w' a = zz_g w a) := by
  obtain ⟨L, T0, F, B, C⟩ := A
  unfold zt_cpy at h
  split at h
  · rename_i d0 k d1 j b e0 d2 i a e1 T hT
    have hT : T0 = (0, d0, k) :: (0, d1, j) :: (2, b, e0) :: (0, d2, i) :: (2, a, e1) :: T := hT
    subst hT
    split at h
    · rename_i la loa hia lb lob hib hra hrb
      obtain ⟨hb, h⟩ := zz_cond h
      obtain ⟨hb1, hb⟩ := zz_and hb
      obtain ⟨b1, hb1⟩ := zz_and hb1
      obtain ⟨b2, hb1⟩ := zz_and hb1
      obtain ⟨b3, hb1⟩ := zz_and hb1
      obtain ⟨b4, b5⟩ := zz_and hb1
      obtain ⟨hb2, hb⟩ := zz_and hb
      obtain ⟨b6, hb2⟩ := zz_and hb2
      obtain ⟨b7, hb2⟩ := zz_and hb2
      obtain ⟨b8, b9⟩ := zz_and hb2
      obtain ⟨b10, hb⟩ := zz_and hb
      obtain ⟨hb3, hb4⟩ := zz_and hb
      obtain ⟨b11, b12⟩ := zz_and hb3
      obtain ⟨b13, b14⟩ := zz_and hb4
      cases h
      refine ⟨rfl, fun K s f hpv hG => ?_⟩
      obtain ⟨p, lv, st, w⟩ := f
      obtain ⟨g1, g2, g3, g4, g5, g6⟩ := hG
      obtain ⟨xk, st0, r1, r2, r3⟩ := zk_st_int g2 rfl
      obtain ⟨xj, st1, r4, r5, r6⟩ := zk_st_int r3 rfl
      obtain ⟨v, st2, r7, r8, r9⟩ := zk_st_cons r6
      have e3 : v = .ref b := r8.2.2.1 rfl
      subst e3
      obtain ⟨xi, st3, r10, r11, r12⟩ := zk_st_int r9 rfl
      obtain ⟨v2, st4, r13, r14, r15⟩ := zk_st_cons r12
      have e4 : v2 = .ref a := r14.2.2.1 rfl
      subst e4
      have hst : st = .int xk :: .int xj :: .ref b :: .int xi :: .ref a :: st4 := by rw [← r13, ← r10, ← r7, ← r4]; exact r1
      subst hst
      have r2 : xk.toInt = zl_ev s k := r2
      have r5 : xj.toInt = zl_ev s j := r5
      have r11 : xi.toInt = zl_ev s i := r11
      have c1 := zl_en_ok g4 g5 b1
      have c2 := zl_en_ok g4 g5 b2
      have c3 := zl_en_ok g4 g5 b3
      have c4 := zl_en_ok g4 g5 b4
      have c5 := zl_en_ok g4 g5 b5
      rw [zl_sub_ev, zl_add_ev, zl_con_ev] at c4 c5
      have ni := zk_nI (x := xi) (by omega)
      have nj := zk_nI (x := xj) (by omega)
      have nk := zk_nI (x := xk) (by omega)
      have hik : zz_nI xi + zz_nI xk ≤ la := by omega
      have hjk : zz_nI xj + zz_nI xk ≤ lb := by omega
      have b6 := of_decide_eq_true b6
      have b7 := of_decide_eq_true b7
      have hq : (zk_h HT b).2.2.2.2.2 = [] ∨ a = b ∧ zz_nI xi % (zk_h HT b).2.2.2.2.2.length = zz_nI xj % (zk_h HT b).2.2.2.2.2.length := by
        rcases Bool.or_eq_true_iff.mp b10 with h1 | h1
        · exact Or.inl (List.length_eq_zero_iff.mp (zz_beq h1))
        · obtain ⟨h1, h2⟩ := zz_and h1
          obtain ⟨h2, h3⟩ := zz_and h2
          obtain ⟨h4, h5⟩ := zz_and h2
          have k1 := zl_md_ok (j := zz_nI xi) (s := s) h4 (by omega)
          have k2 := zl_md_ok (j := zz_nI xj) (s := s) h5 (by omega)
          exact Or.inr ⟨zz_beq h1, by rw [← k1, ← k2]; exact zz_beq h3⟩
      obtain ⟨w', u1, u2, u3, u4⟩ := zk_J_cp (i := zz_nI xi) (j := zz_nI xj) (k := zz_nI xk) g6 hra hrb hik hjk b6 b7 hq (zk_inM_ok b8)
      obtain ⟨o1, -, -, o4, -, -⟩ := zk_rs_ok hra (by decide) g6.1
      obtain ⟨p1, -, -, p4, -, -⟩ := zk_rs_ok hrb (by decide) g6.1
      refine ⟨(n, lv, st4, w'), ?_, rfl, ⟨g1, r15, fun q hq => ?_, g4, g5, u2⟩, u4⟩
      · rw [ha K p lv xk xj xi b a st4 w la loa hia g6.1 hra hik (zk_ik o1 g6.1.2.2.1 o4 hik (zz_blt b11)) (zk_ik p1 g6.1.2.2.1 p4 hjk (zz_blt b12)) (by rw [zk_cz_ok b14 r15]; exact zz_ble b13), zz_fN_eq]
        exact u1 _ _
      · have := g3 q hq
        rw [show zk_fd w' q.1 = zk_fd w q.1 from u3 q.1.1 q.1.2 (zz_beq (List.all_eq_true.mp b9 q hq))]
        exact this
    · cases h
  · cases h
theorem zt_copyI_ok {c : Nat} {HT : List (List zk_H)} {M : zk_M} {w0 : zk_W0} {A A' : zk_A} {hs : List (List Nat)} {t n : Nat} (h : zt_cpy HT M hs t A = some A') : zk_SW c HT M w0 (za_copyI t n) n A A' (fun _ w w' => ∀ a, a ≠ zk_tgc A → zz_g w' a = zz_g w a) :=
  zt_cpy_gen (fun K p lv k j i b a r w la loa hia _ _ _ h1 h2 h3 => by
    show cond (zz_ik w a t (zz_nI i) (zz_nI k) && (zz_ik w b t (zz_nI j) (zz_nI k) && Nat.ble (zz_cs r) 8)) _ none = _
    rw [h1, h2, show Nat.ble (zz_cs r) 8 = true from Nat.ble_eq.mpr h3]
    rfl) h
theorem zk_by7 {v : Nat} (hv : v < 2 ^ 32) (h1 : -128 ≤ (Int32.ofNat v).toInt) (h2 : (Int32.ofNat v).toInt ≤ 127) : v < 128 ∨ 4294967168 ≤ v := by
  have h3 : (Int32.ofNat v).toInt = (BitVec.ofNat 32 v).toInt := rfl
  rw [h3, BitVec.toInt_eq_toNat_cond, BitVec.toNat_ofNat, Nat.mod_eq_of_lt hv] at h1 h2
  split at h1
  · rename_i hc
    rw [if_pos hc] at h2
    omega
  · rename_i hc
    rw [if_neg hc] at h2
    omega
/-- all elements of the row are bytes -/
def zk_byt (HT : List (List zk_H)) (A : zk_A) : Bool := match A.2.1 with
  | _ :: _ :: _ :: _ :: (2, a, _) :: _ => decide (-128 ≤ (zk_h HT a).2.2.2.1) && decide ((zk_h HT a).2.2.2.2.1 ≤ 127)
  | _ => false
def zt_cpyB (HT : List (List zk_H)) (M : zk_M) (hs : List (List Nat)) (t : Nat) (A : zk_A) : Option zk_A := cond (Nat.beq t 1) (zt_cpy HT M hs t A) none
/-- a row of bytes holds bytes -/
def zk_bt (HT : List (List zk_H)) : Bool := HT.all (fun l => l.all (fun h => !(Nat.beq h.1 0 && Nat.beq h.2.1 1) || (decide (-128 ≤ h.2.2.2.1) && decide (h.2.2.2.2.1 ≤ 127))))
theorem zk_bt_ok {HT : List (List zk_H)} (hbt : zk_bt HT = true) {i : Nat} (h0 : (zk_h HT i).1 = 0) (h1 : (zk_h HT i).2.1 = 1) : -128 ≤ (zk_h HT i).2.2.2.1 ∧ (zk_h HT i).2.2.2.2.1 ≤ 127 := by
  unfold zk_h at h0 h1 ⊢
  cases hl : HT[i / 16]? with
  | none =>
    have e : HT.getD (i / 16) [] = [] := by
      rw [List.getD_eq_getElem?_getD, hl]
      rfl
    rw [e] at h0
    exact absurd h0 (by show ¬ (zk_h0).1 = 0; decide)
  | some l =>
    have e : HT.getD (i / 16) [] = l := by
      rw [List.getD_eq_getElem?_getD, hl]
      rfl
    rw [e] at h0 h1 ⊢
    cases hx : l[i % 16]? with
    | none =>
      have e2 : l.getD (i % 16) zk_h0 = zk_h0 := by
        rw [List.getD_eq_getElem?_getD, hx]
        rfl
      rw [e2] at h0
      exact absurd h0 (by show ¬ (zk_h0).1 = 0; decide)
    | some x =>
      have e2 : l.getD (i % 16) zk_h0 = x := by
        rw [List.getD_eq_getElem?_getD, hx]
        rfl
      rw [e2] at h0 h1 ⊢
      have h2 := List.all_eq_true.mp (List.all_eq_true.mp hbt l (List.mem_of_getElem? hl)) x (List.mem_of_getElem? hx)
      rw [h0, h1] at h2
      obtain ⟨h3, h4⟩ := zz_and (show (decide (-128 ≤ x.2.2.2.1) && decide (x.2.2.2.2.1 ≤ 127)) = true from h2)
      exact ⟨of_decide_eq_true h3, of_decide_eq_true h4⟩
theorem zt_copyB_ok {c : Nat} {HT : List (List zk_H)} {M : zk_M} {w0 : zk_W0} {A A' : zk_A} {hs : List (List Nat)} {t n : Nat} (h : cond (zk_bt HT) (zt_cpyB HT M hs t A) none = some A') : zk_SW c HT M w0 (za_copyB t n) n A A' (fun _ w w' => ∀ a, a ≠ zk_tgc A → zz_g w' a = zz_g w a) := by
  obtain ⟨hbt, h⟩ := zz_cond h
  unfold zt_cpyB at h
  obtain ⟨ht, h⟩ := zz_cond h
  have ht := zz_beq ht
  subst ht
  refine zt_cpy_gen (fun K p lv k j i b a r w la loa hia hI hr hik h1 h2 h3 => ?_) h
  obtain ⟨-, o2, o3, o4, o5, -⟩ := zk_rs_ok hr (by decide) hI
  have hrr := hr
  unfold zk_rs at hrr
  obtain ⟨hb, hrr⟩ := zz_cond hrr
  obtain ⟨-, hb⟩ := zz_and hb
  obtain ⟨hb, -⟩ := zz_and hb
  have hrr : ((zk_h HT a).2.2.1, (zk_h HT a).2.2.2.1, (zk_h HT a).2.2.2.2.1) = (la, loa, hia) := Option.some.inj hrr
  have e5 : (zk_h HT a).2.2.2.1 = loa := congrArg (fun q => q.2.1) hrr
  have e6 : (zk_h HT a).2.2.2.2.1 = hia := congrArg (fun q => q.2.2) hrr
  have hbd := zk_bt_ok hbt o2 (zz_beq hb)
  rw [e5, e6] at hbd
  have h7 : zz_a7 (zz_g w a).2.2.2 (zz_nI i) (zz_nI k) = true := zz_a7_of (fun q hq => by
    have := (o5 rfl (zz_nI i + q) (by omega)).1
    exact zk_by7 (zz_at_lt 32 _ _) (by omega) (by omega))
  show cond (zz_ik w a 1 (zz_nI i) (zz_nI k) && (zz_ik w b 1 (zz_nI j) (zz_nI k) && (Nat.ble (zz_cs r) 8 && zz_a7 (zz_g w a).2.2.2 (zz_nI i) (zz_nI k)))) _ none = _
  rw [h1, h2, h7, show Nat.ble (zz_cs r) 8 = true from Nat.ble_eq.mpr h3]
  rfl
theorem ze_callK {g : Nat → Bool} {y na b n p : Nat} {K : zz_K} {lv : List (Nat × Value)} {as st r rv : List Value} {w w' : zz_W} (hst : st = as.reverse ++ .ref b :: r) (hna : as.length = na) (hb : g b = true) (hr : zz_cs r ≤ 8) (hrv : rv.length ≤ 1) (hK : K y (.ref b :: as) w = some (rv, w')) : za_callK g y na n K (p, lv, st, w) = some (n, lv, rv ++ r, w') := by
  subst hst
  unfold za_callK
  show zz_tk na (as.reverse ++ .ref b :: r) [] _ = _
  rw [zz_tk_eq hna]
  show cond (g b && Nat.ble (zz_cs r) 8) (zz_cr n lv r (K y (.ref b :: (as ++ [])) w)) none = _
  rw [List.append_nil, hb, Nat.ble_eq.mpr hr, hK]
  exact zz_cr_eq hrv
end
end
section
/-! the virtual rows of this program, and functions by hand (written by program) -/
noncomputable section
/-- rows; cases: conditions, value: sums over place, elements there, parameter; the first case that holds counts -/
abbrev zv_Sp : Type := List Nat × List (List zl_E × zl_E)
def zv_T (t : Nat) : zv_Sp := match t with
  | _ => ([], [])
/-- a row's elements -/
def zh_f (w : zz_W) (r : Nat) : Nat → Int := fun i => zk_el w r (i : Int)
def zh_b (P : Prop) : Int := @ite Int P (Classical.propDecidable P) 1 0
theorem zh_b1 {P : Prop} (h : P) : zh_b P = 1 := by
  unfold zh_b
  exact if_pos h
theorem zh_b0 {P : Prop} (h : ¬ P) : zh_b P = 0 := by
  unfold zh_b
  exact if_neg h
theorem zh_b1' {P : Prop} (h : zh_b P = 1) : P := Classical.byContradiction (fun hn => by
  rw [zh_b0 hn] at h
  omega)
theorem zh_b0' {P : Prop} (h : zh_b P = 0) : ¬ P := fun hp => by
  rw [zh_b1 hp] at h
  omega
/-- x stands among the first n -/
def zh_in (f : Nat → Int) (n : Nat) (x : Int) : Prop := ∃ i, i < n ∧ f i = x
/-- how many of the first n of g don't stand among the first a of f -/
def zh_cn (f : Nat → Int) (a : Nat) (g : Nat → Int) : Nat → Nat
  | 0 => 0
  | n + 1 => zh_cn f a g n + @ite Nat (zh_in f a (g n)) (Classical.propDecidable _) 0 1
/-- how many of the first n are not 0 -/
def zh_nz (f : Nat → Int) : Nat → Nat
  | 0 => 0
  | n + 1 => zh_nz f n + (if f n = 0 then 0 else 1)
/-- the sum of n elements from a on -/
def zh_sm (f : Nat → Int) (a : Nat) : Nat → Int
  | 0 => 0
  | n + 1 => zh_sm f a n + f (a + n)
/-- byte k of x (the place is x + 2^31 + 2^32 k): the quotient; it is a sign of a text -/
def zh_qu (j : Int) : Int := (j % 4294967296 - 2147483648) / 2 ^ (8 * (j / 4294967296).toNat)
def zh_sg (c : Int) : Prop := c = 0 ∨ c = 10 ∨ (32 ≤ c ∧ c ≤ 126)
/-- an item and its operand; items from k on, ahead of n, declarations ahead of d uses ahead of u (the place is n + 2^32 k + 2^64 d + 2^96 u) -/
def zh_it (p o d u : Int) : Prop := p % 64 ≤ 35 ∧ (p % 64 ≤ 3 → 0 ≤ o ∧ o ≤ 511 ∧ o < d) ∧ ((7 ≤ p % 64 ∧ p % 64 ≤ 11) ∨ (29 ≤ p % 64 ∧ p % 64 ≤ 30) → 0 ≤ o ∧ o ≤ 1500 ∧ o < u) ∧ (31 ≤ p % 64 ∧ p % 64 ≤ 33 → 0 ≤ o ∧ o ≤ 749)
def zh_its (f : Nat → Int) (j : Int) : Prop := ∀ i : Nat, j / 4294967296 % 4294967296 ≤ (i : Int) → (i : Int) < j % 4294967296 → zh_it (f (2 * i)) (f (2 * i + 1)) (j / 18446744073709551616 % 4294967296) (j / 79228162514264337593543950336)
/-- what names mean: a declaration (0 .. 59) of one of six units, by 512 -/
def zh_mn (f : Nat → Int) : Prop := ∀ i : Nat, i < 720 → 0 ≤ f i ∧ f i ≤ 3071 ∧ f i % 512 ≤ 59
/-- tokens: one digit has a number 0 .. 9 -/
def zh_od (k n f : Int) : Prop := k = 3 → f = 1 → 0 ≤ n ∧ n ≤ 9
def zh_ods (a b c : Nat → Int) (j : Int) : Prop := ∀ i : Nat, (i : Int) < j → zh_od (a i) (b i) (c i)
/-- typed text: no line's end from s up to e; lines ahead of n have at most 3000 signs, b since the last end (the place is n + 2^32 b) -/
def zh_nn (f : Nat → Int) (s e : Nat) : Prop := ∀ i : Nat, s ≤ i → i < e → f i ≠ 10
def zh_lns (f : Nat → Int) (j : Int) : Prop := (∀ s e : Nat, s ≤ e → (e : Int) ≤ j % 4294967296 → e ≤ 40000 → zh_nn f s e → (e : Int) - s ≤ 3000) ∧ (j % 4294967296 ≤ 40000 → ∀ s : Nat, (s : Int) ≤ j % 4294967296 → zh_nn f s (j % 4294967296).toNat → j % 4294967296 - s ≤ j / 4294967296)
/-- digits of a coded place; elements by whole numbers -/
def zv_dg : Nat → Int → Int
  | 0, j => j % 4294967296
  | i + 1, j => zv_dg i (j / 4294967296)
def zh_e (w : zz_W) (r : Nat) : Int → Int := fun i => zk_el w r i
/-- an item of a segment (items f, uses g, labels h; items from a up to b, their depth at least d, uses from u0 up to u1, labels from l0 up to l1) -/
def zg_it (f g h : Int → Int) (a b d u0 u1 l0 l1 j : Int) : Prop :=
  64 * d ≤ f (2 * j) ∧
  ((f (2 * j) % 64 = 7 ∨ f (2 * j) % 64 = 29) → u0 ≤ f (2 * j + 1) ∧ f (2 * j + 1) < u1 ∧ g (6 * f (2 * j + 1) + 2) = 1) ∧
  ((f (2 * j) % 64 = 10 ∨ f (2 * j) % 64 = 11) → u0 ≤ f (2 * j + 1) ∧ f (2 * j + 1) < u1 ∧ 3 ≤ g (6 * f (2 * j + 1) + 2)) ∧
  ((f (2 * j) % 64 = 8 ∨ f (2 * j) % 64 = 9 ∨ f (2 * j) % 64 = 30) → u0 ≤ f (2 * j + 1) ∧ f (2 * j + 1) < u1 ∧ g (6 * f (2 * j + 1) + 2) = 2) ∧
  (f (2 * j) % 64 = 9 → a < j ∧ f (2 * j - 2) = f (2 * j) - 1 ∧ f (2 * j - 1) = f (2 * j + 1)) ∧
  (f (2 * j) % 64 = 30 → f (2 * j) = 30 ∧ ∃ m, a ≤ m ∧ m < j ∧ f (2 * m) = 8 ∧ f (2 * m + 1) = f (2 * j + 1) ∧ ∀ i, m < i → i < j → 64 ≤ f (2 * i)) ∧
  ((f (2 * j) % 64 = 31 ∨ f (2 * j) % 64 = 32) → f (2 * j) < 64 ∧ l0 ≤ f (2 * j + 1) ∧ f (2 * j + 1) < l1 ∧ a ≤ h (f (2 * j + 1)) ∧ h (f (2 * j + 1)) < b ∧ f (2 * h (f (2 * j + 1))) = 33) ∧
  (f (2 * j) % 64 = 33 → f (2 * j) = 33)
/-- a segment; the place's digits: a, b, d, u0, u1, l0, l1, an excuse -/
def zg_sg (f g h : Int → Int) (j : Int) : Prop := 1 ≤ zv_dg 7 j ∨ 3200 ≤ zv_dg 1 j ∨ 749 ≤ zv_dg 6 j ∨ (zv_dg 0 j ≤ zv_dg 1 j ∧ ∀ i, zv_dg 0 j ≤ i → i < zv_dg 1 j → zg_it f g h (zv_dg 0 j) (zv_dg 1 j) (zv_dg 2 j) (zv_dg 3 j) (zv_dg 4 j) (zv_dg 5 j) (zv_dg 6 j) i)
theorem zv_dg_nn : ∀ (i : Nat) (j : Int), 0 ≤ zv_dg i j
  | 0, j => Int.emod_nonneg _ (by decide)
  | i + 1, j => zv_dg_nn i (j / 4294967296)
theorem zg_it_c {f g h f' g' h' : Int → Int} {a b d u0 u1 l0 l1 j : Int} (ha : 0 ≤ a) (hu : 0 ≤ u0) (hl : 0 ≤ l0) (hj : a ≤ j) (hj2 : j < b) (hf : ∀ p, 0 ≤ p → 2 * a ≤ p → p < 2 * b → f' p = f p) (hg : ∀ p, 0 ≤ p → 6 * u0 ≤ p → p < 6 * u1 → p % 6 = 2 → g' p = g p) (hh : ∀ p, 0 ≤ p → l0 ≤ p → p < l1 → h' p = h p) (hi : zg_it f g h a b d u0 u1 l0 l1 j) : zg_it f' g' h' a b d u0 u1 l0 l1 j := by
  obtain ⟨h1, h2, h3, h4, h5, h6, h7, h8⟩ := hi
  have e1 := hf (2 * j) (by omega) (by omega) (by omega)
  have e2 := hf (2 * j + 1) (by omega) (by omega) (by omega)
  unfold zg_it
  rw [e1, e2]
  refine ⟨h1, fun c => ?_, fun c => ?_, fun c => ?_, fun c => ?_, fun c => ?_, fun c => ?_, h8⟩
  · obtain ⟨x1, x2, x3⟩ := h2 c
    exact ⟨x1, x2, by rw [hg _ (by omega) (by omega) (by omega) (by omega)]; exact x3⟩
  · obtain ⟨x1, x2, x3⟩ := h3 c
    exact ⟨x1, x2, by rw [hg _ (by omega) (by omega) (by omega) (by omega)]; exact x3⟩
  · obtain ⟨x1, x2, x3⟩ := h4 c
    exact ⟨x1, x2, by rw [hg _ (by omega) (by omega) (by omega) (by omega)]; exact x3⟩
  · obtain ⟨x1, x2, x3⟩ := h5 c
    exact ⟨x1, by rw [hf _ (by omega) (by omega) (by omega)]; exact x2, by rw [hf _ (by omega) (by omega) (by omega)]; exact x3⟩
  · obtain ⟨x1, m, x2, x3, x4, x5, x6⟩ := h6 c
    refine ⟨x1, m, x2, x3, by rw [hf _ (by omega) (by omega) (by omega)]; exact x4, by rw [hf _ (by omega) (by omega) (by omega)]; exact x5, fun i y1 y2 => ?_⟩
    rw [hf _ (by omega) (by omega) (by omega)]
    exact x6 i y1 y2
  · obtain ⟨x1, x2, x3, x4, x5, x6⟩ := h7 c
    rw [hh _ (by omega) x2 x3]
    exact ⟨x1, x2, x3, x4, x5, by rw [hf _ (by omega) (by omega) (by omega)]; exact x6⟩
theorem zg_sg_c {f g h f' g' h' : Int → Int} {j : Int} (hf : ∀ p, 0 ≤ p → 2 * zv_dg 0 j ≤ p → p < 2 * zv_dg 1 j → f' p = f p) (hg : ∀ p, 0 ≤ p → 6 * zv_dg 3 j ≤ p → p < 6 * zv_dg 4 j → p % 6 = 2 → g' p = g p) (hh : ∀ p, 0 ≤ p → zv_dg 5 j ≤ p → p < zv_dg 6 j → h' p = h p) (hs : zg_sg f g h j) : zg_sg f' g' h' j := by
  rcases hs with hs | hs | hs | ⟨h1, h2⟩
  · exact Or.inl hs
  · exact Or.inr (Or.inl hs)
  · exact Or.inr (Or.inr (Or.inl hs))
  · exact Or.inr (Or.inr (Or.inr ⟨h1, fun i i1 i2 => zg_it_c (zv_dg_nn _ _) (zv_dg_nn _ _) (zv_dg_nn _ _) i1 i2 hf hg hh (h2 i i1 i2)⟩))
/-- items while a draft is typed (items f, uses g, labels h, declarations d, kinds of outer names e): what a use becomes; what is known of a use -/
def zg_K (d e : Int → Int) (t : Int) : Int := if t ≤ 59 then d (6 * t) else e (t - 60)
def zg_T (g : Int → Int) (s y : Int) : Int := if 0 ≤ g (6 * y + 3) then (if s = 8 then g (6 * y + 4) else g (6 * y + 3)) else -1 - g (6 * y + 5)
def zg_ok (g d e : Int → Int) (y : Int) : Prop := (0 ≤ g (6 * y + 3) → g (6 * y + 2) ≤ 2 ∧ g (6 * y + 3) ≤ 403 ∧ 0 ≤ g (6 * y + 4) ∧ g (6 * y + 3) + g (6 * y + 4) ≤ 404) ∧ (g (6 * y + 3) < 0 → 0 ≤ g (6 * y + 5) ∧ g (6 * y + 5) ≤ 119 ∧ zg_K d e (g (6 * y + 5)) = g (6 * y + 2))
def zg_us (s : Int) : Prop := (7 ≤ s ∧ s ≤ 11) ∨ s = 29 ∨ s = 30
/-- item j; x says which use it has; those ahead of k are typed -/
def zg_ti (f g h d e x : Int → Int) (n k u l j : Int) : Prop :=
  (zg_us (f (2 * j) % 64) → 0 ≤ x j ∧ x j < u ∧ (k ≤ j → f (2 * j + 1) = x j) ∧ (j < k → f (2 * j + 1) = zg_T g (f (2 * j) % 64) (x j) ∧ zg_ok g d e (x j))) ∧
  ((f (2 * j) % 64 = 7 ∨ f (2 * j) % 64 = 29) → g (6 * x j + 2) = 1) ∧
  ((f (2 * j) % 64 = 10 ∨ f (2 * j) % 64 = 11) → 3 ≤ g (6 * x j + 2)) ∧
  ((f (2 * j) % 64 = 8 ∨ f (2 * j) % 64 = 9 ∨ f (2 * j) % 64 = 30) → g (6 * x j + 2) = 2) ∧
  (f (2 * j) % 64 = 9 → 0 < j ∧ f (2 * j - 2) = f (2 * j) - 1 ∧ x (j - 1) = x j) ∧
  (f (2 * j) % 64 = 30 → f (2 * j) = 30 ∧ ∃ m, 0 ≤ m ∧ m < j ∧ f (2 * m) = 8 ∧ x m = x j ∧ ∀ i, m < i → i < j → 64 ≤ f (2 * i)) ∧
  ((f (2 * j) % 64 = 31 ∨ f (2 * j) % 64 = 32) → f (2 * j) < 64 ∧ (k ≤ j → 0 ≤ f (2 * j + 1) ∧ f (2 * j + 1) < l ∧ 0 ≤ h (f (2 * j + 1)) ∧ h (f (2 * j + 1)) < n ∧ f (2 * h (f (2 * j + 1))) = 33) ∧ (j < k → 0 ≤ f (2 * j + 1) ∧ f (2 * j + 1) < n ∧ f (2 * f (2 * j + 1)) = 33)) ∧
  (f (2 * j) % 64 = 33 → f (2 * j) = 33)
/-- the place's digits: n, k, u, l -/
def zg_ty (f g h d e : Int → Int) (j : Int) : Prop := ∃ x : Int → Int, ∀ i, 0 ≤ i → i < zv_dg 0 j → zg_ti f g h d e x (zv_dg 0 j) (zv_dg 1 j) (zv_dg 2 j) (zv_dg 3 j) i
/-- a draft that is typed: what a check and what is behind it have to do with each other; the items ahead of n -/
def zg_M (d e : Int → Int) (c o : Int) : Prop := (0 ≤ c ∧ 0 ≤ o ∧ o + c ≤ 404) ∨ (c = o ∧ o < 0 ∧ -120 ≤ o ∧ zg_K d e (-1 - o) = 2)
def zg_fi (f d e : Int → Int) (n j : Int) : Prop :=
  ((f (2 * j) % 64 = 7 ∨ f (2 * j) % 64 = 29) → (0 ≤ f (2 * j + 1) ∧ f (2 * j + 1) ≤ 403) ∨ (f (2 * j + 1) < 0 ∧ -120 ≤ f (2 * j + 1) ∧ zg_K d e (-1 - f (2 * j + 1)) = 1)) ∧
  ((f (2 * j) % 64 = 10 ∨ f (2 * j) % 64 = 11) → f (2 * j + 1) < 0 ∧ -120 ≤ f (2 * j + 1) ∧ 3 ≤ zg_K d e (-1 - f (2 * j + 1))) ∧
  ((f (2 * j) % 64 = 8 ∨ f (2 * j) % 64 = 9 ∨ f (2 * j) % 64 = 30) → -120 ≤ f (2 * j + 1) ∧ f (2 * j + 1) ≤ 404) ∧
  (f (2 * j) % 64 = 9 → 0 < j ∧ f (2 * j - 2) = f (2 * j) - 1 ∧ zg_M d e (f (2 * j - 1)) (f (2 * j + 1))) ∧
  (f (2 * j) % 64 = 30 → f (2 * j) = 30 ∧ ∃ m, 0 ≤ m ∧ m < j ∧ f (2 * m) = 8 ∧ zg_M d e (f (2 * m + 1)) (f (2 * j + 1)) ∧ ∀ i, m < i → i < j → 64 ≤ f (2 * i)) ∧
  ((f (2 * j) % 64 = 31 ∨ f (2 * j) % 64 = 32) → f (2 * j) < 64 ∧ 0 ≤ f (2 * j + 1) ∧ f (2 * j + 1) < n ∧ f (2 * f (2 * j + 1)) = 33) ∧
  (f (2 * j) % 64 = 33 → f (2 * j) = 33)
def zg_fn (f d e : Int → Int) (n : Int) : Prop := ∀ i, 0 ≤ i → i < n → zg_fi f d e n i
/-- names that are meant: declared ones, outer ones; declarations: kinds, locals, entries -/
def zg_rg (dc oc t : Int) : Prop := (0 ≤ t ∧ t < dc ∧ t < 60) ∨ (60 ≤ t ∧ t < 60 + oc ∧ t < 120)
def zg_rn (f : Int → Int) (n dc oc : Int) : Prop := ∀ i, 0 ≤ i → i < n → f (2 * i) % 64 ≤ 35 ∧ (zg_us (f (2 * i) % 64) → 0 ≤ f (2 * i + 1) ∨ zg_rg dc oc (-1 - f (2 * i + 1))) ∧ ((f (2 * i) % 64 ≤ 3 ∨ (31 ≤ f (2 * i) % 64 ∧ f (2 * i) % 64 ≤ 33)) → 0 ≤ f (2 * i + 1))
def zg_de (f d : Int → Int) (n dc : Int) : Prop := ∀ k, 0 ≤ k → k < dc → k < 512 → (1 ≤ d (6 * k) ∧ d (6 * k) ≤ 7) ∧ (0 ≤ d (6 * k + 2) ∧ d (6 * k + 2) ≤ 400) ∧ 0 ≤ d (6 * k + 5) ∧ d (6 * k + 5) < n ∧ 0 ≤ f (2 * d (6 * k + 5)) ∧ f (2 * d (6 * k + 5)) ≤ 3
/-- a draft that is typed; the place's digits: items, declarations, outer names -/
def zg_dr (f d e : Int → Int) (j : Int) : Prop := zg_fn f d e (zv_dg 0 j) ∧ zg_rn f (zv_dg 0 j) (zv_dg 1 j) (zv_dg 2 j) ∧ zg_de f d (zv_dg 0 j) (zv_dg 1 j)
/-- one of six, by a number; rows of the six units; six digits -/
def zv_qt : Nat → Int → Int
  | 0, j => j
  | i + 1, j => zv_qt i (j / 4294967296)
def zg_s6 {α : Type} (x0 x1 x2 x3 x4 x5 : α) (v : Int) : α := if v ≤ 0 then x0 else if v ≤ 1 then x1 else if v ≤ 2 then x2 else if v ≤ 3 then x3 else if v ≤ 4 then x4 else x5
def zg_R (w : zz_W) (r : Nat) (v : Int) : Int → Int := zg_s6 (zh_e w r) (zh_e w (r + 17)) (zh_e w (r + 34)) (zh_e w (r + 51)) (zh_e w (r + 68)) (zh_e w (r + 85)) v
def zg_g (R v : Int) : Int := zg_s6 (zv_dg 0 R) (zv_dg 1 R) (zv_dg 2 R) (zv_dg 3 R) (zv_dg 4 R) (zv_dg 5 R) v
/-- what names mean (m), where their words are (a), declarations (D), kinds of outer names (O): names of one unit; declarations that are there; outer names -/
def zm_P (m a : Int → Int) (D : Int → Int → Int) (G v t : Int) : Prop := m (120 * v + t) = 512 * v + t ∧ 0 ≤ a (60 * v + t) ∧ (D v (6 * t) = 1 → a (60 * v + t) + 1 ≤ G) ∧ (D v (6 * t) = 2 → a (60 * v + t) + D v (6 * t + 1) ≤ G)
def zm_a (m a : Int → Int) (D : Int → Int → Int) (u i G : Int) (dc : Int → Int) : Prop := (∀ v t, 0 ≤ v → v < u → 0 ≤ t → t < dc v → t < 60 → zm_P m a D G v t) ∧ (∀ t, 0 ≤ t → t < i → t < 60 → zm_P m a D G u t)
def zm_gd (U : Int) (dc : Int → Int) (x : Int) : Prop := ∃ v k, 0 ≤ v ∧ v < U ∧ v < 6 ∧ 0 ≤ k ∧ k < dc v ∧ k < 60 ∧ x = 512 * v + k
def zm_kd (D : Int → Int → Int) (x : Int) : Int := D (x / 512) (6 * (x % 512))
def zm_Q (m : Int → Int) (D O : Int → Int → Int) (U : Int) (dc : Int → Int) (v t : Int) : Prop := zm_gd U dc (m (120 * v + 60 + t)) ∧ zm_kd D (m (120 * v + 60 + t)) = O v t
def zm_b (m : Int → Int) (D O : Int → Int → Int) (u i U : Int) (dc oc : Int → Int) : Prop := (∀ v t, 0 ≤ v → v < u → 0 ≤ t → t < oc v → t < 60 → zm_Q m D O U dc v t) ∧ (∀ t, 0 ≤ t → t < i → t < 60 → zm_Q m D O U dc u t)
def zm_ow (o : Int → Int) (n U : Int) (dc : Int → Int) : Prop := ∀ i, 0 ≤ i → i < n → 0 ≤ o i → zm_gd U dc (o i)
/-- items that are worked out (f: items of a unit, n: how many) -/
def zm_ad (m a : Int → Int) (v o : Int) : Int := a (60 * (m (120 * v - 1 - o) / 512) + m (120 * v - 1 - o) % 512)
def zm_sz (m : Int → Int) (D : Int → Int → Int) (v o : Int) : Int := D (m (120 * v - 1 - o) / 512) (6 * (m (120 * v - 1 - o) % 512) + 1)
def zm_M (m a : Int → Int) (D : Int → Int → Int) (v c o : Int) : Prop := (0 ≤ c ∧ 0 ≤ o ∧ o + c ≤ 404) ∨ (c = o ∧ -120 ≤ o ∧ o < 0 ∧ 0 ≤ zm_ad m a v o ∧ zm_ad m a v o + zm_sz m D v o ≤ 24576)
def zm_cl (f D : Int → Int → Int) (U : Int) (n : Int → Int) (x : Int) : Prop := ∃ v k, 0 ≤ v ∧ v < U ∧ v < 6 ∧ 0 ≤ k ∧ k < 60 ∧ x = 512 * v + k ∧ (3 ≤ D v (6 * k) ∧ D v (6 * k) ≤ 7) ∧ (0 ≤ D v (6 * k + 2) ∧ D v (6 * k + 2) ≤ 400) ∧ 0 ≤ D v (6 * k + 5) ∧ D v (6 * k + 5) < n v ∧ 0 ≤ f v (2 * D v (6 * k + 5)) ∧ f v (2 * D v (6 * k + 5)) ≤ 3
def zm_it (f D : Int → Int → Int) (m a : Int → Int) (U : Int) (n : Int → Int) (v i : Int) : Prop :=
  f v (2 * i) % 64 ≤ 35 ∧
  ((f v (2 * i) % 64 ≤ 3 ∨ (31 ≤ f v (2 * i) % 64 ∧ f v (2 * i) % 64 ≤ 33)) → 0 ≤ f v (2 * i + 1)) ∧
  ((f v (2 * i) % 64 = 7 ∨ f v (2 * i) % 64 = 29) → (0 ≤ f v (2 * i + 1) ∧ f v (2 * i + 1) ≤ 403) ∨ (-120 ≤ f v (2 * i + 1) ∧ f v (2 * i + 1) < 0 ∧ 0 ≤ zm_ad m a v (f v (2 * i + 1)) ∧ zm_ad m a v (f v (2 * i + 1)) ≤ 24575)) ∧
  ((f v (2 * i) % 64 = 10 ∨ f v (2 * i) % 64 = 11) → -120 ≤ f v (2 * i + 1) ∧ f v (2 * i + 1) < 0 ∧ zm_cl f D U n (m (120 * v - 1 - f v (2 * i + 1)))) ∧
  ((f v (2 * i) % 64 = 8 ∨ f v (2 * i) % 64 = 9 ∨ f v (2 * i) % 64 = 30) → -120 ≤ f v (2 * i + 1) ∧ f v (2 * i + 1) ≤ 404) ∧
  (f v (2 * i) % 64 = 9 → 0 < i ∧ f v (2 * i - 2) = f v (2 * i) - 1 ∧ zm_M m a D v (f v (2 * i - 1)) (f v (2 * i + 1))) ∧
  (f v (2 * i) % 64 = 30 → f v (2 * i) = 30 ∧ ∃ q, 0 ≤ q ∧ q < i ∧ f v (2 * q) = 8 ∧ zm_M m a D v (f v (2 * q + 1)) (f v (2 * i + 1)) ∧ ∀ z, q < z → z < i → 64 ≤ f v (2 * z)) ∧
  ((f v (2 * i) % 64 = 31 ∨ f v (2 * i) % 64 = 32) → f v (2 * i) < 64 ∧ 0 ≤ f v (2 * i + 1) ∧ f v (2 * i + 1) < n v ∧ f v (2 * f v (2 * i + 1)) = 33)
def zm_st (f D : Int → Int → Int) (m a : Int → Int) (U : Int) (n : Int → Int) : Prop := ∀ v i, 0 ≤ v → v < U → v < 6 → 0 ≤ i → i < n v → zm_it f D m a U n v i
/-- x is a good index for item j; whatever STORE waits behind q, x is good for it -/
def zm_x (f : Int → Int → Int) (m a : Int → Int) (v j x : Int) : Prop := 0 ≤ x ∧ (0 ≤ f v (2 * j + 1) → f v (2 * j + 1) + x ≤ 403) ∧ (f v (2 * j + 1) < 0 → zm_ad m a v (f v (2 * j + 1)) + x ≤ 24575)
def zm_T (f : Int → Int → Int) (m a n : Int → Int) (v q x : Int) : Prop := ∀ j, q ≤ j → j < n v → f v (2 * j) = 30 → (∀ z, q ≤ z → z < j → 64 ≤ f v (2 * z)) → zm_x f m a v j x
/-- frame b (r: frames) was called from the one below it -/
def zm_c (f : Int → Int → Int) (m a n r : Int → Int) (U b : Int) : Prop := (0 ≤ r (415 * b + 412) ∧ r (415 * b + 412) < U ∧ r (415 * b + 412) < 6) ∧ (0 ≤ r (415 * b + 413) ∧ r (415 * b + 413) ≤ 3200) ∧ (0 ≤ r (415 * b + 414) ∧ r (415 * b + 414) ≤ 131) ∧ zm_T f m a n (r (415 * b + 412)) (r (415 * b + 413)) (r (415 * b - 415)) ∧ (r (415 * b + 414) = 0 → ∀ x, zm_T f m a n (r (415 * b + 412)) (r (415 * b + 413)) x) ∧ (r (415 * b + 413) < n (r (415 * b + 412)) → f (r (415 * b + 412)) (2 * r (415 * b + 413)) % 64 ≠ 9)
/-- frame c - 1 is at work, at item p of unit u -/
def zm_d (f D : Int → Int → Int) (m a r : Int → Int) (c u p U : Int) (n : Int → Int) : Prop := zm_st f D m a U n ∧ (0 ≤ u ∧ u < U ∧ u < 6) ∧ (∀ b, 1 ≤ b → b < c → zm_c f m a n r U b) ∧ zm_T f m a n u p (r (415 * c - 415)) ∧ (p < n u → f u (2 * p) % 64 = 9 → zm_x f m a u p (r (415 * c - 415 + f u (2 * p) / 64)))
/-- c frames are there, declaration x is called (from item q of unit u, its words lie from e on) -/
def zm_k (f D : Int → Int → Int) (m a r : Int → Int) (c u q U e x : Int) (n : Int → Int) : Prop := zm_st f D m a U n ∧ zm_cl f D U n x ∧ (1 ≤ c → (0 ≤ u ∧ u < U ∧ u < 6) ∧ (∀ b, 1 ≤ b → b < c → zm_c f m a n r U b) ∧ (0 ≤ e ∧ e ≤ 131) ∧ zm_T f m a n u q (r (415 * c - 415)) ∧ (e = 0 → ∀ y, zm_T f m a n u q y) ∧ (q < n u → f u (2 * q) % 64 ≠ 9))
/-- the reference's steps: how deep the brackets are, how many procedures have ended, how many are declared -/
def zb_v (x : Int) : Int := if x = 13 ∨ x = 16 then 1 else if x = 15 ∨ x = 18 then -1 else 0
def zb_D (f : Int → Int) (a : Int) : Nat → Int
  | 0 => 0
  | n + 1 => zb_D f a n + zb_v (f (a + (n : Int)))
def zb_F (f : Int → Int) (a : Int) : Nat → Int
  | 0 => 0
  | n + 1 => zb_F f a n + (if f (a + (n : Int)) = 1 then 1 else 0)
def zb_ok (f : Int → Int) (a n : Int) : Prop := ∀ k : Nat, (k : Int) < n → (0 ≤ zb_D f a k ∧ zb_D f a k ≤ 63) ∧ ((14 ≤ f (a + (k : Int)) ∧ f (a + (k : Int)) ≤ 15 ∨ 17 ≤ f (a + (k : Int)) ∧ f (a + (k : Int)) ≤ 18) → 1 ≤ zb_D f a k)
def zb_P (f : Int → Int) : Nat → Int
  | 0 => 0
  | n + 1 => zb_P f n + (if 3 ≤ f (n : Int) then 1 else 0)
/-- the reference's parser: a fault is known; a name is used as a kind; a step; contexts, unaries, locals; from where on the last steps are of an expression -/
def zs_x (r : Int → Int) : Prop := 0 ≤ r 1 ∨ 0 ≤ r 3 ∨ 0 ≤ r 4
def zs_u (un uk : Int → Int) (l n a k : Int) : Prop := ∃ j : Int, 0 ≤ j ∧ l ≤ j ∧ j < n ∧ un j = a ∧ uk j = k
def zs_st (sw sa sb sc sd un uk : Int → Int) (n b p : Int) : Prop :=
  (3 ≤ sw p → sw p ≤ 10 → 0 ≤ sc p ∧ sc p ≤ 7) ∧
  ((sw p = 5 ∨ sw p = 11) → (sb p = -1 ∧ zs_u un uk 0 n (sa p) 1) ∨ (0 ≤ sb p ∧ sb p ≤ 1616)) ∧
  (sw p = 6 → (sb p = -1 ∧ zs_u un uk 0 n (sa p) 2) ∨ (0 ≤ sb p ∧ 1 ≤ sd p ∧ sb p + 4 * sd p ≤ 1620)) ∧
  (sw p = 7 → b < p ∧ sw (p - 1) = 6 ∧ sa (p - 1) = sa p ∧ sb (p - 1) = sb p ∧ sc (p - 1) = sc p) ∧
  (sw p = 8 → 0 ≤ sb p ∧ sb p ≤ 4 ∧ zs_u un uk 0 n (sa p) (3 + sb p)) ∧
  (sw p = 12 → ∃ j, b ≤ j ∧ j < p ∧ sw j = 6 ∧ sa j = sa p ∧ sb j = sb p ∧ sc j = 0 ∧ ∀ m, j < m → m < p → 3 ≤ sw m ∧ sw m ≤ 10 ∧ 1 ≤ sc m) ∧
  (sw p = 20 → ∃ j, b ≤ j ∧ j < p ∧ sw j = 2 ∧ ∀ m, j < m → m < p → 3 ≤ sw m ∧ sw m ≤ 10) ∧
  (sw p = 0 → p = b ∨ sw (p - 1) = 1)
def zs_sts (sw sa sb sc sd un uk : Int → Int) (n b e : Int) : Prop := ∀ p, b ≤ p → p < e → zs_st sw sa sb sc sd un uk n b p
def zs_cx (co cd cs cp : Int → Int) (c z : Int) : Prop := ∀ i, 0 ≤ i → i < c → (i < c - 1 ∨ z ≠ 1) → (co 0 ≤ co i ∧ 0 ≤ co i ∧ co i ≤ 7) ∧ (co 0 ≤ cd i ∧ cd i ≤ cs i ∧ cs i ≤ cp i ∧ cp i ≤ 10) ∧ (i < c - 1 ∨ 2 ≤ z → cp i ≤ 7)
def zs_un (co ud : Int → Int) (m : Int) : Prop := ∀ i, 0 ≤ i → i < m → co 0 ≤ ud i ∧ 0 ≤ ud i ∧ ud i ≤ 7
def zs_lc (lp ls : Int → Int) (l : Int) : Prop := ∀ i, 0 ≤ i → i < l → 0 ≤ lp i ∧ lp i ≤ 1616 ∧ lp i + 4 * ls i ≤ 1620
def zs_vo (vo bv : Int → Int) (v l b : Int) : Prop := (∀ i, 0 ≤ i → i < v → 0 ≤ vo i ∧ vo i < l) ∧ (∀ i, 0 ≤ i → i < b → 0 ≤ bv i ∧ bv i ≤ v) ∧ ∀ i j, 0 ≤ i → i ≤ j → j < b → bv i ≤ bv j
def zs_S (w : zz_W) (n u : Int) : Prop := zs_sts (zh_e w 208) (zh_e w 209) (zh_e w 210) (zh_e w 211) (zh_e w 212) (zh_e w 229) (zh_e w 230) n (8000 * u) (8000 * u + zh_e w 207 u)
def zs_ps (w : zz_W) (n u c z m l : Int) : Prop := zs_x (zh_e w 224) ∨ (zs_S w n u ∧ zs_cx (zh_e w 250) (zh_e w 240) (zh_e w 241) (zh_e w 242) c z ∧ zs_un (zh_e w 250) (zh_e w 253) m ∧ zs_lc (zh_e w 227) (zh_e w 226) l)
def zs_t (sw sc : Int → Int) (o b : Int) : Nat → Int
  | 0 => 0
  | n + 1 => if 3 ≤ sw (b + (n : Int)) ∧ sw (b + (n : Int)) ≤ 10 ∧ o ≤ sc (b + (n : Int)) then zs_t sw sc o b n else (n : Int) + 1
def zs_T (w : zz_W) (u : Int) : Int := @ite Int (zs_x (zh_e w 224)) (Classical.propDecidable _) 0 (zs_t (zh_e w 208) (zh_e w 211) (zh_e w 250 0) (8000 * u) (zh_e w 207 u).toNat)
/-- uses stand at unlike places, names that wait in contexts too, all ahead of token t; y - 1 is one that waits besides them (y = 0: none); tokens' places rise, they are below b -/
def zs_ud (up cp ck ta : Int → Int) (n c t y : Int) : Prop :=
  (∀ i j, 0 ≤ i → i < j → j < n → up i ≠ up j) ∧ (∀ i, 0 ≤ i → i < n → 0 ≤ up i ∧ up i < ta t) ∧
  (∀ i, 0 ≤ i → i < c → 2 ≤ ck i → cp i < ta t ∧ ∀ k, 0 ≤ k → k < n → up k ≠ cp i) ∧
  (∀ i j, 0 ≤ i → i < j → j < c → 2 ≤ ck i → 2 ≤ ck j → cp i ≠ cp j) ∧
  (1 ≤ y → y - 1 < ta t ∧ (∀ k, 0 ≤ k → k < n → up k ≠ y - 1) ∧ ∀ i, 0 ≤ i → i < c → 2 ≤ ck i → cp i ≠ y - 1)
/-- the next place above l among the first k: z - 1 (0: none); how many of the first m are not above l -/
def zs_nx (up : Int → Int) (k l z : Int) : Prop := (z = 0 ∧ ∀ i, 0 ≤ i → i < k → up i ≤ l) ∨ (1 ≤ z ∧ z - 1 < k ∧ l < up (z - 1) ∧ ∀ i, 0 ≤ i → i < k → l < up i → up (z - 1) ≤ up i)
def zs_cn (up : Int → Int) (l : Int) : Nat → Int
  | 0 => 0
  | m + 1 => zs_cn up l m + (if 0 ≤ up (m : Int) ∧ up (m : Int) ≤ l then 1 else 0)
def zs_tk (ta : Int → Int) (n b : Int) : Prop := (∀ i j, 0 ≤ i → i < j → j < n → ta i < ta j) ∧ ∀ i, 0 ≤ i → i < n → ta i < b
/-- operations on longs by their names: number, both operands; the table of names: where a name begins to be looked for; names that are known -/
def zn_op (o : Nat) (x y : Int) : Int := match o with
  | 0 => (Int64.ofInt x * Int64.ofInt y).toInt
  | 1 => (Int64.ofInt x + Int64.ofInt y).toInt
  | 2 => (Int64.ofInt x ^^^ Int64.ofInt y).toInt
  | 3 => (Int64.ofInt x ||| Int64.ofInt y).toInt
  | 4 => (Int64.ofInt x &&& Int64.ofInt y).toInt
  | 5 => (Int64.ofInt x <<< ((Int32.ofInt y).toInt64 &&& 63)).toInt
  | 6 => (Int64.ofInt x >>> ((Int32.ofInt y).toInt64 &&& 63)).toInt
  | 7 => ((Int64.ofInt x).toInt32).toInt
  | _ => (Int32.ofInt x &&& Int32.ofInt y).toInt
def zn_oc (j : Int) : Int := zn_op (j % 16).toNat (j / 16 % 18446744073709551616 - 9223372036854775808) (j / 16 / 18446744073709551616 - 9223372036854775808)
def zn_mx (a b : Int) : Int := zn_op 1 (zn_op 0 a 31) (zn_op 0 b 1000003)
def zn_h (a b : Int) : Int := zn_op 8 (zn_op 7 (zn_op 2 (zn_op 2 (zn_mx a b) (zn_op 6 (zn_mx a b) 17)) (zn_op 6 (zn_mx a b) 40)) 0) 131071
def zn_KA : List Int := [7496054, 1668248176, 26217, 1702063205, 435610544247, 121437875889522, 7632239, 28265, 1969513569, 1969386867, 6581857, 29295, 7499640, 7499630, 7629939, 1970564211, 7105651, 7107187, 6386291, 1986817139, 1986818675, 1986097779, 1953265005, 504464438637, 7760228, 1970694500, 1768449645, 1869375085, 1768453229, 1869378669, 29290, 1919705450, 30518463020890483, 461195539042, 504279360609, 1769237619, 504280411251, 1768189537, 6910575, 1769107320, 6911340, 25196, 26732, 30572, 7692908, 7694444, 25203, 26739, 30579, 7431522, 6647394, 2053467234, 2054448994, 2054450274, 2053465954, 119165922077794, 119165921093474, 106, 7102826, 7368558, 1702260589, 7630702, 6776174, 26988, 24940, 98, 2054251874, 2053467746, 7629922, 6645602, 7628642, 6646882, 500236121134, 418564367406, 119170031970094, 431349132078, 500068087598, 431416637230, 439904987182, 435745808942, 111477510927150, 121390429397294, 1952805678, 8243105135629529646, 7237970032640093742, 6711598, 28549237963122990, 435728180526, 112602842555694, 122537084284206, 469836391726, 500101902894, 491311228206, 1869768058, 29793, 12406, 12662, 12385, 12641, 12897, 13153, 12404, 12660, 12916, 13172, 13428, 13684, 13940, 14196, 12403, 12659, 12915, 13171, 13427, 13683, 13939, 14195, 14452, 14708, 12395, 12651, 28775, 28787, 28774, 24946]
def zn_KB : List Int := [0, 0, 0, 0, 0, 0, 0, 0, 0, 0, 0, 0, 0, 0, 0, 0, 0, 0, 0, 0, 0, 0, 0, 0, 0, 0, 0, 0, 0, 0, 0, 0, 0, 0, 0, 0, 0, 0, 0, 0, 0, 0, 0, 0, 0, 0, 0, 0, 0, 0, 0, 0, 0, 0, 0, 0, 0, 0, 0, 0, 0, 0, 0, 0, 0, 0, 0, 0, 0, 0, 0, 0, 0, 0, 0, 0, 0, 0, 0, 0, 0, 0, 0, 0, 29285, 0, 0, 0, 0, 0, 0, 0, 0, 0, 0, 0, 0, 0, 0, 0, 0, 0, 0, 0, 0, 0, 0, 0, 0, 0, 0, 0, 0, 0, 0, 0, 0, 0, 0, 0, 0, 0, 0, 0, 0]
def zn_l (w : zz_W) (r : Nat) (i : Int) : Int := zk_lel w r i.toNat
/-- each of the first n names is found from its beginning on; they are unlike; the first 125 are the known ones -/
def zs_nm (A B T : Int → Int) (n : Int) : Prop :=
  (∀ i, 0 ≤ i → i < n → ∃ d : Int, 0 ≤ d ∧ T ((zn_h (A i) (B i) + d) % 131072) = i + 1 ∧ ∀ e, 0 ≤ e → e < d → 1 ≤ T ((zn_h (A i) (B i) + e) % 131072)) ∧
  (∀ i j, 0 ≤ i → i < j → j < n → A i = A j → B i = B j → False) ∧
  (∀ i, 0 ≤ i → i < n → i < 125 → A i = zn_KA.getD i.toNat 0 ∧ B i = zn_KB.getD i.toNat 0)
/-- m slots from the beginning of (a, b) on are taken, none by it; the next one is k -/
def zs_wk (A B T : Int → Int) (n k m a b : Int) : Prop := k = (zn_h a b + m) % 131072 ∧ 0 ≤ m ∧ ∀ e, 0 ≤ e → e < m → 1 ≤ T ((zn_h a b + e) % 131072) ∧ (T ((zn_h a b + e) % 131072) ≤ n → A (T ((zn_h a b + e) % 131072) - 1) = a → B (T ((zn_h a b + e) % 131072) - 1) = b → False)
/-- the known name n is (a, b); the names from l on up to 125 are the known ones -/
def zn_kc (n a b : Int) : Prop := a = zn_KA.getD n.toNat 0 ∧ b = zn_KB.getD n.toNat 0
def zn_k5 (A B : Int → Int) (l : Int) : Prop := ∀ i, l ≤ i → 0 ≤ i → i < 125 → zn_kc i (A i) (B i)
def zn_w (A B T : Int → Int) (j : Int) : Prop := zs_wk A B T (j % 4294967296) (j / 4294967296 % 1048576) (j / 4503599627370496 % 1048576) (j / 4722366482869645213696 % 18446744073709551616 - 9223372036854775808) (j / 4722366482869645213696 / 18446744073709551616 - 9223372036854775808)
/-- plain names: small letters and digits, from the lowest byte on; tokens that are names; names of uses, contexts, declarations -/
def zp_ch (c : Int) : Prop := (48 ≤ c ∧ c ≤ 57) ∨ (97 ≤ c ∧ c ≤ 122)
def zp_k : Nat → Int → Prop
  | 0, a => a = 0
  | n + 1, a => ∃ b c : Int, zp_k n b ∧ zp_ch c ∧ a = b + c * 256 ^ n
def zp_n (a b : Int) : Prop := b = 0 ∧ ∃ n : Nat, 1 ≤ n ∧ n ≤ 8 ∧ zp_k n a
def zp_tn (A B K V : Int → Int) (n t : Int) : Prop := ∀ i, 0 ≤ i → i < t → K i = 1 → 0 ≤ V i ∧ V i < n ∧ zp_n (A (V i)) (B (V i))
def zp_pp (A B U K C F : Int → Int) (n c f : Int) : Prop := (∀ i, 0 ≤ i → i < n → 0 ≤ U i ∧ zp_n (A (U i)) (B (U i))) ∧ (∀ i, 0 ≤ i → i < c → 2 ≤ K i → 0 ≤ C i ∧ zp_n (A (C i)) (B (C i))) ∧ ∀ i, 0 ≤ i → i < f → 0 ≤ F i ∧ zp_n (A (F i)) (B (F i))
/-- a use is what its name is declared as in the unit (first of the name), or an outer name; all uses up to a place are; outer names are plain; a name is not declared between -/
def zr_rs (U Z F K O Q : Int → Int) (f o i : Int) : Prop := (∃ k, 0 ≤ k ∧ k < f ∧ F k = U i ∧ K k = Z i ∧ ∀ m, 0 ≤ m → m < k → F m ≠ U i) ∨ ((∀ m, 0 ≤ m → m < f → F m ≠ U i) ∧ ∃ q, 0 ≤ q ∧ q < o ∧ O q = U i ∧ Q q = Z i)
def zr_rv (U Z P F K O Q W : Int → Int) (n l o f : Int) : Prop := zs_x W ∨ ∀ i, 0 ≤ i → i < n → P i ≤ l → zr_rs U Z F K O Q f o i
def zr_op (A B O Q : Int → Int) (o : Int) : Prop := ∀ q, 0 ≤ q → q < o → 0 ≤ O q ∧ zp_n (A (O q)) (B (O q)) ∧ 0 ≤ Q q ∧ Q q ≤ 7
def zr_nf (F : Int → Int) (l h x : Int) : Prop := ∀ i, 0 ≤ i → l ≤ i → i < h → F i ≠ x - 1
/-- the typed text: how many lines; a dot has one of six letters behind it (x = 1: the last sign is one that waits); a word that is said so -/
def zy_c (T : Int → Int) (b : Int) : Nat → Int
  | 0 => 0
  | n + 1 => zy_c T b n + (if T (b + (n : Int)) = 10 then 1 else 0)
def zy_ok (c : Int) : Prop := c = 100 ∨ c = 103 ∨ c = 107 ∨ c = 115 ∨ c = 116 ∨ c = 119
def zy_d (T : Int → Int) (b n x : Int) : Prop := ∀ i, 0 ≤ i → i < n → T (b + i) = 46 → (i + 1 < n ∧ zy_ok (T (b + i + 1))) ∨ (i + 1 = n ∧ x = 1)
def zy_okb (c : Int) : Bool := decide (c = 100) || (decide (c = 103) || (decide (c = 107) || (decide (c = 115) || (decide (c = 116) || decide (c = 119)))))
def zy_wb : Nat → Int → Int → Bool
  | 0, _, _ => false
  | n + 1, s, w => (decide (w = 0) && decide (s = 0)) || (decide (0 < w) && (decide (32 ≤ w % 256) && (decide (w % 256 < 127) && ((decide (s ≠ 1) || zy_okb (w % 256)) && zy_wb n (if w % 256 = 46 then 1 else 0) (w / 256)))))
/-- functions by hand: numbers that a world gives at a (coded) place, the rows that they speak of -/
def zv_Hh (t : Nat) (w : zz_W) (j : Int) : Int := match t with
  | 0 => zh_b (zh_in (zh_f w 286) (j % 1048576).toNat (j / 1048576))
  | 1 => zh_b (zh_in (zh_f w 287) (j % 1048576).toNat (j / 1048576))
  | 2 => zh_b (j % 1048576 + (zh_cn (zh_f w 286) (j % 1048576).toNat (zh_f w 287) (j / 1048576 % 1048576).toNat : Int) ≤ j / 1048576 / 1048576)
  | 3 => zh_b (j / 1048576 % 1048576 + (zh_cn (zh_f w 287) (j / 1048576 % 1048576).toNat (zh_f w 286) (j % 1048576).toNat : Int) ≤ j / 1048576 / 1048576)
  | 4 => zh_b (∀ i : Nat, (i : Int) < j → (zh_f w 292 i ≤ 0 ∨ (0 ≤ zh_f w 293 i ∧ zh_f w 293 i ≤ 16380)))
  | 5 => (zh_nz (zh_f w 186) 448 : Int)
  | 6 => zh_b (∀ i, i < min (j % 1048576).toNat 4 → zh_f w 311 i < j / 1048576)
  | 7 => zh_b (∀ i, i < (j % 1048576).toNat → zh_f w 279 i < j / 1048576)
  | 8 => zh_sm (zh_f w 182) (64 * j.toNat) (zh_f w 179 j.toNat).toNat
  | 9 => zh_sm (zh_f w 182) (64 * (j / 1048576).toNat) (j % 1048576).toNat
  | 10 => zh_qu j % 256
  | 11 => zh_b (zh_qu j % 256 ≠ 0)
  | 12 => zh_b (zh_sg (zh_qu j % 256))
  | 13 => zh_qu j
  | 14 => zh_qu j / 256
  | 15 => zh_b (zh_its (zh_f w 61) j)
  | 16 => zh_b (zh_mn (zh_f w 54))
  | 17 => zh_b (zh_ods (zh_f w 41) (zh_f w 42) (zk_lel w 44) j)
  | 18 => zk_lel w 44 j.toNat
  | 19 => zh_b (zh_lns (zh_f w 60) j)
  | 20 => zh_b (zh_nn (zh_f w 60) (j % 4294967296).toNat (j / 4294967296).toNat)
  | 21 => zh_b (zh_its (zh_f w 78) j)
  | 22 => zh_b (zh_its (zh_f w 95) j)
  | 23 => zh_b (zh_its (zh_f w 112) j)
  | 24 => zh_b (zh_its (zh_f w 129) j)
  | 25 => zh_b (zh_its (zh_f w 146) j)
  | 26 => zh_b (zh_lns (zh_f w 77) j)
  | 27 => zh_b (zh_lns (zh_f w 94) j)
  | 28 => zh_b (zh_lns (zh_f w 111) j)
  | 29 => zh_b (zh_lns (zh_f w 128) j)
  | 30 => zh_b (zh_lns (zh_f w 145) j)
  | 31 => zh_b (zg_sg (zh_e w 61) (zh_e w 20) (zh_e w 22) j)
  | 32 => zh_b (zg_sg (zh_e w 78) (zh_e w 20) (zh_e w 22) j)
  | 33 => zh_b (zg_sg (zh_e w 95) (zh_e w 20) (zh_e w 22) j)
  | 34 => zh_b (zg_sg (zh_e w 112) (zh_e w 20) (zh_e w 22) j)
  | 35 => zh_b (zg_sg (zh_e w 129) (zh_e w 20) (zh_e w 22) j)
  | 36 => zh_b (zg_sg (zh_e w 146) (zh_e w 20) (zh_e w 22) j)
  | 37 => zh_b (zg_dr (zh_e w 61) (zh_e w 62) (zh_e w 64) j)
  | 38 => zh_b (zg_dr (zh_e w 78) (zh_e w 79) (zh_e w 81) j)
  | 39 => zh_b (zg_dr (zh_e w 95) (zh_e w 96) (zh_e w 98) j)
  | 40 => zh_b (zg_dr (zh_e w 112) (zh_e w 113) (zh_e w 115) j)
  | 41 => zh_b (zg_dr (zh_e w 129) (zh_e w 130) (zh_e w 132) j)
  | 42 => zh_b (zg_dr (zh_e w 146) (zh_e w 147) (zh_e w 149) j)
  | 43 => zh_b (zg_ty (zh_e w 61) (zh_e w 20) (zh_e w 22) (zh_e w 62) (zh_e w 64) j)
  | 44 => zh_b (zg_rn (zh_e w 61) (zv_dg 0 j) (zv_dg 1 j) (zv_dg 2 j))
  | 45 => zh_b (zg_fn (zh_e w 61) (zh_e w 62) (zh_e w 64) j)
  | 46 => zh_b (zm_a (zh_e w 54) (zh_e w 55) (zg_R w 62) (zv_dg 0 j) (zv_dg 1 j) (zv_dg 2 j) (zg_g (zv_qt 3 j)))
  | 47 => zh_b (zm_b (zh_e w 54) (zg_R w 62) (zg_R w 64) (zv_dg 0 j) (zv_dg 1 j) (zv_dg 2 j) (zg_g (zv_qt 3 j)) (zg_g (zv_qt 9 j)))
  | 48 => zm_kd (zg_R w 62) j
  | 49 => zh_b (zm_ow (zh_e w 7) (zv_dg 0 j) (zv_dg 1 j) (zg_g (zv_qt 2 j)))
  | 50 => zh_b (zm_gd (zv_dg 1 j) (zg_g (zv_qt 2 j)) (zv_dg 0 j))
  | 51 => zg_R w 61 (zv_dg 0 j) (2 * zv_dg 1 j)
  | 52 => zh_b (zm_d (zg_R w 61) (zg_R w 62) (zh_e w 54) (zh_e w 55) (zh_e w 57) (zv_dg 0 j) (zv_dg 1 j) (zv_dg 2 j) (zv_dg 3 j) (zg_g (zv_qt 4 j)))
  | 53 => zg_R w 61 (zv_dg 0 j) (2 * zv_dg 1 j + 1)
  | 54 => zh_e w 55 (60 * (zh_e w 54 j / 512) + zh_e w 54 j % 512)
  | 55 => zg_R w 62 (zh_e w 54 j / 512) (6 * (zh_e w 54 j % 512) + 1)
  | 56 => zh_b (zm_k (zg_R w 61) (zg_R w 62) (zh_e w 54) (zh_e w 55) (zh_e w 57) (zv_dg 0 j) (zv_dg 1 j) (zv_dg 2 j) (zv_dg 3 j) (zv_dg 4 j) (zv_dg 5 j) (zg_g (zv_qt 6 j)))
  | 57 => zh_b (zv_dg 1 j < zg_g (zv_qt 2 j) (zv_dg 0 j))
  | 60 => zb_D (zh_e w 208) (8000 * j) (zh_e w 207 j).toNat
  | 61 => zh_b (zb_ok (zh_e w 208) (8000 * j) (zh_e w 207 j))
  | 62 => zb_D (zh_e w 208) (8000 * zv_dg 1 j) (zv_dg 0 j).toNat
  | 63 => zb_F (zh_e w 208) (8000 * j) (zh_e w 207 j).toNat
  | 64 => zb_F (zh_e w 208) (8000 * zv_dg 1 j) (zv_dg 0 j).toNat
  | 65 => zb_P (zh_e w 234) j.toNat
  | 70 => zh_b (zs_ps w (zv_dg 0 j) (zv_dg 1 j) (zv_dg 2 j) (zv_dg 3 j) (zv_dg 4 j) (zv_dg 5 j))
  | 71 => zh_b (zs_x (zh_e w 224))
  | 72 => zh_b (zs_u (zh_e w 229) (zh_e w 230) (zv_dg 3 j) (zv_dg 2 j) (zv_dg 0 j - 1) (zv_dg 1 j))
  | 73 => zs_T w j
  | 74 => zh_b (zs_x (zh_e w 224) ∨ zs_S w (zv_dg 0 j) (zv_dg 1 j))
  | 75 => zh_b (zs_vo (zh_e w 228) (zh_e w 255) (zv_dg 0 j) (zv_dg 1 j) (zv_dg 2 j))
  | 76 => zh_b (zs_ud (zh_e w 231) (zh_e w 248) (zh_e w 239) (zh_e w 222) (zv_dg 0 j) (zv_dg 1 j) (zv_dg 2 j) 0)
  | 77 => zh_b (zs_tk (zh_e w 222) (zv_dg 0 j) (zv_dg 1 j))
  | 78 => zh_b (zs_ud (zh_e w 231) (zh_e w 248) (zh_e w 239) (zh_e w 222) (zv_dg 0 j) (zv_dg 1 j) (zv_dg 2 j) (zv_dg 3 j))
  | 79 => zh_b (zs_nx (zh_e w 231) (zv_dg 0 j) (zv_dg 1 j - 1) (zv_dg 2 j))
  | 80 => zs_cn (zh_e w 231) (zv_dg 0 j - 1) (zv_dg 1 j).toNat
  | 81 => zn_oc j
  | 82 => zk_lel w 173 j.toNat
  | 83 => zk_lel w 174 j.toNat
  | 84 => zh_b (zs_nm (zn_l w 173) (zn_l w 174) (zh_e w 175) (j % 4294967296))
  | 85 => zh_b (zn_w (zn_l w 173) (zn_l w 174) (zh_e w 175) j)
  | 86 => zh_b (zn_kc (j % 4294967296) (j / 4294967296 % 18446744073709551616 - 9223372036854775808) (j / 4294967296 / 18446744073709551616 - 9223372036854775808))
  | 87 => zh_b (zn_k5 (zn_l w 173) (zn_l w 174) (j % 4294967296))
  | 88 => zh_b (zp_k (j / 18446744073709551616).toNat (j % 18446744073709551616 - 9223372036854775808))
  | 89 => zh_b ((4294967297 ≤ j ∧ j < 8589934592) ∧ zp_n (zn_l w 173 (j - 4294967297)) (zn_l w 174 (j - 4294967297)))
  | 90 => zh_b (zp_tn (zn_l w 173) (zn_l w 174) (zh_e w 221) (zh_e w 223) (j % 4294967296) (j / 4294967296))
  | 91 => zh_b (zp_pp (zn_l w 173) (zn_l w 174) (zh_e w 229) (zh_e w 239) (zh_e w 247) (zh_e w 233) (zv_dg 0 j) (zv_dg 1 j) (zv_dg 2 j))
  | 92 => zh_b (zr_rv (zh_e w 229) (zh_e w 230) (zh_e w 231) (zh_e w 233) (zh_e w 234) (zh_e w 256) (zh_e w 257) (zh_e w 224) (zv_dg 0 j) (zv_dg 1 j - 1) (zv_dg 2 j) (zv_dg 3 j))
  | 93 => zh_b (zr_op (zn_l w 173) (zn_l w 174) (zh_e w 256) (zh_e w 257) (j % 4294967296))
  | 94 => zh_b (zr_nf (zh_e w 233) (zv_dg 0 j) (zv_dg 1 j) (zv_dg 2 j))
  | 95 => zy_c (zh_e w 177) (40000 * j) (zh_e w 178 j).toNat
  | 96 => zh_b (zy_d (zh_e w 177) (40000 * zv_dg 0 j) (zh_e w 178 (zv_dg 0 j)) (zv_dg 1 j))
  | 97 => zh_b (zy_wb 9 (j / 18446744073709551616) (j % 18446744073709551616) = true)
  | 98 => if j % 256 = 46 then 1 else 0
  | 99 => zn_op 7 (zn_op 4 (zn_op 6 (if zv_dg 1 j < 8 then zn_l w 173 (zv_dg 0 j) else zn_l w 174 (zv_dg 0 j)) (8 * (zv_dg 1 j % 8))) 127) 0
  | _ => 0
def zv_HRh (t : Nat) : List Nat := match t with
  | 0 => [286]
  | 1 => [287]
  | 2 => [286, 287]
  | 3 => [286, 287]
  | 4 => [292, 293]
  | 5 => [186]
  | 6 => [311]
  | 7 => [279]
  | 8 => [182, 179]
  | 9 => [182]
  | 15 => [61]
  | 16 => [54]
  | 17 => [41, 42, 44]
  | 18 => [44]
  | 19 => [60]
  | 20 => [60]
  | 21 => [78]
  | 22 => [95]
  | 23 => [112]
  | 24 => [129]
  | 25 => [146]
  | 26 => [77]
  | 27 => [94]
  | 28 => [111]
  | 29 => [128]
  | 30 => [145]
  | 31 => [61, 20, 22]
  | 32 => [78, 20, 22]
  | 33 => [95, 20, 22]
  | 34 => [112, 20, 22]
  | 35 => [129, 20, 22]
  | 36 => [146, 20, 22]
  | 37 => [61, 62, 64]
  | 38 => [78, 79, 81]
  | 39 => [95, 96, 98]
  | 40 => [112, 113, 115]
  | 41 => [129, 130, 132]
  | 42 => [146, 147, 149]
  | 43 => [61, 20, 22, 62, 64]
  | 44 => [61]
  | 45 => [61, 62, 64]
  | 46 => [54, 55, 62, 79, 96, 113, 130, 147]
  | 47 => [54, 62, 79, 96, 113, 130, 147, 64, 81, 98, 115, 132, 149]
  | 48 => [62, 79, 96, 113, 130, 147]
  | 49 => [7]
  | 51 => [61, 78, 95, 112, 129, 146]
  | 52 => [57, 54, 55, 61, 78, 95, 112, 129, 146, 62, 79, 96, 113, 130, 147]
  | 53 => [61, 78, 95, 112, 129, 146]
  | 54 => [54, 55]
  | 55 => [54, 62, 79, 96, 113, 130, 147]
  | 56 => [57, 54, 55, 61, 78, 95, 112, 129, 146, 62, 79, 96, 113, 130, 147]
  | 60 => [208, 207]
  | 61 => [208, 207]
  | 62 => [208]
  | 63 => [208, 207]
  | 64 => [208]
  | 65 => [234]
  | 70 => [208, 209, 210, 211, 212, 207, 224, 229, 230, 250, 240, 241, 242, 253, 227, 226]
  | 71 => [224]
  | 72 => [229, 230]
  | 73 => [208, 211, 207, 224, 250]
  | 74 => [208, 209, 210, 211, 212, 207, 224, 229, 230]
  | 75 => [228, 255]
  | 76 => [231, 248, 239, 222]
  | 77 => [222]
  | 78 => [231, 248, 239, 222]
  | 79 => [231]
  | 80 => [231]
  | 81 => []
  | 82 => [173]
  | 83 => [174]
  | 84 => [173, 174, 175]
  | 85 => [173, 174, 175]
  | 86 => []
  | 87 => [173, 174]
  | 88 => []
  | 89 => [173, 174]
  | 90 => [173, 174, 221, 223]
  | 91 => [173, 174, 229, 239, 247, 233]
  | 92 => [229, 230, 231, 233, 234, 256, 257, 224]
  | 93 => [173, 174, 256, 257]
  | 94 => [233]
  | 95 => [177, 178]
  | 96 => [177, 178]
  | 97 => []
  | 98 => []
  | 99 => [173, 174]
  | _ => []
theorem zh_f_g {w w' : zz_W} {r : Nat} (h : zz_g w' r = zz_g w r) : zh_f w' r = zh_f w r := by
  funext i
  unfold zh_f zk_el
  rw [h]
theorem zh_l_g {w w' : zz_W} {r : Nat} (h : zz_g w' r = zz_g w r) : zk_lel w' r = zk_lel w r := by
  funext i
  unfold zk_lel
  rw [h]
theorem zh_e_g {w w' : zz_W} {r : Nat} (h : zz_g w' r = zz_g w r) : zh_e w' r = zh_e w r := by
  funext i
  unfold zh_e zk_el
  rw [h]
theorem zn_l_g {w w' : zz_W} {r : Nat} (h : zz_g w' r = zz_g w r) : zn_l w' r = zn_l w r := by
  funext i
  unfold zn_l
  rw [zh_l_g h]
theorem zg_R_g {w w' : zz_W} {r : Nat} (h0 : zz_g w' r = zz_g w r) (h1 : zz_g w' (r + 17) = zz_g w (r + 17)) (h2 : zz_g w' (r + 34) = zz_g w (r + 34)) (h3 : zz_g w' (r + 51) = zz_g w (r + 51)) (h4 : zz_g w' (r + 68) = zz_g w (r + 68)) (h5 : zz_g w' (r + 85) = zz_g w (r + 85)) : zg_R w' r = zg_R w r := by
  funext v
  unfold zg_R
  rw [zh_e_g h0, zh_e_g h1, zh_e_g h2, zh_e_g h3, zh_e_g h4, zh_e_g h5]
theorem zv_Hh_g {t : Nat} {w w' : zz_W} {j : Int} (h : ∀ r ∈ zv_HRh t, zz_g w' r = zz_g w r) : zv_Hh t w' j = zv_Hh t w j := by
  unfold zv_Hh
  unfold zv_HRh at h
  split
  · rw [zh_f_g (h 286 List.mem_cons_self)]
  · rw [zh_f_g (h 287 List.mem_cons_self)]
  · rw [zh_f_g (h 286 List.mem_cons_self), zh_f_g (h 287 (List.mem_cons_of_mem _ List.mem_cons_self))]
  · rw [zh_f_g (h 286 List.mem_cons_self), zh_f_g (h 287 (List.mem_cons_of_mem _ List.mem_cons_self))]
  · rw [zh_f_g (h 292 List.mem_cons_self), zh_f_g (h 293 (List.mem_cons_of_mem _ List.mem_cons_self))]
  · rw [zh_f_g (h 186 List.mem_cons_self)]
  · rw [zh_f_g (h 311 List.mem_cons_self)]
  · rw [zh_f_g (h 279 List.mem_cons_self)]
  · rw [zh_f_g (h 182 List.mem_cons_self), zh_f_g (h 179 (List.mem_cons_of_mem _ List.mem_cons_self))]
  · rw [zh_f_g (h 182 List.mem_cons_self)]
  · rfl
  · rfl
  · rfl
  · rfl
  · rfl
  · rw [zh_f_g (h 61 List.mem_cons_self)]
  · rw [zh_f_g (h 54 List.mem_cons_self)]
  · rw [zh_f_g (h 41 List.mem_cons_self), zh_f_g (h 42 (List.mem_cons_of_mem _ List.mem_cons_self)), zh_l_g (h 44 (List.mem_cons_of_mem _ (List.mem_cons_of_mem _ List.mem_cons_self)))]
  · rw [zh_l_g (h 44 List.mem_cons_self)]
  · rw [zh_f_g (h 60 List.mem_cons_self)]
  · rw [zh_f_g (h 60 List.mem_cons_self)]
  · rw [zh_f_g (h 78 List.mem_cons_self)]
  · rw [zh_f_g (h 95 List.mem_cons_self)]
  · rw [zh_f_g (h 112 List.mem_cons_self)]
  · rw [zh_f_g (h 129 List.mem_cons_self)]
  · rw [zh_f_g (h 146 List.mem_cons_self)]
  · rw [zh_f_g (h 77 List.mem_cons_self)]
  · rw [zh_f_g (h 94 List.mem_cons_self)]
  · rw [zh_f_g (h 111 List.mem_cons_self)]
  · rw [zh_f_g (h 128 List.mem_cons_self)]
  · rw [zh_f_g (h 145 List.mem_cons_self)]
  · rw [zh_e_g (h 61 List.mem_cons_self), zh_e_g (h 20 (List.mem_cons_of_mem _ List.mem_cons_self)), zh_e_g (h 22 (List.mem_cons_of_mem _ (List.mem_cons_of_mem _ List.mem_cons_self)))]
  · rw [zh_e_g (h 78 List.mem_cons_self), zh_e_g (h 20 (List.mem_cons_of_mem _ List.mem_cons_self)), zh_e_g (h 22 (List.mem_cons_of_mem _ (List.mem_cons_of_mem _ List.mem_cons_self)))]
  · rw [zh_e_g (h 95 List.mem_cons_self), zh_e_g (h 20 (List.mem_cons_of_mem _ List.mem_cons_self)), zh_e_g (h 22 (List.mem_cons_of_mem _ (List.mem_cons_of_mem _ List.mem_cons_self)))]
  · rw [zh_e_g (h 112 List.mem_cons_self), zh_e_g (h 20 (List.mem_cons_of_mem _ List.mem_cons_self)), zh_e_g (h 22 (List.mem_cons_of_mem _ (List.mem_cons_of_mem _ List.mem_cons_self)))]
  · rw [zh_e_g (h 129 List.mem_cons_self), zh_e_g (h 20 (List.mem_cons_of_mem _ List.mem_cons_self)), zh_e_g (h 22 (List.mem_cons_of_mem _ (List.mem_cons_of_mem _ List.mem_cons_self)))]
  · rw [zh_e_g (h 146 List.mem_cons_self), zh_e_g (h 20 (List.mem_cons_of_mem _ List.mem_cons_self)), zh_e_g (h 22 (List.mem_cons_of_mem _ (List.mem_cons_of_mem _ List.mem_cons_self)))]
  · rw [zh_e_g (h 61 List.mem_cons_self), zh_e_g (h 62 (List.mem_cons_of_mem _ List.mem_cons_self)), zh_e_g (h 64 (List.mem_cons_of_mem _ (List.mem_cons_of_mem _ List.mem_cons_self)))]
  · rw [zh_e_g (h 78 List.mem_cons_self), zh_e_g (h 79 (List.mem_cons_of_mem _ List.mem_cons_self)), zh_e_g (h 81 (List.mem_cons_of_mem _ (List.mem_cons_of_mem _ List.mem_cons_self)))]
  · rw [zh_e_g (h 95 List.mem_cons_self), zh_e_g (h 96 (List.mem_cons_of_mem _ List.mem_cons_self)), zh_e_g (h 98 (List.mem_cons_of_mem _ (List.mem_cons_of_mem _ List.mem_cons_self)))]
  · rw [zh_e_g (h 112 List.mem_cons_self), zh_e_g (h 113 (List.mem_cons_of_mem _ List.mem_cons_self)), zh_e_g (h 115 (List.mem_cons_of_mem _ (List.mem_cons_of_mem _ List.mem_cons_self)))]
  · rw [zh_e_g (h 129 List.mem_cons_self), zh_e_g (h 130 (List.mem_cons_of_mem _ List.mem_cons_self)), zh_e_g (h 132 (List.mem_cons_of_mem _ (List.mem_cons_of_mem _ List.mem_cons_self)))]
  · rw [zh_e_g (h 146 List.mem_cons_self), zh_e_g (h 147 (List.mem_cons_of_mem _ List.mem_cons_self)), zh_e_g (h 149 (List.mem_cons_of_mem _ (List.mem_cons_of_mem _ List.mem_cons_self)))]
  · rw [zh_e_g (h 61 List.mem_cons_self), zh_e_g (h 20 (List.mem_cons_of_mem _ List.mem_cons_self)), zh_e_g (h 22 (List.mem_cons_of_mem _ (List.mem_cons_of_mem _ List.mem_cons_self))), zh_e_g (h 62 (List.mem_cons_of_mem _ (List.mem_cons_of_mem _ (List.mem_cons_of_mem _ List.mem_cons_self)))), zh_e_g (h 64 (List.mem_cons_of_mem _ (List.mem_cons_of_mem _ (List.mem_cons_of_mem _ (List.mem_cons_of_mem _ List.mem_cons_self)))))]
  · rw [zh_e_g (h 61 List.mem_cons_self)]
  · rw [zh_e_g (h 61 List.mem_cons_self), zh_e_g (h 62 (List.mem_cons_of_mem _ List.mem_cons_self)), zh_e_g (h 64 (List.mem_cons_of_mem _ (List.mem_cons_of_mem _ List.mem_cons_self)))]
  · rw [zh_e_g (h 54 List.mem_cons_self), zh_e_g (h 55 (List.mem_cons_of_mem _ List.mem_cons_self)), zg_R_g (h 62 (List.mem_cons_of_mem _ (List.mem_cons_of_mem _ List.mem_cons_self))) (h 79 (List.mem_cons_of_mem _ (List.mem_cons_of_mem _ (List.mem_cons_of_mem _ List.mem_cons_self)))) (h 96 (List.mem_cons_of_mem _ (List.mem_cons_of_mem _ (List.mem_cons_of_mem _ (List.mem_cons_of_mem _ List.mem_cons_self))))) (h 113 (List.mem_cons_of_mem _ (List.mem_cons_of_mem _ (List.mem_cons_of_mem _ (List.mem_cons_of_mem _ (List.mem_cons_of_mem _ List.mem_cons_self)))))) (h 130 (List.mem_cons_of_mem _ (List.mem_cons_of_mem _ (List.mem_cons_of_mem _ (List.mem_cons_of_mem _ (List.mem_cons_of_mem _ (List.mem_cons_of_mem _ List.mem_cons_self))))))) (h 147 (List.mem_cons_of_mem _ (List.mem_cons_of_mem _ (List.mem_cons_of_mem _ (List.mem_cons_of_mem _ (List.mem_cons_of_mem _ (List.mem_cons_of_mem _ (List.mem_cons_of_mem _ List.mem_cons_self))))))))]
  · rw [zh_e_g (h 54 List.mem_cons_self), zg_R_g (h 62 (List.mem_cons_of_mem _ List.mem_cons_self)) (h 79 (List.mem_cons_of_mem _ (List.mem_cons_of_mem _ List.mem_cons_self))) (h 96 (List.mem_cons_of_mem _ (List.mem_cons_of_mem _ (List.mem_cons_of_mem _ List.mem_cons_self)))) (h 113 (List.mem_cons_of_mem _ (List.mem_cons_of_mem _ (List.mem_cons_of_mem _ (List.mem_cons_of_mem _ List.mem_cons_self))))) (h 130 (List.mem_cons_of_mem _ (List.mem_cons_of_mem _ (List.mem_cons_of_mem _ (List.mem_cons_of_mem _ (List.mem_cons_of_mem _ List.mem_cons_self)))))) (h 147 (List.mem_cons_of_mem _ (List.mem_cons_of_mem _ (List.mem_cons_of_mem _ (List.mem_cons_of_mem _ (List.mem_cons_of_mem _ (List.mem_cons_of_mem _ List.mem_cons_self))))))), zg_R_g (h 64 (List.mem_cons_of_mem _ (List.mem_cons_of_mem _ (List.mem_cons_of_mem _ (List.mem_cons_of_mem _ (List.mem_cons_of_mem _ (List.mem_cons_of_mem _ (List.mem_cons_of_mem _ List.mem_cons_self)))))))) (h 81 (List.mem_cons_of_mem _ (List.mem_cons_of_mem _ (List.mem_cons_of_mem _ (List.mem_cons_of_mem _ (List.mem_cons_of_mem _ (List.mem_cons_of_mem _ (List.mem_cons_of_mem _ (List.mem_cons_of_mem _ List.mem_cons_self))))))))) (h 98 (List.mem_cons_of_mem _ (List.mem_cons_of_mem _ (List.mem_cons_of_mem _ (List.mem_cons_of_mem _ (List.mem_cons_of_mem _ (List.mem_cons_of_mem _ (List.mem_cons_of_mem _ (List.mem_cons_of_mem _ (List.mem_cons_of_mem _ List.mem_cons_self)))))))))) (h 115 (List.mem_cons_of_mem _ (List.mem_cons_of_mem _ (List.mem_cons_of_mem _ (List.mem_cons_of_mem _ (List.mem_cons_of_mem _ (List.mem_cons_of_mem _ (List.mem_cons_of_mem _ (List.mem_cons_of_mem _ (List.mem_cons_of_mem _ (List.mem_cons_of_mem _ List.mem_cons_self))))))))))) (h 132 (List.mem_cons_of_mem _ (List.mem_cons_of_mem _ (List.mem_cons_of_mem _ (List.mem_cons_of_mem _ (List.mem_cons_of_mem _ (List.mem_cons_of_mem _ (List.mem_cons_of_mem _ (List.mem_cons_of_mem _ (List.mem_cons_of_mem _ (List.mem_cons_of_mem _ (List.mem_cons_of_mem _ List.mem_cons_self)))))))))))) (h 149 (List.mem_cons_of_mem _ (List.mem_cons_of_mem _ (List.mem_cons_of_mem _ (List.mem_cons_of_mem _ (List.mem_cons_of_mem _ (List.mem_cons_of_mem _ (List.mem_cons_of_mem _ (List.mem_cons_of_mem _ (List.mem_cons_of_mem _ (List.mem_cons_of_mem _ (List.mem_cons_of_mem _ (List.mem_cons_of_mem _ List.mem_cons_self)))))))))))))]
  · rw [zg_R_g (h 62 List.mem_cons_self) (h 79 (List.mem_cons_of_mem _ List.mem_cons_self)) (h 96 (List.mem_cons_of_mem _ (List.mem_cons_of_mem _ List.mem_cons_self))) (h 113 (List.mem_cons_of_mem _ (List.mem_cons_of_mem _ (List.mem_cons_of_mem _ List.mem_cons_self)))) (h 130 (List.mem_cons_of_mem _ (List.mem_cons_of_mem _ (List.mem_cons_of_mem _ (List.mem_cons_of_mem _ List.mem_cons_self))))) (h 147 (List.mem_cons_of_mem _ (List.mem_cons_of_mem _ (List.mem_cons_of_mem _ (List.mem_cons_of_mem _ (List.mem_cons_of_mem _ List.mem_cons_self))))))]
  · rw [zh_e_g (h 7 List.mem_cons_self)]
  · rfl
  · rw [zg_R_g (h 61 List.mem_cons_self) (h 78 (List.mem_cons_of_mem _ List.mem_cons_self)) (h 95 (List.mem_cons_of_mem _ (List.mem_cons_of_mem _ List.mem_cons_self))) (h 112 (List.mem_cons_of_mem _ (List.mem_cons_of_mem _ (List.mem_cons_of_mem _ List.mem_cons_self)))) (h 129 (List.mem_cons_of_mem _ (List.mem_cons_of_mem _ (List.mem_cons_of_mem _ (List.mem_cons_of_mem _ List.mem_cons_self))))) (h 146 (List.mem_cons_of_mem _ (List.mem_cons_of_mem _ (List.mem_cons_of_mem _ (List.mem_cons_of_mem _ (List.mem_cons_of_mem _ List.mem_cons_self))))))]
  · rw [zh_e_g (h 54 (List.mem_cons_of_mem _ List.mem_cons_self)), zh_e_g (h 55 (List.mem_cons_of_mem _ (List.mem_cons_of_mem _ List.mem_cons_self))), zh_e_g (h 57 List.mem_cons_self), zg_R_g (h 61 (List.mem_cons_of_mem _ (List.mem_cons_of_mem _ (List.mem_cons_of_mem _ List.mem_cons_self)))) (h 78 (List.mem_cons_of_mem _ (List.mem_cons_of_mem _ (List.mem_cons_of_mem _ (List.mem_cons_of_mem _ List.mem_cons_self))))) (h 95 (List.mem_cons_of_mem _ (List.mem_cons_of_mem _ (List.mem_cons_of_mem _ (List.mem_cons_of_mem _ (List.mem_cons_of_mem _ List.mem_cons_self)))))) (h 112 (List.mem_cons_of_mem _ (List.mem_cons_of_mem _ (List.mem_cons_of_mem _ (List.mem_cons_of_mem _ (List.mem_cons_of_mem _ (List.mem_cons_of_mem _ List.mem_cons_self))))))) (h 129 (List.mem_cons_of_mem _ (List.mem_cons_of_mem _ (List.mem_cons_of_mem _ (List.mem_cons_of_mem _ (List.mem_cons_of_mem _ (List.mem_cons_of_mem _ (List.mem_cons_of_mem _ List.mem_cons_self)))))))) (h 146 (List.mem_cons_of_mem _ (List.mem_cons_of_mem _ (List.mem_cons_of_mem _ (List.mem_cons_of_mem _ (List.mem_cons_of_mem _ (List.mem_cons_of_mem _ (List.mem_cons_of_mem _ (List.mem_cons_of_mem _ List.mem_cons_self))))))))), zg_R_g (h 62 (List.mem_cons_of_mem _ (List.mem_cons_of_mem _ (List.mem_cons_of_mem _ (List.mem_cons_of_mem _ (List.mem_cons_of_mem _ (List.mem_cons_of_mem _ (List.mem_cons_of_mem _ (List.mem_cons_of_mem _ (List.mem_cons_of_mem _ List.mem_cons_self)))))))))) (h 79 (List.mem_cons_of_mem _ (List.mem_cons_of_mem _ (List.mem_cons_of_mem _ (List.mem_cons_of_mem _ (List.mem_cons_of_mem _ (List.mem_cons_of_mem _ (List.mem_cons_of_mem _ (List.mem_cons_of_mem _ (List.mem_cons_of_mem _ (List.mem_cons_of_mem _ List.mem_cons_self))))))))))) (h 96 (List.mem_cons_of_mem _ (List.mem_cons_of_mem _ (List.mem_cons_of_mem _ (List.mem_cons_of_mem _ (List.mem_cons_of_mem _ (List.mem_cons_of_mem _ (List.mem_cons_of_mem _ (List.mem_cons_of_mem _ (List.mem_cons_of_mem _ (List.mem_cons_of_mem _ (List.mem_cons_of_mem _ List.mem_cons_self)))))))))))) (h 113 (List.mem_cons_of_mem _ (List.mem_cons_of_mem _ (List.mem_cons_of_mem _ (List.mem_cons_of_mem _ (List.mem_cons_of_mem _ (List.mem_cons_of_mem _ (List.mem_cons_of_mem _ (List.mem_cons_of_mem _ (List.mem_cons_of_mem _ (List.mem_cons_of_mem _ (List.mem_cons_of_mem _ (List.mem_cons_of_mem _ List.mem_cons_self))))))))))))) (h 130 (List.mem_cons_of_mem _ (List.mem_cons_of_mem _ (List.mem_cons_of_mem _ (List.mem_cons_of_mem _ (List.mem_cons_of_mem _ (List.mem_cons_of_mem _ (List.mem_cons_of_mem _ (List.mem_cons_of_mem _ (List.mem_cons_of_mem _ (List.mem_cons_of_mem _ (List.mem_cons_of_mem _ (List.mem_cons_of_mem _ (List.mem_cons_of_mem _ List.mem_cons_self)))))))))))))) (h 147 (List.mem_cons_of_mem _ (List.mem_cons_of_mem _ (List.mem_cons_of_mem _ (List.mem_cons_of_mem _ (List.mem_cons_of_mem _ (List.mem_cons_of_mem _ (List.mem_cons_of_mem _ (List.mem_cons_of_mem _ (List.mem_cons_of_mem _ (List.mem_cons_of_mem _ (List.mem_cons_of_mem _ (List.mem_cons_of_mem _ (List.mem_cons_of_mem _ (List.mem_cons_of_mem _ List.mem_cons_self)))))))))))))))]
  · rw [zg_R_g (h 61 List.mem_cons_self) (h 78 (List.mem_cons_of_mem _ List.mem_cons_self)) (h 95 (List.mem_cons_of_mem _ (List.mem_cons_of_mem _ List.mem_cons_self))) (h 112 (List.mem_cons_of_mem _ (List.mem_cons_of_mem _ (List.mem_cons_of_mem _ List.mem_cons_self)))) (h 129 (List.mem_cons_of_mem _ (List.mem_cons_of_mem _ (List.mem_cons_of_mem _ (List.mem_cons_of_mem _ List.mem_cons_self))))) (h 146 (List.mem_cons_of_mem _ (List.mem_cons_of_mem _ (List.mem_cons_of_mem _ (List.mem_cons_of_mem _ (List.mem_cons_of_mem _ List.mem_cons_self))))))]
  · rw [zh_e_g (h 55 (List.mem_cons_of_mem _ List.mem_cons_self)), zh_e_g (h 54 List.mem_cons_self)]
  · rw [zh_e_g (h 54 List.mem_cons_self), zg_R_g (h 62 (List.mem_cons_of_mem _ List.mem_cons_self)) (h 79 (List.mem_cons_of_mem _ (List.mem_cons_of_mem _ List.mem_cons_self))) (h 96 (List.mem_cons_of_mem _ (List.mem_cons_of_mem _ (List.mem_cons_of_mem _ List.mem_cons_self)))) (h 113 (List.mem_cons_of_mem _ (List.mem_cons_of_mem _ (List.mem_cons_of_mem _ (List.mem_cons_of_mem _ List.mem_cons_self))))) (h 130 (List.mem_cons_of_mem _ (List.mem_cons_of_mem _ (List.mem_cons_of_mem _ (List.mem_cons_of_mem _ (List.mem_cons_of_mem _ List.mem_cons_self)))))) (h 147 (List.mem_cons_of_mem _ (List.mem_cons_of_mem _ (List.mem_cons_of_mem _ (List.mem_cons_of_mem _ (List.mem_cons_of_mem _ (List.mem_cons_of_mem _ List.mem_cons_self)))))))]
  · rw [zh_e_g (h 54 (List.mem_cons_of_mem _ List.mem_cons_self)), zh_e_g (h 55 (List.mem_cons_of_mem _ (List.mem_cons_of_mem _ List.mem_cons_self))), zh_e_g (h 57 List.mem_cons_self), zg_R_g (h 61 (List.mem_cons_of_mem _ (List.mem_cons_of_mem _ (List.mem_cons_of_mem _ List.mem_cons_self)))) (h 78 (List.mem_cons_of_mem _ (List.mem_cons_of_mem _ (List.mem_cons_of_mem _ (List.mem_cons_of_mem _ List.mem_cons_self))))) (h 95 (List.mem_cons_of_mem _ (List.mem_cons_of_mem _ (List.mem_cons_of_mem _ (List.mem_cons_of_mem _ (List.mem_cons_of_mem _ List.mem_cons_self)))))) (h 112 (List.mem_cons_of_mem _ (List.mem_cons_of_mem _ (List.mem_cons_of_mem _ (List.mem_cons_of_mem _ (List.mem_cons_of_mem _ (List.mem_cons_of_mem _ List.mem_cons_self))))))) (h 129 (List.mem_cons_of_mem _ (List.mem_cons_of_mem _ (List.mem_cons_of_mem _ (List.mem_cons_of_mem _ (List.mem_cons_of_mem _ (List.mem_cons_of_mem _ (List.mem_cons_of_mem _ List.mem_cons_self)))))))) (h 146 (List.mem_cons_of_mem _ (List.mem_cons_of_mem _ (List.mem_cons_of_mem _ (List.mem_cons_of_mem _ (List.mem_cons_of_mem _ (List.mem_cons_of_mem _ (List.mem_cons_of_mem _ (List.mem_cons_of_mem _ List.mem_cons_self))))))))), zg_R_g (h 62 (List.mem_cons_of_mem _ (List.mem_cons_of_mem _ (List.mem_cons_of_mem _ (List.mem_cons_of_mem _ (List.mem_cons_of_mem _ (List.mem_cons_of_mem _ (List.mem_cons_of_mem _ (List.mem_cons_of_mem _ (List.mem_cons_of_mem _ List.mem_cons_self)))))))))) (h 79 (List.mem_cons_of_mem _ (List.mem_cons_of_mem _ (List.mem_cons_of_mem _ (List.mem_cons_of_mem _ (List.mem_cons_of_mem _ (List.mem_cons_of_mem _ (List.mem_cons_of_mem _ (List.mem_cons_of_mem _ (List.mem_cons_of_mem _ (List.mem_cons_of_mem _ List.mem_cons_self))))))))))) (h 96 (List.mem_cons_of_mem _ (List.mem_cons_of_mem _ (List.mem_cons_of_mem _ (List.mem_cons_of_mem _ (List.mem_cons_of_mem _ (List.mem_cons_of_mem _ (List.mem_cons_of_mem _ (List.mem_cons_of_mem _ (List.mem_cons_of_mem _ (List.mem_cons_of_mem _ (List.mem_cons_of_mem _ List.mem_cons_self)))))))))))) (h 113 (List.mem_cons_of_mem _ (List.mem_cons_of_mem _ (List.mem_cons_of_mem _ (List.mem_cons_of_mem _ (List.mem_cons_of_mem _ (List.mem_cons_of_mem _ (List.mem_cons_of_mem _ (List.mem_cons_of_mem _ (List.mem_cons_of_mem _ (List.mem_cons_of_mem _ (List.mem_cons_of_mem _ (List.mem_cons_of_mem _ List.mem_cons_self))))))))))))) (h 130 (List.mem_cons_of_mem _ (List.mem_cons_of_mem _ (List.mem_cons_of_mem _ (List.mem_cons_of_mem _ (List.mem_cons_of_mem _ (List.mem_cons_of_mem _ (List.mem_cons_of_mem _ (List.mem_cons_of_mem _ (List.mem_cons_of_mem _ (List.mem_cons_of_mem _ (List.mem_cons_of_mem _ (List.mem_cons_of_mem _ (List.mem_cons_of_mem _ List.mem_cons_self)))))))))))))) (h 147 (List.mem_cons_of_mem _ (List.mem_cons_of_mem _ (List.mem_cons_of_mem _ (List.mem_cons_of_mem _ (List.mem_cons_of_mem _ (List.mem_cons_of_mem _ (List.mem_cons_of_mem _ (List.mem_cons_of_mem _ (List.mem_cons_of_mem _ (List.mem_cons_of_mem _ (List.mem_cons_of_mem _ (List.mem_cons_of_mem _ (List.mem_cons_of_mem _ (List.mem_cons_of_mem _ List.mem_cons_self)))))))))))))))]
  · rfl
  · rw [zh_e_g (h 208 List.mem_cons_self), zh_e_g (h 207 (List.mem_cons_of_mem _ List.mem_cons_self))]
  · rw [zh_e_g (h 208 List.mem_cons_self), zh_e_g (h 207 (List.mem_cons_of_mem _ List.mem_cons_self))]
  · rw [zh_e_g (h 208 List.mem_cons_self)]
  · rw [zh_e_g (h 208 List.mem_cons_self), zh_e_g (h 207 (List.mem_cons_of_mem _ List.mem_cons_self))]
  · rw [zh_e_g (h 208 List.mem_cons_self)]
  · rw [zh_e_g (h 234 List.mem_cons_self)]
  · unfold zs_ps zs_S; rw [zh_e_g (h 208 List.mem_cons_self), zh_e_g (h 209 (List.mem_cons_of_mem _ List.mem_cons_self)), zh_e_g (h 210 (List.mem_cons_of_mem _ (List.mem_cons_of_mem _ List.mem_cons_self))), zh_e_g (h 211 (List.mem_cons_of_mem _ (List.mem_cons_of_mem _ (List.mem_cons_of_mem _ List.mem_cons_self)))), zh_e_g (h 212 (List.mem_cons_of_mem _ (List.mem_cons_of_mem _ (List.mem_cons_of_mem _ (List.mem_cons_of_mem _ List.mem_cons_self))))), zh_e_g (h 207 (List.mem_cons_of_mem _ (List.mem_cons_of_mem _ (List.mem_cons_of_mem _ (List.mem_cons_of_mem _ (List.mem_cons_of_mem _ List.mem_cons_self)))))), zh_e_g (h 224 (List.mem_cons_of_mem _ (List.mem_cons_of_mem _ (List.mem_cons_of_mem _ (List.mem_cons_of_mem _ (List.mem_cons_of_mem _ (List.mem_cons_of_mem _ List.mem_cons_self))))))), zh_e_g (h 229 (List.mem_cons_of_mem _ (List.mem_cons_of_mem _ (List.mem_cons_of_mem _ (List.mem_cons_of_mem _ (List.mem_cons_of_mem _ (List.mem_cons_of_mem _ (List.mem_cons_of_mem _ List.mem_cons_self)))))))), zh_e_g (h 230 (List.mem_cons_of_mem _ (List.mem_cons_of_mem _ (List.mem_cons_of_mem _ (List.mem_cons_of_mem _ (List.mem_cons_of_mem _ (List.mem_cons_of_mem _ (List.mem_cons_of_mem _ (List.mem_cons_of_mem _ List.mem_cons_self))))))))), zh_e_g (h 250 (List.mem_cons_of_mem _ (List.mem_cons_of_mem _ (List.mem_cons_of_mem _ (List.mem_cons_of_mem _ (List.mem_cons_of_mem _ (List.mem_cons_of_mem _ (List.mem_cons_of_mem _ (List.mem_cons_of_mem _ (List.mem_cons_of_mem _ List.mem_cons_self)))))))))), zh_e_g (h 240 (List.mem_cons_of_mem _ (List.mem_cons_of_mem _ (List.mem_cons_of_mem _ (List.mem_cons_of_mem _ (List.mem_cons_of_mem _ (List.mem_cons_of_mem _ (List.mem_cons_of_mem _ (List.mem_cons_of_mem _ (List.mem_cons_of_mem _ (List.mem_cons_of_mem _ List.mem_cons_self))))))))))), zh_e_g (h 241 (List.mem_cons_of_mem _ (List.mem_cons_of_mem _ (List.mem_cons_of_mem _ (List.mem_cons_of_mem _ (List.mem_cons_of_mem _ (List.mem_cons_of_mem _ (List.mem_cons_of_mem _ (List.mem_cons_of_mem _ (List.mem_cons_of_mem _ (List.mem_cons_of_mem _ (List.mem_cons_of_mem _ List.mem_cons_self)))))))))))), zh_e_g (h 242 (List.mem_cons_of_mem _ (List.mem_cons_of_mem _ (List.mem_cons_of_mem _ (List.mem_cons_of_mem _ (List.mem_cons_of_mem _ (List.mem_cons_of_mem _ (List.mem_cons_of_mem _ (List.mem_cons_of_mem _ (List.mem_cons_of_mem _ (List.mem_cons_of_mem _ (List.mem_cons_of_mem _ (List.mem_cons_of_mem _ List.mem_cons_self))))))))))))), zh_e_g (h 253 (List.mem_cons_of_mem _ (List.mem_cons_of_mem _ (List.mem_cons_of_mem _ (List.mem_cons_of_mem _ (List.mem_cons_of_mem _ (List.mem_cons_of_mem _ (List.mem_cons_of_mem _ (List.mem_cons_of_mem _ (List.mem_cons_of_mem _ (List.mem_cons_of_mem _ (List.mem_cons_of_mem _ (List.mem_cons_of_mem _ (List.mem_cons_of_mem _ List.mem_cons_self)))))))))))))), zh_e_g (h 227 (List.mem_cons_of_mem _ (List.mem_cons_of_mem _ (List.mem_cons_of_mem _ (List.mem_cons_of_mem _ (List.mem_cons_of_mem _ (List.mem_cons_of_mem _ (List.mem_cons_of_mem _ (List.mem_cons_of_mem _ (List.mem_cons_of_mem _ (List.mem_cons_of_mem _ (List.mem_cons_of_mem _ (List.mem_cons_of_mem _ (List.mem_cons_of_mem _ (List.mem_cons_of_mem _ List.mem_cons_self))))))))))))))), zh_e_g (h 226 (List.mem_cons_of_mem _ (List.mem_cons_of_mem _ (List.mem_cons_of_mem _ (List.mem_cons_of_mem _ (List.mem_cons_of_mem _ (List.mem_cons_of_mem _ (List.mem_cons_of_mem _ (List.mem_cons_of_mem _ (List.mem_cons_of_mem _ (List.mem_cons_of_mem _ (List.mem_cons_of_mem _ (List.mem_cons_of_mem _ (List.mem_cons_of_mem _ (List.mem_cons_of_mem _ (List.mem_cons_of_mem _ List.mem_cons_self))))))))))))))))]
  · rw [zh_e_g (h 224 List.mem_cons_self)]
  · rw [zh_e_g (h 229 List.mem_cons_self), zh_e_g (h 230 (List.mem_cons_of_mem _ List.mem_cons_self))]
  · unfold zs_T; rw [zh_e_g (h 208 List.mem_cons_self), zh_e_g (h 211 (List.mem_cons_of_mem _ List.mem_cons_self)), zh_e_g (h 207 (List.mem_cons_of_mem _ (List.mem_cons_of_mem _ List.mem_cons_self))), zh_e_g (h 224 (List.mem_cons_of_mem _ (List.mem_cons_of_mem _ (List.mem_cons_of_mem _ List.mem_cons_self)))), zh_e_g (h 250 (List.mem_cons_of_mem _ (List.mem_cons_of_mem _ (List.mem_cons_of_mem _ (List.mem_cons_of_mem _ List.mem_cons_self)))))]
  · unfold zs_S; rw [zh_e_g (h 208 List.mem_cons_self), zh_e_g (h 209 (List.mem_cons_of_mem _ List.mem_cons_self)), zh_e_g (h 210 (List.mem_cons_of_mem _ (List.mem_cons_of_mem _ List.mem_cons_self))), zh_e_g (h 211 (List.mem_cons_of_mem _ (List.mem_cons_of_mem _ (List.mem_cons_of_mem _ List.mem_cons_self)))), zh_e_g (h 212 (List.mem_cons_of_mem _ (List.mem_cons_of_mem _ (List.mem_cons_of_mem _ (List.mem_cons_of_mem _ List.mem_cons_self))))), zh_e_g (h 207 (List.mem_cons_of_mem _ (List.mem_cons_of_mem _ (List.mem_cons_of_mem _ (List.mem_cons_of_mem _ (List.mem_cons_of_mem _ List.mem_cons_self)))))), zh_e_g (h 224 (List.mem_cons_of_mem _ (List.mem_cons_of_mem _ (List.mem_cons_of_mem _ (List.mem_cons_of_mem _ (List.mem_cons_of_mem _ (List.mem_cons_of_mem _ List.mem_cons_self))))))), zh_e_g (h 229 (List.mem_cons_of_mem _ (List.mem_cons_of_mem _ (List.mem_cons_of_mem _ (List.mem_cons_of_mem _ (List.mem_cons_of_mem _ (List.mem_cons_of_mem _ (List.mem_cons_of_mem _ List.mem_cons_self)))))))), zh_e_g (h 230 (List.mem_cons_of_mem _ (List.mem_cons_of_mem _ (List.mem_cons_of_mem _ (List.mem_cons_of_mem _ (List.mem_cons_of_mem _ (List.mem_cons_of_mem _ (List.mem_cons_of_mem _ (List.mem_cons_of_mem _ List.mem_cons_self)))))))))]
  · rw [zh_e_g (h 228 List.mem_cons_self), zh_e_g (h 255 (List.mem_cons_of_mem _ List.mem_cons_self))]
  · rw [zh_e_g (h 231 List.mem_cons_self), zh_e_g (h 248 (List.mem_cons_of_mem _ List.mem_cons_self)), zh_e_g (h 239 (List.mem_cons_of_mem _ (List.mem_cons_of_mem _ List.mem_cons_self))), zh_e_g (h 222 (List.mem_cons_of_mem _ (List.mem_cons_of_mem _ (List.mem_cons_of_mem _ List.mem_cons_self))))]
  · rw [zh_e_g (h 222 List.mem_cons_self)]
  · rw [zh_e_g (h 231 List.mem_cons_self), zh_e_g (h 248 (List.mem_cons_of_mem _ List.mem_cons_self)), zh_e_g (h 239 (List.mem_cons_of_mem _ (List.mem_cons_of_mem _ List.mem_cons_self))), zh_e_g (h 222 (List.mem_cons_of_mem _ (List.mem_cons_of_mem _ (List.mem_cons_of_mem _ List.mem_cons_self))))]
  · rw [zh_e_g (h 231 List.mem_cons_self)]
  · rw [zh_e_g (h 231 List.mem_cons_self)]
  · rfl
  · rw [zh_l_g (h 173 List.mem_cons_self)]
  · rw [zh_l_g (h 174 List.mem_cons_self)]
  · rw [zn_l_g (h 173 List.mem_cons_self), zn_l_g (h 174 (List.mem_cons_of_mem _ List.mem_cons_self)), zh_e_g (h 175 (List.mem_cons_of_mem _ (List.mem_cons_of_mem _ List.mem_cons_self)))]
  · rw [zn_l_g (h 173 List.mem_cons_self), zn_l_g (h 174 (List.mem_cons_of_mem _ List.mem_cons_self)), zh_e_g (h 175 (List.mem_cons_of_mem _ (List.mem_cons_of_mem _ List.mem_cons_self)))]
  · rfl
  · rw [zn_l_g (h 173 List.mem_cons_self), zn_l_g (h 174 (List.mem_cons_of_mem _ List.mem_cons_self))]
  · rfl
  · rw [zn_l_g (h 173 List.mem_cons_self), zn_l_g (h 174 (List.mem_cons_of_mem _ List.mem_cons_self))]
  · rw [zn_l_g (h 173 List.mem_cons_self), zn_l_g (h 174 (List.mem_cons_of_mem _ List.mem_cons_self)), zh_e_g (h 221 (List.mem_cons_of_mem _ (List.mem_cons_of_mem _ List.mem_cons_self))), zh_e_g (h 223 (List.mem_cons_of_mem _ (List.mem_cons_of_mem _ (List.mem_cons_of_mem _ List.mem_cons_self))))]
  · rw [zn_l_g (h 173 List.mem_cons_self), zn_l_g (h 174 (List.mem_cons_of_mem _ List.mem_cons_self)), zh_e_g (h 229 (List.mem_cons_of_mem _ (List.mem_cons_of_mem _ List.mem_cons_self))), zh_e_g (h 239 (List.mem_cons_of_mem _ (List.mem_cons_of_mem _ (List.mem_cons_of_mem _ List.mem_cons_self)))), zh_e_g (h 247 (List.mem_cons_of_mem _ (List.mem_cons_of_mem _ (List.mem_cons_of_mem _ (List.mem_cons_of_mem _ List.mem_cons_self))))), zh_e_g (h 233 (List.mem_cons_of_mem _ (List.mem_cons_of_mem _ (List.mem_cons_of_mem _ (List.mem_cons_of_mem _ (List.mem_cons_of_mem _ List.mem_cons_self))))))]
  · rw [zh_e_g (h 229 List.mem_cons_self), zh_e_g (h 230 (List.mem_cons_of_mem _ List.mem_cons_self)), zh_e_g (h 231 (List.mem_cons_of_mem _ (List.mem_cons_of_mem _ List.mem_cons_self))), zh_e_g (h 233 (List.mem_cons_of_mem _ (List.mem_cons_of_mem _ (List.mem_cons_of_mem _ List.mem_cons_self)))), zh_e_g (h 234 (List.mem_cons_of_mem _ (List.mem_cons_of_mem _ (List.mem_cons_of_mem _ (List.mem_cons_of_mem _ List.mem_cons_self))))), zh_e_g (h 256 (List.mem_cons_of_mem _ (List.mem_cons_of_mem _ (List.mem_cons_of_mem _ (List.mem_cons_of_mem _ (List.mem_cons_of_mem _ List.mem_cons_self)))))), zh_e_g (h 257 (List.mem_cons_of_mem _ (List.mem_cons_of_mem _ (List.mem_cons_of_mem _ (List.mem_cons_of_mem _ (List.mem_cons_of_mem _ (List.mem_cons_of_mem _ List.mem_cons_self))))))), zh_e_g (h 224 (List.mem_cons_of_mem _ (List.mem_cons_of_mem _ (List.mem_cons_of_mem _ (List.mem_cons_of_mem _ (List.mem_cons_of_mem _ (List.mem_cons_of_mem _ (List.mem_cons_of_mem _ List.mem_cons_self))))))))]
  · rw [zn_l_g (h 173 List.mem_cons_self), zn_l_g (h 174 (List.mem_cons_of_mem _ List.mem_cons_self)), zh_e_g (h 256 (List.mem_cons_of_mem _ (List.mem_cons_of_mem _ List.mem_cons_self))), zh_e_g (h 257 (List.mem_cons_of_mem _ (List.mem_cons_of_mem _ (List.mem_cons_of_mem _ List.mem_cons_self))))]
  · rw [zh_e_g (h 233 List.mem_cons_self)]
  · rw [zh_e_g (h 177 List.mem_cons_self), zh_e_g (h 178 (List.mem_cons_of_mem _ List.mem_cons_self))]
  · rw [zh_e_g (h 177 List.mem_cons_self), zh_e_g (h 178 (List.mem_cons_of_mem _ List.mem_cons_self))]
  · rfl
  · rfl
  · rw [zn_l_g (h 173 List.mem_cons_self), zn_l_g (h 174 (List.mem_cons_of_mem _ List.mem_cons_self))]
  · rfl
/-! laws of rows with parameters (functions 100 ..): rows, places below, how many parameters, cases (sums over: place, the rows' elements there, the parameters) -/
abbrev zq_Sp : Type := List Nat × Nat × Nat × List (List zl_E)
def zq_T (t : Nat) : zq_Sp := match t with
  | 0 => ([313], 64, 2, [[((0, 0), [(0, 1, 0), (2, 0, 1)])], [((0, 0), [(1, 0, 1), (3, 1, 0)])]])
  | 1 => ([184, 182], 448, 2, [[((0, 1), [(0, 0, 1), (3, 1, 0)])], [((0, 0), [(0, 1, 0), (4, 0, 1)])], [((98304, 0), [(1, 0, 1), (2, 0, 1)])]])
  | 2 => ([175], 131072, 1, [[((0, 0), [(0, 1, 0), (2, 0, 1)])], [((0, 0), [(1, 1, 0)]), ((0, 0), [(1, 0, 1)])]])
  | _ => ([], 0, 0, [[]])
def zq_dec : Nat → Int → List Int
  | 0, _ => []
  | m + 1, j => j % 4294967296 :: zq_dec m (j / 4294967296)
def zq_P (p : zq_Sp) (w : zz_W) (ps : List Int) : Prop := ∀ i : Nat, i < p.2.1 → ∃ d ∈ p.2.2.2, zk_cs (fun m => ((i : Int) :: (p.1.map (fun r => zk_el w r (i : Int)) ++ ps)).getD m 0) d
theorem zq_P_g {p : zq_Sp} {w w' : zz_W} {ps : List Int} (h : ∀ r ∈ p.1, zz_g w' r = zz_g w r) : zq_P p w' ps = zq_P p w ps := by
  have e : ∀ i : Nat, p.1.map (fun r => zk_el w' r (i : Int)) = p.1.map (fun r => zk_el w r (i : Int)) := fun i => List.map_congr_left (fun r hr => by
    unfold zk_el
    rw [h r hr])
  unfold zq_P
  simp only [e]
/-! the same with places that depend on parameters and elements (functions 200 ..): rows with their places (sums over: place, parameters, elements so far), places below, parameters, cases (sums over: place, parameters, elements) -/
abbrev zu_Sp : Type := List (Nat × zl_E) × List Nat × Nat × List (List zl_E)
def zu_T0 (t : Nat) : zu_Sp := match t with
  | 0 => ([(299, ((0, 0), [(0, 1, 0)])), (300, ((0, 0), [(0, 1, 0)])), (182, ((0, 0), [(2, 64, 0), (3, 1, 0)])), (179, ((0, 0), [(2, 1, 0)]))], [3000], 2, [[((0, 0), [(0, 1, 0), (1, 0, 1)])], [((0, 1), [(3, 0, 1), (6, 1, 0)]), ((0, 0), [(4, 0, 1), (5, 1, 0)]), ((0, 0), [(4, 1, 0)]), ((0, 0), [(3, 1, 0)])]])
  | 1 => ([(292, ((0, 0), [(0, 1, 0)])), (182, ((0, 0), [(0, 1, 0), (1, 64, 0)])), (179, ((0, 0), [(1, 1, 0)]))], [64], 2, [[((0, 0), [(0, 1, 0), (5, 0, 1)])], [((0, 0), [(3, 0, 1)])], [((0, 4), [(4, 1, 0)])], [((1, 0), [(0, 1, 0), (2, 0, 1)]), ((0, 1), [(0, 0, 1), (2, 1, 0)])]])
  | 2 => ([], [64], 0, [[]])
  | 10 => ([(179, ((0, 0), [(0, 1, 0)])), (180, ((0, 0), [(0, 64, 0), (1, 1, 0)])), (220, ((0, 0), [(6, 1, 0)]))], [7, 64], 3, [[((0, 0), [(1, 1, 0), (5, 0, 1)])], [((0, 1), [(0, 0, 1), (3, 1, 0)])], [((0, 0), [(0, 0, 1), (3, 1, 0)]), ((0, 1), [(0, 0, 64), (1, 0, 1), (4, 1, 0)])], [((5, 0), [(0, 0, 1)]), ((0, 0), [(0, 1, 0), (2, 0, 1)])], [((0, 0), [(7, 1, 0)])]])
  | 11 => ([(188, ((0, 0), [(0, 1, 0)])), (189, ((0, 0), [(0, 600, 0), (1, 1, 0)])), (220, ((0, 0), [(6, 1, 0)]))], [7, 600], 3, [[((0, 0), [(1, 1, 0), (5, 0, 1)])], [((0, 1), [(0, 0, 1), (3, 1, 0)])], [((0, 0), [(0, 0, 1), (3, 1, 0)]), ((0, 1), [(0, 0, 600), (1, 0, 1), (4, 1, 0)])], [((5, 0), [(0, 0, 1)]), ((0, 0), [(0, 1, 0), (2, 0, 1)])], [((0, 0), [(7, 1, 0)])]])
  | 12 => ([(195, ((0, 0), [(0, 1, 0)])), (201, ((0, 0), [(0, 3000, 0), (1, 1, 0)])), (220, ((0, 0), [(6, 1, 0)]))], [7, 3000], 3, [[((0, 0), [(1, 1, 0), (5, 0, 1)])], [((0, 1), [(0, 0, 1), (3, 1, 0)])], [((0, 0), [(0, 0, 1), (3, 1, 0)]), ((0, 1), [(0, 0, 3000), (1, 0, 1), (4, 1, 0)])], [((5, 0), [(0, 0, 1)]), ((0, 0), [(0, 1, 0), (2, 0, 1)])], [((0, 0), [(7, 1, 0)])], [((0, 1), [(6, 0, 1)])]])
  | 13 => ([(203, ((0, 0), [(0, 1, 0)])), (204, ((0, 0), [(0, 600, 0), (1, 1, 0)])), (220, ((0, 0), [(6, 1, 0)]))], [7, 600], 3, [[((0, 0), [(1, 1, 0), (5, 0, 1)])], [((0, 1), [(0, 0, 1), (3, 1, 0)])], [((0, 0), [(0, 0, 1), (3, 1, 0)]), ((0, 1), [(0, 0, 600), (1, 0, 1), (4, 1, 0)])], [((5, 0), [(0, 0, 1)]), ((0, 0), [(0, 1, 0), (2, 0, 1)])], [((0, 0), [(7, 1, 0)])]])
  | 14 => ([(213, ((0, 0), [(0, 1, 0)])), (214, ((0, 0), [(0, 64, 0), (1, 1, 0)])), (220, ((0, 0), [(6, 1, 0)]))], [6, 64], 3, [[((0, 0), [(1, 1, 0), (5, 0, 1)])], [((0, 1), [(0, 0, 1), (3, 1, 0)])], [((0, 0), [(0, 0, 1), (3, 1, 0)]), ((0, 1), [(0, 0, 64), (1, 0, 1), (4, 1, 0)])], [((5, 0), [(0, 0, 1)]), ((0, 0), [(0, 1, 0), (2, 0, 1)])], [((0, 0), [(7, 1, 0)])]])
  | 15 => ([(207, ((0, 0), [(0, 1, 0)])), (208, ((0, 0), [(0, 8000, 0), (1, 1, 0)])), (209, ((0, 0), [(0, 8000, 0), (1, 1, 0)])), (220, ((0, 0), [(7, 1, 0)])), (176, ((0, 0), [(0, 1, 0)]))], [6, 8000], 3, [[((0, 0), [(1, 1, 0), (5, 0, 1)])], [((0, 1), [(0, 0, 1), (3, 1, 0)])], [((0, 0), [(0, 0, 1), (3, 1, 0)]), ((0, 1), [(0, 0, 8000), (1, 0, 1), (4, 1, 0)])], [((5, 0), [(0, 0, 1)]), ((0, 0), [(0, 1, 0), (2, 0, 1)])], [((4, 0), [(6, 0, 1)])], [((0, 9), [(6, 1, 0)]), ((10, 0), [(6, 0, 1)])], [((0, 13), [(6, 1, 0)])], [((0, 0), [(9, 0, 1)])], [((0, 0), [(8, 1, 0)])]])
  | 16 => ([(207, ((0, 0), [(0, 1, 0)])), (208, ((0, 0), [(0, 8000, 0), (1, 1, 0)])), (209, ((0, 0), [(0, 8000, 0), (1, 1, 0)])), (176, ((0, 0), [(0, 1, 0)]))], [6, 8000], 1, [[((0, 0), [(6, 0, 1)])], [((0, 0), [(1, 1, 0), (3, 0, 1)])], [((0, 0), [(0, 1, 0), (2, 0, 1)])], [((4, 0), [(4, 0, 1)])], [((0, 9), [(4, 1, 0)]), ((10, 0), [(4, 0, 1)])], [((0, 13), [(4, 1, 0)])], [((0, 0), [(5, 1, 0)]), ((65535, 0), [(5, 0, 1)])]])
  | 20 => ([(179, ((0, 0), [(0, 1, 0)])), (180, ((0, 0), [(0, 64, 0), (1, 1, 0)])), (220, ((0, 0), [(6, 1, 0)]))], [7, 64], 3, [[((0, 0), [(1, 1, 0), (5, 0, 1)])], [((0, 1), [(0, 1, 0), (3, 0, 1)])], [((0, 0), [(0, 1, 0), (3, 0, 1)]), ((0, 0), [(0, 64, 0), (1, 1, 0), (4, 0, 1)])], [((5, 0), [(0, 0, 1)]), ((0, 0), [(0, 1, 0), (2, 0, 1)])], [((0, 1), [(7, 1, 0)]), ((1, 0), [(7, 0, 1)]), ((0, 0), [(6, 1, 0)])]])
  | 21 => ([(188, ((0, 0), [(0, 1, 0)])), (189, ((0, 0), [(0, 600, 0), (1, 1, 0)])), (220, ((0, 0), [(6, 1, 0)]))], [7, 600], 3, [[((0, 0), [(1, 1, 0), (5, 0, 1)])], [((0, 1), [(0, 1, 0), (3, 0, 1)])], [((0, 0), [(0, 1, 0), (3, 0, 1)]), ((0, 0), [(0, 600, 0), (1, 1, 0), (4, 0, 1)])], [((5, 0), [(0, 0, 1)]), ((0, 0), [(0, 1, 0), (2, 0, 1)])], [((0, 1), [(7, 1, 0)]), ((1, 0), [(7, 0, 1)]), ((0, 0), [(6, 1, 0)])]])
  | 22 => ([(195, ((0, 0), [(0, 1, 0)])), (201, ((0, 0), [(0, 3000, 0), (1, 1, 0)])), (220, ((0, 0), [(6, 1, 0)]))], [7, 3000], 3, [[((0, 0), [(1, 1, 0), (5, 0, 1)])], [((0, 1), [(0, 1, 0), (3, 0, 1)])], [((0, 0), [(0, 1, 0), (3, 0, 1)]), ((0, 0), [(0, 3000, 0), (1, 1, 0), (4, 0, 1)])], [((5, 0), [(0, 0, 1)]), ((0, 0), [(0, 1, 0), (2, 0, 1)])], [((0, 1), [(7, 1, 0)]), ((1, 0), [(7, 0, 1)]), ((0, 0), [(6, 1, 0)])], [((0, 1), [(6, 0, 1)])]])
  | 23 => ([(203, ((0, 0), [(0, 1, 0)])), (204, ((0, 0), [(0, 600, 0), (1, 1, 0)])), (220, ((0, 0), [(6, 1, 0)]))], [7, 600], 3, [[((0, 0), [(1, 1, 0), (5, 0, 1)])], [((0, 1), [(0, 1, 0), (3, 0, 1)])], [((0, 0), [(0, 1, 0), (3, 0, 1)]), ((0, 0), [(0, 600, 0), (1, 1, 0), (4, 0, 1)])], [((5, 0), [(0, 0, 1)]), ((0, 0), [(0, 1, 0), (2, 0, 1)])], [((0, 1), [(7, 1, 0)]), ((1, 0), [(7, 0, 1)]), ((0, 0), [(6, 1, 0)])]])
  | 24 => ([(213, ((0, 0), [(0, 1, 0)])), (214, ((0, 0), [(0, 64, 0), (1, 1, 0)])), (220, ((0, 0), [(6, 1, 0)]))], [6, 64], 3, [[((0, 0), [(1, 1, 0), (5, 0, 1)])], [((0, 1), [(0, 1, 0), (3, 0, 1)])], [((0, 0), [(0, 1, 0), (3, 0, 1)]), ((0, 0), [(0, 64, 0), (1, 1, 0), (4, 0, 1)])], [((5, 0), [(0, 0, 1)]), ((0, 0), [(0, 1, 0), (2, 0, 1)])], [((0, 1), [(7, 1, 0)]), ((1, 0), [(7, 0, 1)]), ((0, 0), [(6, 1, 0)])]])
  | 25 => ([(207, ((0, 0), [(0, 1, 0)])), (208, ((0, 0), [(0, 8000, 0), (1, 1, 0)])), (209, ((0, 0), [(0, 8000, 0), (1, 1, 0)])), (220, ((0, 0), [(7, 1, 0)])), (176, ((0, 0), [(0, 1, 0)]))], [6, 8000], 3, [[((0, 0), [(1, 1, 0), (5, 0, 1)])], [((0, 1), [(0, 1, 0), (3, 0, 1)])], [((0, 0), [(0, 1, 0), (3, 0, 1)]), ((0, 0), [(0, 8000, 0), (1, 1, 0), (4, 0, 1)])], [((5, 0), [(0, 0, 1)]), ((0, 0), [(0, 1, 0), (2, 0, 1)])], [((4, 0), [(6, 0, 1)])], [((0, 9), [(6, 1, 0)]), ((10, 0), [(6, 0, 1)])], [((0, 13), [(6, 1, 0)])], [((0, 0), [(9, 0, 1)])], [((0, 1), [(8, 1, 0)]), ((1, 0), [(8, 0, 1)]), ((0, 0), [(7, 1, 0)])]])
  | 30 => ([(179, ((0, 0), [(0, 1, 0)])), (180, ((0, 0), [(0, 64, 0), (1, 1, 0)])), (220, ((0, 0), [(5, 1, 0)]))], [7, 64], 2, [[((0, 0), [(1, 1, 0), (4, 0, 1)])], [((5, 0), [(0, 0, 1)]), ((0, 0), [(0, 1, 0), (2, 0, 1)])], [((0, 0), [(5, 1, 0)]), ((0, 1), [(3, 1, 0), (5, 0, 1)]), ((0, 0), [(6, 1, 0)])], [((0, 0), [(5, 1, 0)]), ((0, 0), [(3, 0, 1), (5, 1, 0)]), ((0, 1), [(6, 1, 0)]), ((1, 0), [(6, 0, 1)])]])
  | 31 => ([(188, ((0, 0), [(0, 1, 0)])), (189, ((0, 0), [(0, 600, 0), (1, 1, 0)])), (220, ((0, 0), [(5, 1, 0)]))], [7, 600], 2, [[((0, 0), [(1, 1, 0), (4, 0, 1)])], [((5, 0), [(0, 0, 1)]), ((0, 0), [(0, 1, 0), (2, 0, 1)])], [((0, 0), [(5, 1, 0)]), ((0, 1), [(3, 1, 0), (5, 0, 1)]), ((0, 0), [(6, 1, 0)])], [((0, 0), [(5, 1, 0)]), ((0, 0), [(3, 0, 1), (5, 1, 0)]), ((0, 1), [(6, 1, 0)]), ((1, 0), [(6, 0, 1)])]])
  | 32 => ([(195, ((0, 0), [(0, 1, 0)])), (201, ((0, 0), [(0, 3000, 0), (1, 1, 0)])), (220, ((0, 0), [(5, 1, 0)]))], [7, 3000], 2, [[((0, 0), [(1, 1, 0), (4, 0, 1)])], [((5, 0), [(0, 0, 1)]), ((0, 0), [(0, 1, 0), (2, 0, 1)])], [((0, 1), [(5, 0, 1)])], [((0, 0), [(5, 1, 0)]), ((0, 1), [(3, 1, 0), (5, 0, 1)]), ((0, 0), [(6, 1, 0)])], [((0, 0), [(5, 1, 0)]), ((0, 0), [(3, 0, 1), (5, 1, 0)]), ((0, 1), [(6, 1, 0)]), ((1, 0), [(6, 0, 1)])]])
  | 33 => ([(203, ((0, 0), [(0, 1, 0)])), (204, ((0, 0), [(0, 600, 0), (1, 1, 0)])), (220, ((0, 0), [(5, 1, 0)]))], [7, 600], 2, [[((0, 0), [(1, 1, 0), (4, 0, 1)])], [((5, 0), [(0, 0, 1)]), ((0, 0), [(0, 1, 0), (2, 0, 1)])], [((0, 0), [(5, 1, 0)]), ((0, 1), [(3, 1, 0), (5, 0, 1)]), ((0, 0), [(6, 1, 0)])], [((0, 0), [(5, 1, 0)]), ((0, 0), [(3, 0, 1), (5, 1, 0)]), ((0, 1), [(6, 1, 0)]), ((1, 0), [(6, 0, 1)])]])
  | 34 => ([(213, ((0, 0), [(0, 1, 0)])), (214, ((0, 0), [(0, 64, 0), (1, 1, 0)])), (220, ((0, 0), [(5, 1, 0)]))], [6, 64], 2, [[((0, 0), [(1, 1, 0), (4, 0, 1)])], [((5, 0), [(0, 0, 1)]), ((0, 0), [(0, 1, 0), (2, 0, 1)])], [((0, 0), [(5, 1, 0)]), ((0, 1), [(3, 1, 0), (5, 0, 1)]), ((0, 0), [(6, 1, 0)])], [((0, 0), [(5, 1, 0)]), ((0, 0), [(3, 0, 1), (5, 1, 0)]), ((0, 1), [(6, 1, 0)]), ((1, 0), [(6, 0, 1)])]])
  | 35 => ([(207, ((0, 0), [(0, 1, 0)])), (208, ((0, 0), [(0, 8000, 0), (1, 1, 0)])), (209, ((0, 0), [(0, 8000, 0), (1, 1, 0)])), (220, ((0, 0), [(6, 1, 0)])), (176, ((0, 0), [(0, 1, 0)]))], [6, 8000], 2, [[((0, 0), [(1, 1, 0), (4, 0, 1)])], [((5, 0), [(0, 0, 1)]), ((0, 0), [(0, 1, 0), (2, 0, 1)])], [((4, 0), [(5, 0, 1)])], [((0, 9), [(5, 1, 0)]), ((10, 0), [(5, 0, 1)])], [((0, 13), [(5, 1, 0)])], [((0, 0), [(8, 0, 1)])], [((0, 0), [(6, 1, 0)]), ((0, 1), [(3, 1, 0), (6, 0, 1)]), ((0, 0), [(7, 1, 0)])], [((0, 0), [(6, 1, 0)]), ((0, 0), [(3, 0, 1), (6, 1, 0)]), ((0, 1), [(7, 1, 0)]), ((1, 0), [(7, 0, 1)])]])
  | 40 => ([(188, ((0, 0), [(0, 1, 0)])), (190, ((0, 0), [(0, 600, 0), (1, 1, 0)])), (179, ((0, 0), [(0, 1, 0)]))], [7, 600], 1, [[((0, 0), [(1, 1, 0), (3, 0, 1)])], [((0, 0), [(0, 1, 0), (2, 0, 1)]), ((0, 0), [(0, 0, 1), (2, 1, 0)])], [((0, 1), [(4, 0, 1), (5, 1, 0)]), ((0, 0), [(4, 1, 0)])]])
  | 41 => ([(195, ((0, 0), [(0, 1, 0)])), (196, ((0, 0), [(0, 3000, 0), (1, 1, 0)])), (199, ((0, 0), [(0, 3000, 0), (1, 1, 0)])), (197, ((0, 0), [(0, 3000, 0), (1, 1, 0)])), (179, ((0, 0), [(0, 1, 0)])), (182, ((0, 0), [(0, 64, 0), (4, 1, 0)]))], [7, 3000], 1, [[((0, 0), [(1, 1, 0), (3, 0, 1)])], [((0, 0), [(0, 1, 0), (2, 0, 1)]), ((0, 0), [(0, 0, 1), (2, 1, 0)])], [((0, 0), [(4, 1, 0)]), ((63, 0), [(4, 0, 1)]), ((0, 1), [(4, 0, 1), (7, 1, 0)]), ((0, 1), [(5, 0, 1), (7, 1, 0)]), ((0, 0), [(6, 1, 0)]), ((0, 0), [(6, 0, 1), (8, 1, 0)])]])
  | 42 => ([(304, ((0, 0), [(0, 1, 0)])), (179, ((0, 0), [(2, 1, 0)]))], [3000], 2, [[((0, 0), [(0, 1, 0), (1, 0, 1)])], [((0, 1), [(3, 0, 1), (4, 1, 0)])]])
  | 43 => ([(297, ((0, 0), [(0, 1, 0)])), (179, ((0, 0), [(2, 1, 0)]))], [10], 2, [[((0, 0), [(0, 1, 0), (1, 0, 1)])], [((0, 1), [(3, 0, 1), (4, 1, 0)])]])
  | 45 => ([(302, ((0, 0), [(0, 1, 0)])), (303, ((0, 0), [(0, 1, 0)])), (304, ((0, 0), [(0, 1, 0)]))], [3000], 2, [[((0, 0), [(0, 1, 0), (1, 0, 1)])], [((0, 0), [(0, 1, 0), (2, 0, 1)]), ((0, 0), [(0, 0, 1), (2, 1, 0)])], [((0, 1), [(3, 1, 0)]), ((1, 0), [(3, 0, 1)]), ((0, 0), [(4, 1, 0)])], [((0, 2), [(3, 1, 0)]), ((2, 0), [(3, 0, 1)]), ((0, 0), [(5, 1, 0)])], [((0, 3), [(3, 1, 0)]), ((3, 0), [(3, 0, 1)])]])
  | 46 => ([(308, ((0, 0), [(0, 1, 0)])), (309, ((0, 0), [(0, 1, 0)])), (297, ((0, 0), [(3, 1, 0)]))], [3001], 1, [[((0, 0), [(0, 1, 0), (1, 0, 1)])], [((1, 0), [(2, 0, 1)])], [((0, 3), [(2, 1, 0)])], [((0, 0), [(3, 1, 0)]), ((9, 0), [(3, 0, 1)]), ((0, 0), [(4, 1, 0)])]])
  | 50 => ([(315, ((0, 0), [(0, 1, 0)])), (190, ((0, 1), [(4, 1, 0)])), (179, ((0, 0), [(1, 1, 0)]))], [65536, 7], 2, [[((0, 0), [(0, 1, 0), (3, 0, 1)])], [((0, 0), [(1, 600, 0), (4, 0, 1)])], [((0, 601), [(1, 0, 600), (4, 1, 0)])], [((0, 1), [(1, 0, 1), (2, 1, 0)]), ((0, 1), [(5, 0, 1), (6, 1, 0)]), ((0, 0), [(5, 1, 0)])], [((0, 6), [(1, 1, 0)]), ((0, 1), [(5, 0, 1), (6, 1, 0)]), ((0, 0), [(5, 1, 0)])]])
  | 51 => ([(186, ((0, 0), [(0, 64, 0), (1, 1, 0)])), (179, ((0, 0), [(0, 1, 0)]))], [7, 64], 2, [[((0, 0), [(0, 64, 0), (1, 1, 0), (3, 0, 1)])], [((0, 0), [(4, 0, 1)])], [((0, 1), [(1, 0, 1), (5, 1, 0)]), ((0, 1), [(0, 0, 1), (2, 1, 0)])], [((0, 1), [(1, 0, 1), (5, 1, 0)]), ((0, 6), [(0, 1, 0)])]])
  | 52 => ([(195, ((0, 0), [(0, 1, 0)])), (196, ((0, 0), [(0, 3000, 0), (1, 1, 0)])), (186, ((0, 0), [(0, 64, 0), (5, 1, 0)])), (199, ((0, 0), [(0, 3000, 0), (1, 1, 0)])), (201, ((0, 0), [(0, 3000, 0), (1, 1, 0)])), (315, ((0, 0), [(8, 1, 0)]))], [7, 3000], 2, [[((0, 0), [(1, 1, 0), (4, 0, 1)])], [((0, 0), [(0, 1, 0), (2, 0, 1)]), ((5, 0), [(0, 0, 1)])], [((0, 0), [(0, 3000, 0), (1, 1, 0), (3, 0, 1)])], [((0, 0), [(6, 0, 1)])], [((0, 0), [(7, 1, 0)])], [((0, 1), [(9, 1, 0)]), ((0, 0), [(8, 1, 0)])]])
  | 53 => ([(186, ((0, 0), [(0, 64, 0), (1, 1, 0)])), (181, ((0, 0), [(0, 64, 0), (1, 1, 0)])), (185, ((0, 0), [(0, 64, 0), (1, 1, 0)])), (182, ((0, 0), [(0, 64, 0), (1, 1, 0)])), (179, ((0, 0), [(0, 1, 0)]))], [7, 64], 4, [[((0, 0), [(1, 1, 0), (10, 0, 1)])], [((0, 0), [(0, 1, 0), (2, 0, 1)]), ((5, 0), [(0, 0, 1)])], [((0, 0), [(0, 64, 0), (1, 1, 0), (3, 0, 1)])], [((0, 0), [(6, 0, 1)])], [((0, 1), [(7, 1, 0)])], [((0, 0), [(4, 0, 1), (8, 1, 0)]), ((0, 0), [(5, 1, 0), (8, 0, 1), (9, 0, 1)])]])
  | 54 => ([(186, ((0, 0), [(0, 64, 0), (1, 1, 0)])), (181, ((0, 0), [(0, 64, 0), (1, 1, 0)])), (185, ((0, 0), [(0, 64, 0), (1, 1, 0)])), (182, ((0, 0), [(0, 64, 0), (1, 1, 0)])), (179, ((0, 0), [(0, 1, 0)]))], [7, 64], 4, [[((0, 0), [(1, 1, 0), (10, 0, 1)])], [((0, 0), [(0, 1, 0), (2, 0, 1)]), ((5, 0), [(0, 0, 1)])], [((0, 0), [(0, 64, 0), (1, 1, 0), (3, 0, 1)])], [((0, 0), [(6, 0, 1)])], [((0, 0), [(7, 0, 1)])], [((0, 0), [(4, 0, 1), (8, 1, 0)]), ((0, 0), [(5, 1, 0), (8, 0, 1), (9, 0, 1)])]])
  | 60 => ([(10, ((0, 0), [(0, 1, 0)])), (11, ((0, 1), [(4, 1, 0)]))], [8192], 3, [[((0, 0), [(4, 0, 1)])], [((0, 1), [(4, 1, 0)]), ((0, 0), [(1, 1, 0), (4, 0, 1)]), ((0, 0), [(3, 1, 0), (4, 0, 1)]), ((0, 0), [(0, 0, 1), (5, 1, 0)]), ((0, 0), [(0, 1, 0), (5, 0, 1)])], [((0, 1), [(4, 1, 0)]), ((0, 1), [(2, 0, 1), (4, 1, 0)]), ((0, 0), [(3, 1, 0), (4, 0, 1)]), ((0, 0), [(0, 0, 1), (5, 1, 0)]), ((0, 0), [(0, 1, 0), (5, 0, 1)])]])
  | 61 => ([(10, ((0, 0), [(0, 1, 0)])), (11, ((0, 1), [(3, 1, 0)]))], [8192], 2, [[((0, 0), [(0, 1, 0), (2, 0, 1)]), ((0, 0), [(0, 0, 1), (2, 1, 0)])], [((0, 0), [(3, 0, 1)])], [((0, 0), [(1, 1, 0), (3, 0, 1)]), ((0, 1), [(3, 1, 0)]), ((0, 0), [(0, 0, 1), (4, 1, 0)]), ((0, 0), [(0, 1, 0), (4, 0, 1)])]])
  | 62 => ([(7, ((0, 0), [(0, 1, 0)])), (9, ((0, 0), [(0, 1, 0)]))], [4000], 1, [[((0, 0), [(0, 1, 0), (1, 0, 1)])], [((511, 0), [(2, 0, 1)]), ((0, 0), [(3, 1, 0)]), ((750, 0), [(3, 0, 1)])]])
  | 63 => ([(7, ((0, 0), [(0, 1, 0)]))], [4000], 2, [[((0, 0), [(0, 1, 0), (1, 0, 1)])], [((0, 1), [(3, 0, 1)])], [((0, 0), [(2, 1, 0)]), ((0, 0), [(2, 0, 1)]), ((0, 0), [(3, 1, 0)]), ((599, 0), [(3, 0, 1)])], [((0, 1), [(2, 1, 0)]), ((1, 0), [(2, 0, 1)]), ((0, 0), [(3, 1, 0)]), ((599, 0), [(3, 0, 1)])], [((0, 1), [(2, 1, 0)]), ((1, 0), [(2, 0, 1)]), ((0, 1024), [(3, 1, 0)]), ((1623, 0), [(3, 0, 1)])], [((0, 1), [(2, 1, 0)]), ((1, 0), [(2, 0, 1)]), ((0, 2048), [(3, 1, 0)]), ((2647, 0), [(3, 0, 1)])], [((0, 1), [(2, 1, 0)]), ((1, 0), [(2, 0, 1)]), ((0, 3072), [(3, 1, 0)]), ((3671, 0), [(3, 0, 1)])], [((0, 1), [(2, 1, 0)]), ((1, 0), [(2, 0, 1)]), ((0, 4096), [(3, 1, 0)]), ((4695, 0), [(3, 0, 1)])], [((0, 1), [(2, 1, 0)]), ((1, 0), [(2, 0, 1)]), ((0, 5120), [(3, 1, 0)]), ((5719, 0), [(3, 0, 1)])], [((0, 1), [(2, 1, 0)]), ((1, 0), [(2, 0, 1)]), ((0, 6144), [(3, 1, 0)]), ((6147, 0), [(3, 0, 1)])], [((0, 2), [(2, 1, 0)]), ((2, 0), [(2, 0, 1)]), ((0, 0), [(3, 1, 0)]), ((59, 0), [(3, 0, 1)])], [((0, 2), [(2, 1, 0)]), ((2, 0), [(2, 0, 1)]), ((0, 512), [(3, 1, 0)]), ((571, 0), [(3, 0, 1)])], [((0, 2), [(2, 1, 0)]), ((2, 0), [(2, 0, 1)]), ((0, 1024), [(3, 1, 0)]), ((1083, 0), [(3, 0, 1)])], [((0, 2), [(2, 1, 0)]), ((2, 0), [(2, 0, 1)]), ((0, 1536), [(3, 1, 0)]), ((1595, 0), [(3, 0, 1)])], [((0, 2), [(2, 1, 0)]), ((2, 0), [(2, 0, 1)]), ((0, 2048), [(3, 1, 0)]), ((2107, 0), [(3, 0, 1)])], [((0, 2), [(2, 1, 0)]), ((2, 0), [(2, 0, 1)]), ((0, 2560), [(3, 1, 0)]), ((2619, 0), [(3, 0, 1)])]])
  | 65 => ([(67, ((1, 0), [(0, 6, 0)])), (67, ((3, 0), [(0, 6, 0)]))], [64], 3, [[((0, 1), [(0, 0, 1), (1, 1, 0)])], [((0, 0), [(0, 1, 0), (2, 0, 1)])], [((0, 0), [(3, 1, 0), (4, 0, 1), (5, 0, 1)])]])
  | 66 => ([(34, ((0, 0), [(0, 8, 0)])), (34, ((1, 0), [(0, 8, 0)])), (34, ((2, 0), [(0, 8, 0)]))], [11], 2, [[((0, 0), [(0, 1, 0), (1, 0, 1)])], [((0, 0), [(2, 1, 0), (3, 0, 1)]), ((0, 0), [(2, 1, 0), (4, 0, 1)]), ((0, 0), [(2, 1, 0), (5, 0, 1)])]])
  | 67 => ([(35, ((0, 0), [(0, 3, 0)])), (35, ((1, 0), [(0, 3, 0)]))], [12], 2, [[((0, 0), [(0, 1, 0), (1, 0, 1)])], [((0, 0), [(2, 1, 0), (3, 0, 1)]), ((0, 0), [(2, 1, 0), (4, 0, 1)])]])
  | 68 => ([(19, ((0, 0), [(0, 3, 0)])), (19, ((2, 0), [(0, 3, 0)]))], [3002], 2, [[((0, 1), [(0, 1, 0), (1, 0, 1)])], [((0, 0), [(0, 1, 0), (1, 0, 1)]), ((0, 0), [(0, 0, 1), (1, 1, 0)]), ((1, 0), [(3, 0, 1)])], [((0, 1), [(0, 0, 1), (1, 1, 0)]), ((0, 3), [(3, 1, 0)])], [((0, 1), [(0, 0, 1), (1, 1, 0)]), ((0, 2), [(3, 1, 0)]), ((2, 0), [(3, 0, 1)]), ((0, 0), [(4, 1, 0)]), ((0, 1), [(2, 1, 0), (4, 0, 1)])]])
  | 69 => ([(19, ((0, 0), [(0, 3, 0)])), (19, ((2, 0), [(0, 3, 0)]))], [3002], 2, [[((0, 0), [(0, 1, 0), (1, 0, 1)])], [((0, 3), [(3, 1, 0)])], [((0, 2), [(3, 1, 0)]), ((2, 0), [(3, 0, 1)]), ((0, 0), [(4, 1, 0)]), ((0, 1), [(2, 1, 0), (4, 0, 1)])]])
  | 72 => ([(20, ((0, 0), [(0, 6, 0)]))], [1501], 2, [[((0, 0), [(0, 1, 0), (1, 0, 1)])], [((0, 1), [(2, 1, 0), (3, 0, 1)])]])
  | 73 => ([(41, ((0, 0), [(0, 1, 0)])), (42, ((0, 0), [(0, 1, 0)]))], [3002], 1, [[((0, 1), [(0, 1, 0), (1, 0, 1)])], [((0, 0), [(0, 1, 0), (1, 0, 1)]), ((0, 0), [(0, 0, 1), (1, 1, 0)]), ((1, 0), [(2, 0, 1)])], [((0, 1), [(0, 0, 1), (1, 1, 0)]), ((0, 2), [(2, 1, 0)]), ((2, 0), [(2, 0, 1)]), ((1, 0), [(3, 1, 0)]), ((3999, 0), [(3, 0, 1)])], [((0, 1), [(0, 0, 1), (1, 1, 0)]), ((0, 3), [(2, 1, 0)]), ((3, 0), [(2, 0, 1)])], [((0, 1), [(0, 0, 1), (1, 1, 0)]), ((0, 4), [(2, 1, 0)]), ((5, 0), [(2, 0, 1)]), ((0, 0), [(3, 1, 0)]), ((9, 0), [(3, 0, 1)])], [((0, 1), [(0, 0, 1), (1, 1, 0)]), ((0, 6), [(2, 1, 0)])]])
  | 74 => ([(41, ((0, 0), [(0, 1, 0)])), (42, ((0, 0), [(0, 1, 0)]))], [3002], 1, [[((0, 0), [(0, 1, 0), (1, 0, 1)])], [((0, 2), [(2, 1, 0)]), ((2, 0), [(2, 0, 1)]), ((1, 0), [(3, 1, 0)]), ((3999, 0), [(3, 0, 1)])], [((0, 3), [(2, 1, 0)]), ((3, 0), [(2, 0, 1)])], [((0, 4), [(2, 1, 0)]), ((5, 0), [(2, 0, 1)]), ((0, 0), [(3, 1, 0)]), ((9, 0), [(3, 0, 1)])], [((0, 6), [(2, 1, 0)])]])
  | 75 => ([(41, ((0, 0), [(0, 1, 0)])), (42, ((0, 0), [(0, 1, 0)]))], [3002], 1, [[((0, 0), [(0, 1, 0), (1, 0, 1)])], [((0, 2), [(0, 0, 1), (1, 1, 0)])], [((0, 2), [(2, 1, 0)]), ((2, 0), [(2, 0, 1)])], [((0, 4), [(2, 1, 0)]), ((5, 0), [(2, 0, 1)]), ((0, 0), [(3, 1, 0)]), ((9, 0), [(3, 0, 1)])]])
  | 76 => ([(62, ((0, 0), [(0, 6, 0)])), (62, ((2, 0), [(0, 6, 0)]))], [512], 2, [[((0, 0), [(0, 1, 0), (1, 0, 1)])], [((0, 1), [(2, 1, 0)])], [((0, 1), [(3, 1, 0)]), ((7, 0), [(3, 0, 1)]), ((0, 0), [(4, 1, 0)]), ((400, 0), [(4, 0, 1)])]])
  | 77 => ([(20, ((3, 0), [(0, 6, 0)])), (20, ((5, 0), [(0, 6, 0)]))], [1501], 2, [[((0, 0), [(0, 1, 0), (1, 0, 1)])], [((0, 1), [(2, 1, 0)])], [((0, 0), [(3, 1, 0)])], [((0, 0), [(4, 1, 0)]), ((119, 0), [(4, 0, 1)])]])
  | 78 => ([(7, ((0, 0), [(0, 1, 0)])), (8, ((0, 0), [(0, 1, 0)]))], [4000], 3, [[((0, 0), [(0, 1, 0), (1, 0, 1)])], [((0, 1), [(2, 1, 0)])], [((59, 0), [(4, 0, 1)]), ((0, 1), [(3, 1, 0), (4, 0, 1)]), ((0, 0), [(5, 1, 0)]), ((60, 0), [(5, 0, 1)])]])
  | 79 => ([], [1], 3, [[((0, 1), [(2, 1, 0)])], [((0, 1), [(1, 1, 0), (3, 0, 1)])]])
  | 80 => ([(163, ((1, 0), [(0, 6, 0)])), (163, ((3, 0), [(0, 6, 0)]))], [4], 3, [[((0, 1), [(0, 0, 1), (1, 1, 0)])], [((0, 0), [(0, 1, 0), (2, 0, 1)])], [((0, 0), [(3, 1, 0), (4, 0, 1), (5, 0, 1)])]])
  | 82 => ([(20, ((3, 0), [(0, 6, 0)])), (20, ((4, 0), [(0, 6, 0)]))], [1501], 2, [[((0, 0), [(0, 1, 0), (1, 0, 1)])], [((0, 1), [(2, 1, 0)])], [((403, 0), [(3, 0, 1)]), ((0, 0), [(4, 1, 0)]), ((404, 0), [(3, 0, 1), (4, 0, 1)])]])
  | 84 => ([(9, ((0, 0), [(0, 1, 0)])), (21, ((0, 2), [(4, 3, 0)])), (21, ((0, 1), [(4, 3, 0)]))], [4000], 3, [[((0, 0), [(0, 1, 0), (1, 0, 1)])], [((0, 1), [(2, 1, 0)])], [((0, 0), [(4, 0, 1)])], [((0, 1), [(4, 1, 0)]), ((750, 0), [(4, 0, 1)]), ((0, 1), [(3, 0, 1), (4, 1, 0)]), ((1, 0), [(3, 1, 0), (4, 0, 1)])], [((0, 1), [(4, 1, 0)]), ((403, 0), [(5, 0, 1)]), ((0, 0), [(6, 1, 0)]), ((404, 0), [(5, 0, 1), (6, 0, 1)])]])
  | 85 => ([(20, ((2, 0), [(0, 6, 0)])), (20, ((3, 0), [(0, 6, 0)])), (20, ((5, 0), [(0, 6, 0)])), (62, ((0, 0), [(7, 6, 0)])), (64, ((0, 60), [(7, 1, 0)]))], [1501], 4, [[((0, 0), [(0, 1, 0), (1, 0, 1)])], [((0, 1), [(2, 1, 0)])], [((0, 0), [(6, 1, 0)]), ((2, 0), [(5, 0, 1)])], [((0, 1), [(6, 0, 1)]), ((0, 0), [(7, 1, 0)]), ((59, 0), [(7, 0, 1)]), ((0, 1), [(4, 1, 0), (7, 0, 1)]), ((0, 0), [(5, 0, 1), (8, 1, 0)]), ((0, 0), [(5, 1, 0), (8, 0, 1)])], [((0, 1), [(6, 0, 1)]), ((0, 60), [(7, 1, 0)]), ((59, 0), [(3, 1, 0), (7, 0, 1)]), ((119, 0), [(7, 0, 1)]), ((0, 0), [(5, 0, 1), (9, 1, 0)]), ((0, 0), [(5, 1, 0), (9, 0, 1)])]])
  | 86 => ([(8, ((0, 0), [(0, 1, 0)])), (9, ((0, 0), [(0, 1, 0)])), (64, ((0, 1), [(5, 1, 0)]))], [4000], 4, [[((0, 0), [(0, 1, 0), (1, 0, 1)])], [((0, 1), [(2, 1, 0)])], [((0, 0), [(0, 1, 0), (4, 0, 1)]), ((0, 0), [(0, 0, 1), (4, 1, 0)])], [((0, 0), [(5, 0, 1)])], [((0, 1), [(5, 1, 0)]), ((0, 0), [(3, 1, 0), (5, 0, 1)]), ((60, 0), [(5, 0, 1)]), ((0, 0), [(6, 0, 1), (7, 1, 0)]), ((0, 0), [(6, 1, 0), (7, 0, 1)])]])
  | 87 => ([(8, ((0, 0), [(0, 1, 0)]))], [4000], 2, [[((0, 0), [(0, 1, 0), (1, 0, 1)])], [((0, 1), [(2, 1, 0)])], [((0, 0), [(3, 0, 1)])]])
  | 88 => ([(20, ((2, 0), [(0, 6, 0)])), (20, ((3, 0), [(0, 6, 0)])), (20, ((5, 0), [(0, 6, 0)]))], [1501], 4, [[((0, 0), [(0, 1, 0), (1, 0, 1)])], [((0, 1), [(2, 1, 0)])], [((0, 0), [(6, 1, 0)]), ((2, 0), [(5, 0, 1)])], [((0, 1), [(6, 0, 1)]), ((0, 0), [(7, 1, 0)]), ((119, 0), [(7, 0, 1)])]])
  | 89 => ([(20, ((2, 0), [(0, 6, 0)])), (20, ((3, 0), [(0, 6, 0)])), (20, ((5, 0), [(0, 6, 0)])), (62, ((0, 0), [(7, 6, 0)]))], [1501], 4, [[((0, 0), [(0, 1, 0), (1, 0, 1)])], [((0, 1), [(2, 1, 0)])], [((0, 0), [(6, 1, 0)])], [((0, 60), [(7, 1, 0)])], [((0, 0), [(7, 1, 0)]), ((59, 0), [(7, 0, 1)]), ((0, 1), [(4, 1, 0), (7, 0, 1)]), ((0, 0), [(5, 0, 1), (8, 1, 0)]), ((0, 0), [(5, 1, 0), (8, 0, 1)])]])
  | 90 => ([(20, ((2, 0), [(0, 6, 0)])), (20, ((3, 0), [(0, 6, 0)])), (20, ((5, 0), [(0, 6, 0)])), (64, ((0, 60), [(7, 1, 0)]))], [1501], 4, [[((0, 0), [(0, 1, 0), (1, 0, 1)])], [((0, 1), [(2, 1, 0)])], [((0, 0), [(6, 1, 0)])], [((59, 0), [(7, 0, 1)])], [((0, 60), [(7, 1, 0)]), ((119, 0), [(7, 0, 1)]), ((59, 0), [(3, 1, 0), (7, 0, 1)]), ((0, 0), [(5, 0, 1), (8, 1, 0)]), ((0, 0), [(5, 1, 0), (8, 0, 1)])]])
  | 94 => ([(62, ((5, 0), [(0, 6, 0)])), (61, ((0, 0), [(5, 2, 0)]))], [512], 4, [[((0, 0), [(0, 1, 0), (1, 0, 1)])], [((0, 1), [(3, 1, 0)])], [((0, 3200), [(2, 1, 0)])], [((0, 0), [(0, 1, 0), (4, 0, 1)]), ((0, 0), [(0, 0, 1), (4, 1, 0)]), ((0, 0), [(2, 0, 1), (5, 1, 0)]), ((0, 0), [(2, 1, 0), (5, 0, 1)])], [((0, 0), [(5, 1, 0)]), ((0, 1), [(2, 1, 0), (5, 0, 1)]), ((0, 0), [(6, 1, 0)]), ((3, 0), [(6, 0, 1)])]])
  | 97 => ([(207, ((0, 0), [(1, 1, 0)])), (208, ((0, 0), [(0, 1, 0), (1, 8000, 0)])), (209, ((0, 0), [(0, 1, 0), (1, 8000, 0)])), (210, ((0, 0), [(0, 1, 0), (1, 8000, 0)]))], [8000], 1, [[((0, 0), [(0, 1, 0), (2, 0, 1)])], [((0, 1), [(3, 1, 0)]), ((4, 0), [(3, 0, 1)])], [((0, 0), [(3, 0, 1)]), ((0, 0), [(4, 1, 0)]), ((3000, 0), [(4, 0, 1)])], [((0, 9), [(3, 1, 0)]), ((10, 0), [(3, 0, 1)])], [((0, 13), [(3, 1, 0)])], [((0, 0), [(4, 1, 0)]), ((65535, 0), [(4, 0, 1)]), ((7, 0), [(3, 0, 1)]), ((0, 5), [(3, 1, 0)])], [((0, 0), [(4, 1, 0)]), ((65535, 0), [(4, 0, 1)]), ((0, 11), [(3, 1, 0)]), ((12, 0), [(3, 0, 1)])], [((0, 0), [(4, 1, 0)]), ((65535, 0), [(4, 0, 1)]), ((0, 0), [(5, 1, 0)]), ((4, 0), [(5, 0, 1)]), ((0, 8), [(3, 1, 0)]), ((8, 0), [(3, 0, 1)])]])
  | 98 => ([], [8000], 1, [[((0, 0), [(0, 1, 0)])]])
  | 99 => ([(234, ((0, 0), [(0, 1, 0)]))], [3001], 1, [[((0, 0), [(0, 1, 0), (1, 0, 1)])], [((0, 1), [(2, 1, 0)])]])
  | _ => ([], [], 0, [[]])
/-- from 1000 on: the same of unit k -/
def zu_nm (k : Nat) (p : zu_Sp) : zu_Sp := (p.1.map (fun q => (zz_sw k q.1, q.2)), p.2)
def zu_T (t : Nat) : zu_Sp := cond (Nat.blt t 1000) (zu_T0 t) (zu_nm (t / 1000) (zu_T0 (t % 1000)))
def zu_ex (w : zz_W) : List (Nat × zl_E) → List Int → List Int
  | [], l => l
  | q :: s, l => zu_ex w s (l ++ [zk_el w q.1 (zl_ev (fun m => l.getD m 0) q.2)])
/-- places within their bounds (one, or several) -/
def zu_ix (Ns : List Nat) (l : List Int) : Prop := l.length = Ns.length ∧ ∀ (k N : Nat), Ns[k]? = some N → 0 ≤ l.getD k 0 ∧ l.getD k 0 < (N : Int)
def zu_P (p : zu_Sp) (w : zz_W) (ps : List Int) : Prop := ∀ ix : List Int, zu_ix p.2.1 ix → ∃ d ∈ p.2.2.2, zk_cs (fun m => (zu_ex w p.1 (ix ++ ps)).getD m 0) d
theorem zu_ex_g {w w' : zz_W} : ∀ {s : List (Nat × zl_E)} {l : List Int}, (∀ r ∈ s.map (fun q => q.1), zz_g w' r = zz_g w r) → zu_ex w' s l = zu_ex w s l
  | [], _, _ => rfl
  | q :: s, l, h => by
    have e : ∀ x, zk_el w' q.1 x = zk_el w q.1 x := fun x => by
      unfold zk_el
      rw [h q.1 List.mem_cons_self]
    show zu_ex w' s (l ++ [zk_el w' q.1 (zl_ev (fun m => l.getD m 0) q.2)]) = zu_ex w s (l ++ [zk_el w q.1 (zl_ev (fun m => l.getD m 0) q.2)])
    rw [e]
    exact zu_ex_g (fun r hr => h r (List.mem_cons_of_mem _ hr))
theorem zu_P_g {p : zu_Sp} {w w' : zz_W} {ps : List Int} (h : ∀ r ∈ p.1.map (fun q => q.1), zz_g w' r = zz_g w r) : zu_P p w' ps = zu_P p w ps := by
  have e : ∀ l : List Int, zu_ex w' p.1 l = zu_ex w p.1 l := fun l => zu_ex_g h
  unfold zu_P
  simp only [e]
/-- begins of procedures -/
def zc_bd (sw sa fk fs : Int → Int) (sn u F x : Int) : Prop := (∀ i, 0 ≤ i → i < sn → sw (8000 * u + i) = 0 → 0 ≤ sa (8000 * u + i) ∧ sa (8000 * u + i) < F) ∧ (∀ n, 0 ≤ n → n < F - x → 3 ≤ fk n → 0 ≤ fs n ∧ fs n < sn ∧ sw (8000 * u + fs n) = 0) ∧ (x = 1 → 0 < F ∧ fs (F - 1) = sn)
/-- want lines -/
def zc_xs (a K s m : Int) : Int := if s < 6 then (if s = 0 then 46 else if s = 1 then 119 else if s = 2 then 97 else if s = 3 then 110 else if s = 4 then 116 else 32) else if s < 6 + m then a / 256 ^ (s - 6).toNat % 256 else if s = 6 + m then 44 else if s = 7 + m then 48 + K else 10
def zc_pm (a b m : Int) : Prop := 1 ≤ m ∧ m ≤ 8 ∧ b = 0 ∧ zp_k m.toNat a
def zc_wl (T A B O Q : Int → Int) (b p f m : Int) : Prop := 0 ≤ O p ∧ zc_pm (A (O p)) (B (O p)) m ∧ 0 ≤ Q p ∧ Q p ≤ 9 ∧ ∀ i, 0 ≤ i → i < 9 + m → T (b + f + i) = zc_xs (A (O p)) (Q p) i m
def zc_wp (T A B O Q : Int → Int) (z b q s m : Int) : Prop := ∃ F : Int → Int, 0 ≤ F 0 ∧ (F 0 = 0 ∨ T (b + F 0 - 1) = 10) ∧ (∀ p, 0 ≤ p → p < q → ∃ k, F (p + 1) = F p + 9 + k ∧ zc_wl T A B O Q b p (F p) k) ∧ F q + s = z ∧ ∀ i, 0 ≤ i → i < s → T (b + F q + i) = zc_xs (A (O q)) (Q q) i m
def zc_wn (T A B O Q : Int → Int) (z b N o : Int) : Prop := zc_wp T A B O Q z b o 0 0 ∧ ∀ p, 0 ≤ p → p < o → O p < N
def zc_nt (T : Int → Int) (b a k t : Int) : Prop := ∀ i, a ≤ i → (i < k → T (b + i) ≠ 10) ∧ (i < t → T (b + i) ≠ 35)
def zc_ln (T : Int → Int) (b z f e x : Int) : Prop := 0 ≤ f ∧ f < x ∧ (∀ t, f ≤ t → t < x - 1 → T (b + t) ≠ 10) ∧ (x ≤ z → T (b + x - 1) = 10) ∧ f ≤ e ∧ e ≤ x - 1 ∧ (∀ t, f ≤ t → t < e → T (b + t) ≠ 35) ∧ (e = x - 1 ∨ T (b + e) = 35)
def zc_fn (T L E : Int → Int) (b z x n : Int) : Prop := (n = 0 → x = 0) ∧ (0 < n → L 0 = 0) ∧ ∀ i, 0 ≤ i → i < n → zc_ln T b z (L i) (E i) (if i = n - 1 then x else L (i + 1))
def zc_lw (T A B O Q L E : Int → Int) (b N o n : Int) : Prop := o + 1 ≤ n ∧ ∀ p, 0 ≤ p → p < o → O p < N ∧ ∃ m, zc_wl T A B O Q b p (L (n - 1 - o + p)) m ∧ E (n - 1 - o + p) = L (n - 1 - o + p) + 8 + m
def zc_pk (C : Int → Int) (f : Int) : Nat → Int
  | 0 => 0
  | k + 1 => zc_pk C f k + C (f + (k : Int)) * 256 ^ k
def zc_ws (c : Int) : Prop := c = 46 ∨ c = 95 ∨ zp_ch c
def zc_cw (C : Int → Int) (s : Int) : Prop := 9 ≤ s ∧ s ≤ 16 ∧ C 0 = 46 ∧ C 1 = 119 ∧ C 2 = 97 ∧ C 3 = 110 ∧ C 4 = 116 ∧ C 5 = 32 ∧ (∀ i, 0 ≤ i → i < s - 8 → zp_ch (C (6 + i))) ∧ C (s - 2) = 44 ∧ 48 ≤ C (s - 1) ∧ C (s - 1) ≤ 57
def zc_cl (C T L E : Int → Int) (b l s : Int) : Prop := E l = L l + s ∧ ∀ i, 0 ≤ i → i < s → C i = T (b + L l + i)
def zc_rx (X Y O Q : Int → Int) (u k x o n : Int) : Prop := ∀ j, 0 ≤ j → j < o → j < x + o + 1 - n → ∃ i, 0 ≤ i ∧ i < k ∧ X (600 * u + i) = O j ∧ Y (600 * u + i) = Q j
def zc_rd (X Y O Q : Int → Int) (u n q : Int) : Prop := ∀ j, 0 ≤ j → j < q → ∃ i, 0 ≤ i ∧ i < n ∧ X (600 * u + i) = O j ∧ Y (600 * u + i) = Q j
/-- names unlike (161 to 164), numbers in their order (165), how many are kept (166, 167), named steps (168) -/
def zj_dn (A B : Int → Int) (N l h : Int) : Prop := (∀ j n, 0 ≤ j → j < N → l ≤ n → n < h → A j = A n → B j = B n → False) ∧ ∀ n m, 0 ≤ n → l ≤ n → n < m → m < h → A n = A m → B n = B m → False
def zj_u (A B : Int → Int) (l h a b : Int) : Prop := ∀ n, 0 ≤ n → l ≤ n → n < h → A n = a → B n = b → False
def zj_ij (K : Int → Int) (i N : Int) : Prop := ∀ m, 0 ≤ m → m < i → K m < N ∧ ∀ n, m < n → n < i → 0 ≤ K m → 0 ≤ K n → K m < K n
def zj_c (K : Int → Int) (l : Int) : Nat → Int
  | 0 => 0
  | n + 1 => (if K l = 1 then 1 else 0) + zj_c K (l + 1) n
def zj_nm (w : Int) : Prop := (5 ≤ w ∧ w ≤ 8) ∨ (11 ≤ w ∧ w ≤ 12)
noncomputable def zj_s (Q : Int → Int) (b : Int) : Nat → Int
  | 0 => 0
  | n + 1 => zj_s Q b n + zh_b (zj_nm (Q (b + (n : Int))))
/-- a name is declared in the unit (the first of that name has the kind), or wanted; named steps of a unit are resolved; names are below N -/
def zj_res (D K V Q : Int → Int) (d e N x k : Int) : Prop := (∃ n, 0 ≤ n ∧ n < d ∧ n < 64 ∧ D n = x ∧ K n = k ∧ ∀ m, 0 ≤ m → m < n → D m ≠ x) ∨ (0 ≤ x ∧ x < N ∧ (∀ m, 0 ≤ m → m < d → m < 64 → D m ≠ x) ∧ ∃ i, 0 ≤ i ∧ i < e ∧ i < 600 ∧ V i = x ∧ Q i = k)
def zj_st (T A B C E D K V Q : Int → Int) (d e N k : Int) : Prop := (3 ≤ T k → T k ≤ 10 → 0 ≤ C k ∧ C k ≤ 7) ∧ ((T k = 5 ∨ T k = 11) → (B k = -1 ∧ zj_res D K V Q d e N (A k) 1) ∨ (0 ≤ B k ∧ B k ≤ 1616)) ∧ (T k = 6 → (B k = -1 ∧ zj_res D K V Q d e N (A k) 2) ∨ (0 ≤ B k ∧ 1 ≤ E k ∧ B k + 4 * E k ≤ 1620)) ∧ (T k = 7 → 0 < k ∧ T (k - 1) = 6 ∧ A (k - 1) = A k ∧ B (k - 1) = B k ∧ C (k - 1) = C k) ∧ (T k = 8 → 0 ≤ B k ∧ B k ≤ 4 ∧ zj_res D K V Q d e N (A k) (3 + B k)) ∧ (T k = 12 → ∃ j, 0 ≤ j ∧ j < k ∧ T j = 6 ∧ A j = A k ∧ B j = B k ∧ C j = 0 ∧ ∀ m, j < m → m < k → 3 ≤ T m ∧ T m ≤ 10 ∧ 1 ≤ C m) ∧ (T k = 20 → ∃ j, 0 ≤ j ∧ j < k ∧ T j = 2 ∧ ∀ m, j < m → m < k → 3 ≤ T m ∧ T m ≤ 10) ∧ (T k = 0 → k = 0 ∨ T (k - 1) = 1)
def zj_nu (T A B C E D K V Q : Int → Int) (s d e N : Int) : Prop := (∀ k, 0 ≤ k → k < s → k < 8000 → zj_st T A B C E D K V Q d e N k) ∧ ∀ m, 0 ≤ m → m < d → m < 64 → 0 ≤ D m ∧ D m < N
theorem zj_resm {D K V Q D' K' V' Q' : Int → Int} {d e N N' x k : Int} (hN : N ≤ N') (hD : ∀ k, 0 ≤ k → k < 64 → D' k = D k) (hK : ∀ k, 0 ≤ k → k < 64 → K' k = K k) (hV : ∀ k, 0 ≤ k → k < 600 → V' k = V k) (hQ : ∀ k, 0 ≤ k → k < 600 → Q' k = Q k) (h : zj_res D K V Q d e N x k) : zj_res D' K' V' Q' d e N' x k := by
  rcases h with ⟨n, n0, n1, n2, n3, n4, n5⟩ | ⟨x0, x1, h1, i, i0, i1, i2, i3, i4⟩
  · exact Or.inl ⟨n, n0, n1, n2, (hD n n0 n2).trans n3, (hK n n0 n2).trans n4, fun m m0 m1 q => n5 m m0 m1 ((hD m m0 (by omega)).symm.trans q)⟩
  · exact Or.inr ⟨x0, by omega, fun m m0 m1 m2 q => h1 m m0 m1 m2 ((hD m m0 m2).symm.trans q), i, i0, i1, i2, (hV i i0 i2).trans i3, (hQ i i0 i2).trans i4⟩
theorem zj_nuc {T A B C E D K V Q T' A' B' C' E' D' K' V' Q' : Int → Int} {s d e N N' : Int} (hN : N ≤ N') (hT : ∀ k, 0 ≤ k → k < 8000 → T' k = T k) (hA : ∀ k, 0 ≤ k → k < 8000 → A' k = A k) (hB : ∀ k, 0 ≤ k → k < 8000 → B' k = B k) (hC : ∀ k, 0 ≤ k → k < 8000 → C' k = C k) (hE : ∀ k, 0 ≤ k → k < 8000 → E' k = E k) (hD : ∀ k, 0 ≤ k → k < 64 → D' k = D k) (hK : ∀ k, 0 ≤ k → k < 64 → K' k = K k) (hV : ∀ k, 0 ≤ k → k < 600 → V' k = V k) (hQ : ∀ k, 0 ≤ k → k < 600 → Q' k = Q k) (h : zj_nu T A B C E D K V Q s d e N) : zj_nu T' A' B' C' E' D' K' V' Q' s d e N' := by
  have hr : ∀ x k, zj_res D K V Q d e N x k → zj_res D' K' V' Q' d e N' x k := fun x k => zj_resm hN hD hK hV hQ
  obtain ⟨h1, h2⟩ := h
  refine ⟨fun k k0 k1 k2 => ?_, fun m m0 m1 m2 => ?_⟩
  · obtain ⟨q0, q1, q2, q3, q4, q5, q6, q7⟩ := h1 k k0 k1 k2
    have eT := hT k k0 k2
    have eA := hA k k0 k2
    have eB := hB k k0 k2
    have eC := hC k k0 k2
    have eE := hE k k0 k2
    refine ⟨?_, ?_, ?_, fun q => ?_, ?_, fun q => ?_, fun q => ?_, fun q => ?_⟩
    · rw [eT, eC]
      exact q0
    · rw [eT, eB, eA]
      exact fun q => (q1 q).imp (fun x => ⟨x.1, hr _ _ x.2⟩) id
    · rw [eT, eB, eA, eE]
      exact fun q => (q2 q).imp (fun x => ⟨x.1, hr _ _ x.2⟩) id
    · rw [eT] at q
      obtain ⟨a, b, c, d, f⟩ := q3 q
      rw [hT (k - 1) (by omega) (by omega), hA (k - 1) (by omega) (by omega), hB (k - 1) (by omega) (by omega), hC (k - 1) (by omega) (by omega), eA, eB, eC]
      exact ⟨a, b, c, d, f⟩
    · rw [eT, eB, eA]
      exact fun q => ⟨(q4 q).1, (q4 q).2.1, hr _ _ (q4 q).2.2⟩
    · rw [eT] at q
      obtain ⟨j, j0, j1, a, b, c, d, f⟩ := q5 q
      refine ⟨j, j0, j1, (hT j j0 (by omega)).trans a, ?_, ?_, (hC j j0 (by omega)).trans d, fun m m0 m1 => ?_⟩
      · rw [hA j j0 (by omega), eA]
        exact b
      · rw [hB j j0 (by omega), eB]
        exact c
      · rw [hT m (by omega) (by omega), hC m (by omega) (by omega)]
        exact f m m0 m1
    · rw [eT] at q
      obtain ⟨j, j0, j1, a, f⟩ := q6 q
      refine ⟨j, j0, j1, (hT j j0 (by omega)).trans a, fun m m0 m1 => ?_⟩
      rw [hT m (by omega) (by omega)]
      exact f m m0 m1
    · rw [eT] at q
      by_cases hk : k = 0
      · exact Or.inl hk
      · rw [hT (k - 1) (by omega) (by omega)]
        exact q7 q
  · rw [hD m m0 m2]
    exact ⟨(h2 m m0 m1 m2).1, by have := (h2 m m0 m1 m2).2; omega⟩
theorem zj_se {Q Q' : Int → Int} {b : Int} : ∀ {n : Nat}, (∀ i : Int, 0 ≤ i → i < (n : Int) → Q' (b + i) = Q (b + i)) → zj_s Q' b n = zj_s Q b n
  | 0, _ => rfl
  | n + 1, h => by
    have q := zj_se (Q := Q) (Q' := Q') (b := b) (n := n) (fun i i0 i1 => h i i0 (by omega))
    show zj_s Q' b n + zh_b (zj_nm (Q' (b + (n : Int)))) = zj_s Q b n + zh_b (zj_nm (Q (b + (n : Int))))
    rw [q, h (n : Int) (by omega) (by omega)]
/-- a unit that is being renamed: wants ahead of i, declarations ahead of j, steps ahead of k have their new names -/
def zj_ro (R : Int → Int) (z : Int) : Int := if z < 0 then z else R z
def zj_rn (T A B C E D K V Q R : Int → Int) (s d e i j k h : Int) : Prop := ∃ A0 D0 V0 : Int → Int, zj_nu T A0 B C E D0 K V0 Q s d e h ∧ (∀ x, 0 ≤ x → x < e → x < 600 → V x = (if x < i then zj_ro R (V0 x) else V0 x) ∧ (0 ≤ V0 x → 0 ≤ R (V0 x))) ∧ (∀ x, 0 ≤ x → x < d → x < 64 → D x = (if x < j then zj_ro R (D0 x) else D0 x) ∧ 0 ≤ R (D0 x)) ∧ ∀ x, 0 ≤ x → x < s → x < 8000 → (zj_nm (T x) → A x = (if x < k then zj_ro R (A0 x) else A0 x)) ∧ (¬ zj_nm (T x) → A x = A0 x)
/-- brackets by kind: what is open (1 an if, 2 a loop ahead of its test, 3 behind it), innermost first -/
def zc_k (x : Int) (l : List Nat) : Option (List Nat) := if x = 13 then some (1 :: l) else if x = 14 then (if l.head? = some 1 then some l else none) else if x = 15 then (if l.head? = some 1 then some l.tail else none) else if x = 16 then some (2 :: l) else if x = 17 then (if l.head? = some 2 then some (3 :: l.tail) else none) else if x = 18 then (if l.head? = some 3 then some l.tail else none) else some l
def zc_r (f : Int → Int) (a : Int) : Nat → Option (List Nat)
  | 0 => some []
  | n + 1 => (zc_r f a n).bind (zc_k (f (a + (n : Int))))
def zc_m (g : Int → Int) : Nat → List Nat
  | 0 => []
  | n + 1 => if n = 0 then [] else (if g (n : Int) = 3 then 3 else 1) :: zc_m g n
def zc_bv (r : Option (List Nat)) (m : List Nat) : Int := if r = some m then 1 else if r = some (1 :: m) then 2 else if r = some (2 :: m) then 3 else if r = some (3 :: m) then 4 else 0
theorem zc_re {f f' : Int → Int} {a : Int} : ∀ {n : Nat}, (∀ i : Int, 0 ≤ i → i < (n : Int) → f' (a + i) = f (a + i)) → zc_r f' a n = zc_r f a n
  | 0, _ => rfl
  | n + 1, h => by
    have q := zc_re (f := f) (f' := f') (a := a) (n := n) (fun i i0 i1 => h i i0 (by omega))
    show (zc_r f' a n).bind (zc_k (f' (a + (n : Int)))) = (zc_r f a n).bind (zc_k (f (a + (n : Int))))
    rw [q, h (n : Int) (by omega) (by omega)]
theorem zc_me {g g' : Int → Int} : ∀ {n : Nat}, (∀ i : Int, 0 ≤ i → i < (n : Int) → g' i = g i) → zc_m g' n = zc_m g n
  | 0, _ => rfl
  | n + 1, h => by
    have q := zc_me (g := g) (g' := g') (n := n) (fun i i0 i1 => h i i0 (by omega))
    show (if n = 0 then [] else (if g' (n : Int) = 3 then 3 else 1) :: zc_m g' n) = (if n = 0 then [] else (if g (n : Int) = 3 then 3 else 1) :: zc_m g n)
    rw [q, h (n : Int) (by omega) (by omega)]
/-- the shape of a unit: it ends with FINISH, its brackets fit, its declarations have a kind, a size, a beginning -/
def zj_sh (f : Int → Int) (a : Int) (K Z P : Int → Int) (s d : Int) : Prop := (0 ≤ s ∧ s ≤ 8000) ∧ (0 < s → f (a + s - 1) = 1) ∧ zc_r f a s.toNat = some [] ∧ zb_ok f a s ∧ d ≤ 60 ∧ ∀ m, 0 ≤ m → m < d → (1 ≤ K m ∧ K m ≤ 7) ∧ (0 ≤ Z m ∧ Z m ≤ 200) ∧ (3 ≤ K m → 0 ≤ P m ∧ P m + 1 < s ∧ f (a + P m) = 0)
theorem zb_De {f f' : Int → Int} {a : Int} : ∀ {n : Nat}, (∀ i : Int, 0 ≤ i → i < (n : Int) → f' (a + i) = f (a + i)) → zb_D f' a n = zb_D f a n
  | 0, _ => rfl
  | n + 1, h => by
    have q := zb_De (f := f) (f' := f') (a := a) (n := n) (fun i i0 i1 => h i i0 (by omega))
    show zb_D f' a n + zb_v (f' (a + (n : Int))) = zb_D f a n + zb_v (f (a + (n : Int)))
    rw [q, h (n : Int) (by omega) (by omega)]
theorem zj_shc {f f' : Int → Int} {a : Int} {K Z P K' Z' P' : Int → Int} {s d : Int} (hf : ∀ i, 0 ≤ i → i < 8000 → f' (a + i) = f (a + i)) (hK : ∀ m, 0 ≤ m → m < 64 → K' m = K m) (hZ : ∀ m, 0 ≤ m → m < 64 → Z' m = Z m) (hP : ∀ m, 0 ≤ m → m < 64 → P' m = P m) (h : zj_sh f a K Z P s d) : zj_sh f' a K' Z' P' s d := by
  obtain ⟨⟨s0, s1⟩, h1, h2, h3, h4, h5⟩ := h
  refine ⟨⟨s0, s1⟩, fun q => ?_, ?_, fun k hk => ?_, h4, fun m m0 m1 => ?_⟩
  · have e := hf (s - 1) (by omega) (by omega)
    rw [show a + (s - 1) = a + s - 1 by omega] at e
    rw [e]
    exact h1 q
  · rw [zc_re (f := f) (fun i i0 i1 => hf i i0 (by omega))]
    exact h2
  · rw [zb_De (f := f) (fun i i0 i1 => hf i i0 (by omega)), hf (k : Int) (by omega) (by omega)]
    exact h3 k hk
  · rw [hK m m0 (by omega), hZ m m0 (by omega), hP m m0 (by omega)]
    obtain ⟨c1, c2, c3⟩ := h5 m m0 m1
    refine ⟨c1, c2, fun q => ?_⟩
    obtain ⟨p0, p1, p2⟩ := c3 q
    exact ⟨p0, p1, (hf (P m) p0 (by omega)).trans p2⟩
/-- leads: a place to go on; what is open; what is through -/
def zfl_g (f : Int → Int) (a s y t : Int) : Prop := a ≤ t ∧ t < a + s ∧ ((f y = 18 ∧ f t = 16) ∨ (y < t ∧ a < t ∧ (f (t - 1) = 14 ∨ f (t - 1) = 15 ∨ f (t - 1) = 18)))
def zfl_t (x : Int) : Prop := x = 13 ∨ x = 14 ∨ x = 17 ∨ x = 18
def zfl_s (f J1 J2 L : Int → Int) (a b : Int) : List Nat → Int → Int → Prop
  | [], p, q => p = 0 ∧ q = 0
  | x :: l, p, q => if x = 1 then (0 < p ∧ (a ≤ J1 (p - 1) ∧ J1 (p - 1) < b ∧ (f (J1 (p - 1)) = 13 ∨ f (J1 (p - 1)) = 14)) ∧ zfl_s f J1 J2 L a b l (p - 1) q) else (0 < q ∧ (a ≤ J2 (q - 1) ∧ J2 (q - 1) < b ∧ f (J2 (q - 1)) = 16 ∧ (∀ i, 0 ≤ i → i < q - 1 → J2 i < J2 (q - 1)) ∧ (x = 3 → J2 (q - 1) < L (J2 (q - 1)) ∧ L (J2 (q - 1)) < b ∧ f (L (J2 (q - 1))) = 17)) ∧ zfl_s f J1 J2 L a b l p (q - 1))
def zfl_o (J1 J2 L : Int → Int) (y : Int) : List Nat → Int → Int → Prop
  | [], _, _ => False
  | x :: l, p, q => if x = 1 then (J1 (p - 1) = y ∨ zfl_o J1 J2 L y l (p - 1) q) else ((x = 3 ∧ L (J2 (q - 1)) = y) ∨ zfl_o J1 J2 L y l p (q - 1))
def zfl_le (f J1 J2 L : Int → Int) (a s k p q : Int) : Prop := (0 ≤ k ∧ k ≤ s) ∧ ∃ l, zc_r f a k.toNat = some l ∧ zfl_s f J1 J2 L a (a + k) l p q ∧ ∀ y, a ≤ y → y < a + k → zfl_t (f y) → zfl_g f a s y (L y) ∨ zfl_o J1 J2 L y l p q
/-- the first declaration with a name -/
def zfo_f (D : Int → Int) (a x : Int) : Nat → Int
  | 0 => -1
  | n + 1 => if 0 ≤ zfo_f D a x n then zfo_f D a x n else if D (a + (n : Int)) = x then a + (n : Int) else -1
def zfo_g (D c : Int → Int) (x : Int) : Nat → Int
  | 0 => -1
  | v + 1 => if 0 ≤ zfo_g D c x v then zfo_g D c x v else zfo_f D (64 * (v : Int)) x (c (v : Int)).toNat
def zfo_d (D c : Int → Int) (u x n : Int) : Int := if 0 ≤ zfo_f D (64 * u) x (c u).toNat then zfo_f D (64 * u) x (c u).toNat else zfo_g D c x n.toNat
/-- it is meant, of a kind; steps are well made with what is meant -/
def zfo_k (D c K : Int → Int) (u n x k : Int) : Prop := 0 ≤ zfo_d D c u x n ∧ K (zfo_d D c u x n) = k
def zfo_m (D c K V Q e : Int → Int) (u k n : Int) : Prop := ∀ v i, 0 ≤ v → v ≤ u → 0 ≤ i → i < e v → i < 600 → (v = u → i < k) → zfo_k D c K v n (V (600 * v + i)) (Q (600 * v + i))
def zfo_st (T A B C E : Int → Int) (R : Int → Int → Prop) (k : Int) : Prop := (3 ≤ T k → T k ≤ 10 → 0 ≤ C k ∧ C k ≤ 7) ∧ ((T k = 5 ∨ T k = 11) → (B k = -1 ∧ R (A k) 1) ∨ (0 ≤ B k ∧ B k ≤ 1616)) ∧ (T k = 6 → (B k = -1 ∧ R (A k) 2) ∨ (0 ≤ B k ∧ 1 ≤ E k ∧ B k + 4 * E k ≤ 1620)) ∧ (T k = 7 → 0 < k ∧ T (k - 1) = 6 ∧ A (k - 1) = A k ∧ B (k - 1) = B k ∧ C (k - 1) = C k) ∧ (T k = 8 → 0 ≤ B k ∧ B k ≤ 4 ∧ R (A k) (3 + B k)) ∧ (T k = 12 → ∃ j, 0 ≤ j ∧ j < k ∧ T j = 6 ∧ A j = A k ∧ B j = B k ∧ C j = 0 ∧ ∀ m, j < m → m < k → 3 ≤ T m ∧ T m ≤ 10 ∧ 1 ≤ C m) ∧ (T k = 20 → ∃ j, 0 ≤ j ∧ j < k ∧ T j = 2 ∧ ∀ m, j < m → m < k → 3 ≤ T m ∧ T m ≤ 10) ∧ (T k = 0 → k = 0 ∨ T (k - 1) = 1)
def zfo_sm (T A B C E D c K s : Int → Int) (n : Int) : Prop := ∀ u, 0 ≤ u → u < n → ∀ k, 0 ≤ k → k < s u → k < 8000 → zfo_st (fun k => T (8000 * u + k)) (fun k => A (8000 * u + k)) (fun k => B (8000 * u + k)) (fun k => C (8000 * u + k)) (fun k => E (8000 * u + k)) (zfo_k D c K u n) k
/-- the meaning at work -/
def zfy_p (s : Int → Int) (n t : Int) : Prop := 0 ≤ t ∧ t / 8000 < n ∧ t % 8000 < s (t / 8000)
def zfy_h (A B Z D c : Int → Int) (n m h : Int) : Prop := 0 ≤ h ∧ (0 ≤ B m → B m + 4 * h ≤ 1616) ∧ (B m < 0 → h < Z (zfo_d D c (m / 8000) (A m) n))
def zfy_w (f C s : Int → Int) (t m : Int) : Prop := t ≤ m ∧ m < 8000 * (t / 8000) + s (t / 8000) ∧ f m = 12 ∧ ∀ x, t ≤ x → x < m → 3 ≤ f x ∧ f x ≤ 10 ∧ 1 ≤ C x
def zfy_d (f A B C s H T P Z D c : Int → Int) (t u n : Int) : Prop := zfy_p s n t ∧ (f t = 7 → zfy_h A B Z D c n t (H (10 * (u - 1) + C t))) ∧ (∀ m, zfy_w f C s t m → zfy_h A B Z D c n m (H (10 * (u - 1)))) ∧ ∀ i, 1 ≤ i → i < u → zfy_p s n (T i) ∧ (0 ≤ P i ∧ P i ≤ 7) ∧ ¬ (f (T i) = 7) ∧ ∀ m, zfy_w f C s (T i) m → 1 ≤ P i ∧ zfy_h A B Z D c n m (H (10 * (i - 1)))
def zfm_v (a : Int) (g : Int → Int) : Nat → Int
  | 0 => a
  | k + 1 => 8001 * zfm_v a g k + g ((k : Int) + 1)
def zfm_g (T : Int → Int) (t u i : Int) : Int := if i < u then 8000 - T i % 8000 else if i = u then 8000 - t % 8000 else 0
def zfm_m (f T : Int → Int) (ms t u : Int) : Int := zfm_v (2 * (20001 - ms) + (if f t = 16 then 0 else 1)) (zfm_g T t u) 40
def zfa_d (c K Z P : Int → Int) (u k : Int) : Prop := ∀ v i, 0 ≤ v → v ≤ u → 0 ≤ i → i < c v → i < 64 → (v = u → i < k) → 0 ≤ P (64 * v + i) ∧ P (64 * v + i) ≤ 71999 ∧ P (64 * v + i) + Z (64 * v + i) ≤ 72000
/-- an OUT that waits -/
def zfw_p (f s : Int → Int) (t : Int) : Prop := ∃ m, t ≤ m ∧ m < 8000 * (t / 8000) + s (t / 8000) ∧ (f m = 20 ∨ f m = 0) ∧ ∀ x, t ≤ x → x < m → 3 ≤ f x ∧ f x ≤ 10
noncomputable def zfw_s (f s T : Int → Int) : Nat → Int
  | 0 => 0
  | k + 1 => zfw_s f s T k + zh_b (zfw_p f s (T ((k : Int) + 1)))
noncomputable def zfw_w (f s T : Int → Int) (t u : Int) : Int := zh_b (zfw_p f s t) + zfw_s f s T (u - 1).toNat
/-- further functions by hand (140 ..) -/
def zv_Hi (t : Nat) (w : zz_W) (j : Int) : Int := match t with
  | 140 => zh_b (zc_bd (zh_e w 208) (zh_e w 209) (zh_e w 234) (zh_e w 236) (zh_e w 207 (zv_dg 0 j)) (zv_dg 0 j) (zv_dg 1 j) (zv_dg 2 j))
  | 141 => zh_b (zc_pm (zn_l w 173 (zv_dg 0 j)) (zn_l w 174 (zv_dg 0 j)) (zv_dg 1 j))
  | 142 => zc_xs (zn_l w 173 (zh_e w 256 (zv_dg 0 j))) (zh_e w 257 (zv_dg 0 j)) (zv_dg 1 j) (zv_dg 2 j)
  | 143 => zh_b (zc_wp (zh_e w 177) (zn_l w 173) (zn_l w 174) (zh_e w 256) (zh_e w 257) (zh_e w 178 (zv_dg 0 j)) (40000 * zv_dg 0 j) (zv_dg 1 j) (zv_dg 2 j) (zv_dg 3 j))
  | 144 => zh_b (zh_e w 178 j = 0 ∨ zh_e w 177 (40000 * j + zh_e w 178 j - 1) = 10)
  | 145 => zh_b (zc_nt (zh_e w 177) (40000 * zv_dg 0 j) (zv_dg 1 j) (zv_dg 2 j) (zv_dg 3 j))
  | 146 => zh_b (zc_fn (zh_e w 177) (zh_e w 261) (zh_e w 262) (40000 * zv_dg 0 j) (zh_e w 178 (zv_dg 0 j)) (zv_dg 1 j) (zv_dg 2 j))
  | 147 => zh_b (zc_lw (zh_e w 177) (zn_l w 173) (zn_l w 174) (zh_e w 256) (zh_e w 257) (zh_e w 261) (zh_e w 262) (40000 * zv_dg 1 j) (zv_dg 0 j) (zv_dg 2 j) (zv_dg 3 j))
  | 148 => zh_b (∀ i, 0 ≤ i → i < zv_dg 2 j → zh_e w 263 i = zh_e w 177 (40000 * zv_dg 0 j + zv_dg 1 j + i))
  | 149 => zh_b (∀ i, 0 ≤ i → i < zv_dg 1 j → zc_ws (zh_e w 263 (zv_dg 0 j + i)))
  | 150 => zc_pk (zh_e w 263) (zv_dg 0 j) (zv_dg 1 j).toNat
  | 151 => zh_b (zc_rd (zh_e w 204) (zh_e w 205) (zh_e w 256) (zh_e w 257) (zv_dg 0 j) (zh_e w 203 (zv_dg 0 j)) (zv_dg 1 j))
  | 152 => zy_c (zh_e w 177) (40000 * zv_dg 0 j) (zv_dg 1 j).toNat
  | 153 => zh_b (zc_wn (zh_e w 177) (zn_l w 173) (zn_l w 174) (zh_e w 256) (zh_e w 257) (zh_e w 178 (zv_dg 1 j)) (40000 * zv_dg 1 j) (zv_dg 0 j) (zv_dg 2 j))
  | 154 => zh_b (∀ p, 0 ≤ p → p < zv_dg 0 j → zh_e w 256 p < zv_dg 1 j)
  | 155 => zh_b (∀ i, 0 ≤ i → i + 1 < j → zh_e w 263 i = 46 → zy_ok (zh_e w 263 (i + 1)))
  | 156 => zh_b (zc_cw (zh_e w 263) j)
  | 157 => zh_b (zc_cl (zh_e w 263) (zh_e w 177) (zh_e w 261) (zh_e w 262) (40000 * zv_dg 0 j) (zv_dg 1 j) (zv_dg 2 j))
  | 158 => zh_b (zc_ws (j - 2147483648))
  | 159 => zh_b (zv_dg 1 j ≤ zv_dg 0 j ∨ ¬ zc_ws (zh_e w 263 (zv_dg 0 j)))
  | 160 => zh_b (zc_rx (zh_e w 204) (zh_e w 205) (zh_e w 256) (zh_e w 257) (zv_dg 0 j) (zh_e w 203 (zv_dg 0 j)) (zv_dg 1 j) (zv_dg 2 j) (zv_dg 3 j))
  | 161 => zh_b (zj_dn (zn_l w 173) (zn_l w 174) (zv_dg 0 j) (zv_dg 0 j + 1 + zv_dg 1 j) (zv_dg 2 j))
  | 162 => zh_b (zj_dn (zn_l w 173) (zn_l w 174) (zv_dg 0 j) (zv_dg 0 j + zv_dg 1 j) (zv_dg 2 j))
  | 163 => zh_b (zj_u (zn_l w 173) (zn_l w 174) (j % 4294967296) (j / 4294967296 % 4294967296) (j / 18446744073709551616 % 18446744073709551616 - 9223372036854775808) (j / 18446744073709551616 / 18446744073709551616 - 9223372036854775808))
  | 164 => zh_b (zj_u (zn_l w 173) (zn_l w 174) 0 (j % 4294967296) (j / 4294967296 % 18446744073709551616 - 9223372036854775808) (j / 4294967296 / 18446744073709551616 - 9223372036854775808))
  | 165 => zh_b (zj_ij (zh_e w 220) (zv_dg 0 j) (zv_dg 1 j))
  | 166 => zh_b (zj_c (zh_e w 220) 0 (zv_dg 0 j).toNat ≤ zv_dg 1 j)
  | 167 => zh_b (zv_dg 1 j + zj_c (zh_e w 220) (zv_dg 0 j) (zv_dg 2 j - zv_dg 0 j).toNat ≤ zv_dg 3 j)
  | 168 => zj_s (zh_e w 208) (8000 * zv_dg 0 j) (zv_dg 1 j).toNat
  | 169 => zh_b (zv_dg 1 j = 0 → ∀ u, 0 ≤ u → u < zv_dg 0 j → 1 ≤ zh_e w 176 u → zh_e w 207 u ≤ 8000 → zj_s (zh_e w 208) (8000 * u) (zh_e w 207 u).toNat ≤ 2045)
  | 170 => zh_b (∀ m, zv_dg 0 j ≤ m → m < zv_dg 1 j → m < 125 → zh_e w 220 m = 1)
  | 171 => zj_s (zh_e w 208) (8000 * j) (zh_e w 207 j).toNat
  | 172 => zh_b (zv_dg 1 j = 0 → ∀ u, 0 ≤ u → u < zv_dg 0 j → 1 ≤ zh_e w 176 u → zj_nu (fun k => zh_e w 208 (8000 * u + k)) (fun k => zh_e w 209 (8000 * u + k)) (fun k => zh_e w 210 (8000 * u + k)) (fun k => zh_e w 211 (8000 * u + k)) (fun k => zh_e w 212 (8000 * u + k)) (fun k => zh_e w 214 (64 * u + k)) (fun k => zh_e w 215 (64 * u + k)) (fun k => zh_e w 204 (600 * u + k)) (fun k => zh_e w 205 (600 * u + k)) (zh_e w 207 u) (zh_e w 213 u) (zh_e w 203 u) (zv_dg 2 j))
  | 173 => zh_b (1 ≤ zh_e w 176 (zv_dg 0 j) → zj_rn (fun k => zh_e w 208 (8000 * (zv_dg 0 j) + k)) (fun k => zh_e w 209 (8000 * (zv_dg 0 j) + k)) (fun k => zh_e w 210 (8000 * (zv_dg 0 j) + k)) (fun k => zh_e w 211 (8000 * (zv_dg 0 j) + k)) (fun k => zh_e w 212 (8000 * (zv_dg 0 j) + k)) (fun k => zh_e w 214 (64 * (zv_dg 0 j) + k)) (fun k => zh_e w 215 (64 * (zv_dg 0 j) + k)) (fun k => zh_e w 204 (600 * (zv_dg 0 j) + k)) (fun k => zh_e w 205 (600 * (zv_dg 0 j) + k)) (zh_e w 220) (zh_e w 207 (zv_dg 0 j)) (zh_e w 213 (zv_dg 0 j)) (zh_e w 203 (zv_dg 0 j)) (zv_dg 1 j) (zv_dg 2 j) (zv_dg 3 j) (zv_dg 4 j))
  | 174 => zh_b (∀ u, 0 ≤ u → u < zv_dg 0 j → 1 ≤ zh_e w 176 u → zj_nu (fun k => zh_e w 208 (8000 * u + k)) (fun k => zh_e w 209 (8000 * u + k)) (fun k => zh_e w 210 (8000 * u + k)) (fun k => zh_e w 211 (8000 * u + k)) (fun k => zh_e w 212 (8000 * u + k)) (fun k => zh_e w 214 (64 * u + k)) (fun k => zh_e w 215 (64 * u + k)) (fun k => zh_e w 204 (600 * u + k)) (fun k => zh_e w 205 (600 * u + k)) (zh_e w 207 u) (zh_e w 213 u) (zh_e w 203 u) (if u < zv_dg 1 j then zv_dg 3 j else zv_dg 2 j))
  | 175 => zh_b (∀ u, 0 ≤ u → u < zv_dg 0 j → u ≠ zv_dg 1 j → 1 ≤ zh_e w 176 u → zj_nu (fun k => zh_e w 208 (8000 * u + k)) (fun k => zh_e w 209 (8000 * u + k)) (fun k => zh_e w 210 (8000 * u + k)) (fun k => zh_e w 211 (8000 * u + k)) (fun k => zh_e w 212 (8000 * u + k)) (fun k => zh_e w 214 (64 * u + k)) (fun k => zh_e w 215 (64 * u + k)) (fun k => zh_e w 204 (600 * u + k)) (fun k => zh_e w 205 (600 * u + k)) (zh_e w 207 u) (zh_e w 213 u) (zh_e w 203 u) (if u < zv_dg 1 j then zv_dg 3 j else zv_dg 2 j))
  | 176 => zh_b (zv_dg 1 j = 0 → ∀ u, 0 ≤ u → u < zv_dg 0 j → 1 ≤ zh_e w 176 u → zj_sh (zh_e w 208) (8000 * u) (fun m => zh_e w 215 (64 * u + m)) (fun m => zh_e w 216 (64 * u + m)) (fun m => zh_e w 217 (64 * u + m)) (zh_e w 207 u) (zh_e w 213 u))
  | 177 => zh_b (∀ m, 0 ≤ m → m < zv_dg 1 j → zh_e w 214 (64 * zv_dg 0 j + m) = zh_e w 233 m ∧ zh_e w 215 (64 * zv_dg 0 j + m) = zh_e w 234 m ∧ zh_e w 216 (64 * zv_dg 0 j + m) = zh_e w 235 m ∧ zh_e w 217 (64 * zv_dg 0 j + m) = zh_e w 236 m)
  | 178 => if zv_dg 0 j = 0 then zc_bv (zc_r (zh_e w 208) (zv_dg 3 j) (zv_dg 2 j - zv_dg 3 j).toNat) (zc_m (zh_e w 254) (zv_dg 1 j).toNat) else 0
  | 179 => zh_b (zh_e w 207 j ≤ 0 ∨ zh_e w 208 (8000 * j + zh_e w 207 j - 1) = 1)
  | 180 => zh_b (∀ i, 0 ≤ i → i < zv_dg 0 j → (0 ≤ zh_e w 233 i ∧ zh_e w 233 i < zv_dg 1 j) ∧ (1 ≤ zh_e w 234 i ∧ zh_e w 234 i ≤ 7) ∧ 0 ≤ zh_e w 235 i ∧ zh_e w 235 i ≤ 200)
  | 181 => zh_b (zj_nu (fun k => zh_e w 208 (8000 * (zv_dg 0 j) + k)) (fun k => zh_e w 209 (8000 * (zv_dg 0 j) + k)) (fun k => zh_e w 210 (8000 * (zv_dg 0 j) + k)) (fun k => zh_e w 211 (8000 * (zv_dg 0 j) + k)) (fun k => zh_e w 212 (8000 * (zv_dg 0 j) + k)) (fun k => zh_e w 214 (64 * (zv_dg 0 j) + k)) (fun k => zh_e w 215 (64 * (zv_dg 0 j) + k)) (fun k => zh_e w 204 (600 * (zv_dg 0 j) + k)) (fun k => zh_e w 205 (600 * (zv_dg 0 j) + k)) (zh_e w 207 (zv_dg 0 j)) (zh_e w 213 (zv_dg 0 j)) (zh_e w 203 (zv_dg 0 j)) (zv_dg 2 j))
  | 182 => zh_b (zv_dg 1 j = 0 → ∀ u, 0 ≤ u → u < zv_dg 0 j → 1 ≤ zh_e w 176 u → ∀ k, 0 ≤ k → k < zh_e w 207 u → k < 8000 → zj_nm (zh_e w 208 (8000 * u + k)) → 0 ≤ zh_e w 209 (8000 * u + k) ∧ zh_e w 209 (8000 * u + k) ≤ 65535)
  | 183 => zc_bv (zc_r (zh_e w 208) (8000 * zv_dg 0 j) (zh_e w 207 (zv_dg 0 j)).toNat) (zc_m (zh_e w 254) (zv_dg 1 j).toNat)
  | 184 => zh_b (∀ p, 0 ≤ p → p < j → 0 ≤ zh_e w 256 p)
  | 185 => zh_b (zfl_le (zh_e w 208) (zh_e w 258) (zh_e w 259) (zh_e w 323) (8000 * zv_dg 0 j) (zh_e w 207 (zv_dg 0 j)) (zv_dg 1 j) (zv_dg 2 j) (zv_dg 3 j))
  | 186 => zh_b (∀ u, 0 ≤ u → u < j → ∀ k, 0 ≤ k → k < zh_e w 207 u → k < 8000 → zfl_t (zh_e w 208 (8000 * u + k)) → zfl_g (zh_e w 208) (8000 * u) (zh_e w 207 u) (8000 * u + k) (zh_e w 323 (8000 * u + k)))
  | 187 => zfo_f (zh_e w 214) (64 * zv_dg 0 j) (zv_dg 2 j) (zv_dg 1 j).toNat
  | 188 => zfo_g (zh_e w 214) (zh_e w 213) (zv_dg 1 j) (zv_dg 0 j).toNat
  | 189 => zfo_d (zh_e w 214) (zh_e w 213) (zv_dg 0 j) (zv_dg 1 j) (zv_dg 2 j)
  | 190 => zh_b (∀ u, 0 ≤ u → u < j → 1 ≤ zh_e w 176 u)
  | 191 => zh_b (zfo_m (zh_e w 214) (zh_e w 213) (zh_e w 215) (zh_e w 204) (zh_e w 205) (zh_e w 203) (zv_dg 0 j) (zv_dg 1 j) (zv_dg 2 j))
  | 192 => zh_b (zfo_sm (zh_e w 208) (zh_e w 209) (zh_e w 210) (zh_e w 211) (zh_e w 212) (zh_e w 214) (zh_e w 213) (zh_e w 215) (zh_e w 207) j)
  | 193 => zh_b (zfy_d (zh_e w 208) (zh_e w 209) (zh_e w 210) (zh_e w 211) (zh_e w 207) (zh_e w 327) (zh_e w 324) (zh_e w 325) (zh_e w 216) (zh_e w 214) (zh_e w 213) (zv_dg 0 j) (zv_dg 1 j) (zv_dg 2 j))
  | 194 => zfm_m (zh_e w 208) (zh_e w 324) (zv_dg 0 j) (zv_dg 1 j) (zv_dg 2 j)
  | 195 => zh_b (zfa_d (zh_e w 213) (zh_e w 215) (zh_e w 216) (zh_e w 321) (zv_dg 0 j) (zv_dg 1 j))
  | 196 => zh_b (zv_dg 1 j < zv_dg 0 j ∧ zn_l w 173 (zv_dg 1 j) = 1852399981 ∧ zn_l w 174 (zv_dg 1 j) = 0)
  | 197 => zfw_w (zh_e w 208) (zh_e w 207) (zh_e w 324) (zv_dg 0 j) (zv_dg 1 j)
  | _ => 0
def zv_HRi (t : Nat) : List Nat := match t with
  | 140 => [208, 209, 234, 236, 207]
  | 141 => [173, 174]
  | 142 => [173, 256, 257]
  | 143 => [177, 173, 174, 256, 257, 178]
  | 144 => [178, 177]
  | 145 => [177]
  | 146 => [177, 261, 262, 178]
  | 147 => [177, 173, 174, 256, 257, 261, 262]
  | 148 => [263, 177]
  | 149 => [263]
  | 150 => [263]
  | 151 => [204, 205, 256, 257, 203]
  | 152 => [177]
  | 153 => [177, 173, 174, 256, 257, 178]
  | 154 => [256]
  | 155 => [263]
  | 156 => [263]
  | 157 => [263, 177, 261, 262]
  | 158 => []
  | 159 => [263]
  | 160 => [204, 205, 256, 257, 203]
  | 161 => [173, 174]
  | 162 => [173, 174]
  | 163 => [173, 174]
  | 164 => [173, 174]
  | 165 => [220]
  | 166 => [220]
  | 167 => [220]
  | 168 => [208]
  | 169 => [176, 208, 207]
  | 170 => [220]
  | 171 => [208, 207]
  | 172 => [176, 207, 208, 209, 210, 211, 212, 213, 214, 215, 203, 204, 205]
  | 173 => [176, 207, 208, 209, 210, 211, 212, 213, 214, 215, 203, 204, 205, 220]
  | 174 => [176, 207, 208, 209, 210, 211, 212, 213, 214, 215, 203, 204, 205]
  | 175 => [176, 207, 208, 209, 210, 211, 212, 213, 214, 215, 203, 204, 205]
  | 176 => [176, 208, 207, 213, 215, 216, 217]
  | 177 => [214, 233, 215, 234, 216, 235, 217, 236]
  | 178 => [208, 254]
  | 179 => [207, 208]
  | 180 => [233, 234, 235]
  | 181 => [207, 208, 209, 210, 211, 212, 213, 214, 215, 203, 204, 205]
  | 182 => [176, 207, 208, 209]
  | 183 => [208, 207, 254]
  | 184 => [256]
  | 185 => [208, 258, 259, 323, 207]
  | 186 => [207, 208, 323]
  | 187 => [214]
  | 188 => [214, 213]
  | 189 => [214, 213]
  | 190 => [176]
  | 191 => [214, 213, 215, 204, 205, 203]
  | 192 => [208, 209, 210, 211, 212, 214, 213, 215, 207]
  | 193 => [208, 209, 210, 211, 207, 327, 324, 325, 216, 214, 213]
  | 194 => [208, 324]
  | 195 => [213, 215, 216, 321]
  | 196 => [173, 174]
  | 197 => [208, 207, 324]
  | _ => []
theorem zv_Hi_g {t : Nat} {w w' : zz_W} {j : Int} (h : ∀ r ∈ zv_HRi t, zz_g w' r = zz_g w r) : zv_Hi t w' j = zv_Hi t w j := by
  unfold zv_Hi
  unfold zv_HRi at h
  split
  · rw [zh_e_g (h 208 List.mem_cons_self), zh_e_g (h 209 (List.mem_cons_of_mem _ List.mem_cons_self)), zh_e_g (h 234 (List.mem_cons_of_mem _ (List.mem_cons_of_mem _ List.mem_cons_self))), zh_e_g (h 236 (List.mem_cons_of_mem _ (List.mem_cons_of_mem _ (List.mem_cons_of_mem _ List.mem_cons_self)))), zh_e_g (h 207 (List.mem_cons_of_mem _ (List.mem_cons_of_mem _ (List.mem_cons_of_mem _ (List.mem_cons_of_mem _ List.mem_cons_self)))))]
  · rw [zn_l_g (h 173 List.mem_cons_self), zn_l_g (h 174 (List.mem_cons_of_mem _ List.mem_cons_self))]
  · rw [zn_l_g (h 173 List.mem_cons_self), zh_e_g (h 256 (List.mem_cons_of_mem _ List.mem_cons_self)), zh_e_g (h 257 (List.mem_cons_of_mem _ (List.mem_cons_of_mem _ List.mem_cons_self)))]
  · rw [zh_e_g (h 177 List.mem_cons_self), zn_l_g (h 173 (List.mem_cons_of_mem _ List.mem_cons_self)), zn_l_g (h 174 (List.mem_cons_of_mem _ (List.mem_cons_of_mem _ List.mem_cons_self))), zh_e_g (h 256 (List.mem_cons_of_mem _ (List.mem_cons_of_mem _ (List.mem_cons_of_mem _ List.mem_cons_self)))), zh_e_g (h 257 (List.mem_cons_of_mem _ (List.mem_cons_of_mem _ (List.mem_cons_of_mem _ (List.mem_cons_of_mem _ List.mem_cons_self))))), zh_e_g (h 178 (List.mem_cons_of_mem _ (List.mem_cons_of_mem _ (List.mem_cons_of_mem _ (List.mem_cons_of_mem _ (List.mem_cons_of_mem _ List.mem_cons_self))))))]
  · rw [zh_e_g (h 178 List.mem_cons_self), zh_e_g (h 177 (List.mem_cons_of_mem _ List.mem_cons_self))]
  · rw [zh_e_g (h 177 List.mem_cons_self)]
  · rw [zh_e_g (h 177 List.mem_cons_self), zh_e_g (h 261 (List.mem_cons_of_mem _ List.mem_cons_self)), zh_e_g (h 262 (List.mem_cons_of_mem _ (List.mem_cons_of_mem _ List.mem_cons_self))), zh_e_g (h 178 (List.mem_cons_of_mem _ (List.mem_cons_of_mem _ (List.mem_cons_of_mem _ List.mem_cons_self))))]
  · rw [zh_e_g (h 177 List.mem_cons_self), zn_l_g (h 173 (List.mem_cons_of_mem _ List.mem_cons_self)), zn_l_g (h 174 (List.mem_cons_of_mem _ (List.mem_cons_of_mem _ List.mem_cons_self))), zh_e_g (h 256 (List.mem_cons_of_mem _ (List.mem_cons_of_mem _ (List.mem_cons_of_mem _ List.mem_cons_self)))), zh_e_g (h 257 (List.mem_cons_of_mem _ (List.mem_cons_of_mem _ (List.mem_cons_of_mem _ (List.mem_cons_of_mem _ List.mem_cons_self))))), zh_e_g (h 261 (List.mem_cons_of_mem _ (List.mem_cons_of_mem _ (List.mem_cons_of_mem _ (List.mem_cons_of_mem _ (List.mem_cons_of_mem _ List.mem_cons_self)))))), zh_e_g (h 262 (List.mem_cons_of_mem _ (List.mem_cons_of_mem _ (List.mem_cons_of_mem _ (List.mem_cons_of_mem _ (List.mem_cons_of_mem _ (List.mem_cons_of_mem _ List.mem_cons_self)))))))]
  · rw [zh_e_g (h 263 List.mem_cons_self), zh_e_g (h 177 (List.mem_cons_of_mem _ List.mem_cons_self))]
  · rw [zh_e_g (h 263 List.mem_cons_self)]
  · rw [zh_e_g (h 263 List.mem_cons_self)]
  · rw [zh_e_g (h 204 List.mem_cons_self), zh_e_g (h 205 (List.mem_cons_of_mem _ List.mem_cons_self)), zh_e_g (h 256 (List.mem_cons_of_mem _ (List.mem_cons_of_mem _ List.mem_cons_self))), zh_e_g (h 257 (List.mem_cons_of_mem _ (List.mem_cons_of_mem _ (List.mem_cons_of_mem _ List.mem_cons_self)))), zh_e_g (h 203 (List.mem_cons_of_mem _ (List.mem_cons_of_mem _ (List.mem_cons_of_mem _ (List.mem_cons_of_mem _ List.mem_cons_self)))))]
  · rw [zh_e_g (h 177 List.mem_cons_self)]
  · rw [zh_e_g (h 177 List.mem_cons_self), zn_l_g (h 173 (List.mem_cons_of_mem _ List.mem_cons_self)), zn_l_g (h 174 (List.mem_cons_of_mem _ (List.mem_cons_of_mem _ List.mem_cons_self))), zh_e_g (h 256 (List.mem_cons_of_mem _ (List.mem_cons_of_mem _ (List.mem_cons_of_mem _ List.mem_cons_self)))), zh_e_g (h 257 (List.mem_cons_of_mem _ (List.mem_cons_of_mem _ (List.mem_cons_of_mem _ (List.mem_cons_of_mem _ List.mem_cons_self))))), zh_e_g (h 178 (List.mem_cons_of_mem _ (List.mem_cons_of_mem _ (List.mem_cons_of_mem _ (List.mem_cons_of_mem _ (List.mem_cons_of_mem _ List.mem_cons_self))))))]
  · rw [zh_e_g (h 256 List.mem_cons_self)]
  · rw [zh_e_g (h 263 List.mem_cons_self)]
  · rw [zh_e_g (h 263 List.mem_cons_self)]
  · rw [zh_e_g (h 263 List.mem_cons_self), zh_e_g (h 177 (List.mem_cons_of_mem _ List.mem_cons_self)), zh_e_g (h 261 (List.mem_cons_of_mem _ (List.mem_cons_of_mem _ List.mem_cons_self))), zh_e_g (h 262 (List.mem_cons_of_mem _ (List.mem_cons_of_mem _ (List.mem_cons_of_mem _ List.mem_cons_self))))]
  · rfl
  · rw [zh_e_g (h 263 List.mem_cons_self)]
  · rw [zh_e_g (h 204 List.mem_cons_self), zh_e_g (h 205 (List.mem_cons_of_mem _ List.mem_cons_self)), zh_e_g (h 256 (List.mem_cons_of_mem _ (List.mem_cons_of_mem _ List.mem_cons_self))), zh_e_g (h 257 (List.mem_cons_of_mem _ (List.mem_cons_of_mem _ (List.mem_cons_of_mem _ List.mem_cons_self)))), zh_e_g (h 203 (List.mem_cons_of_mem _ (List.mem_cons_of_mem _ (List.mem_cons_of_mem _ (List.mem_cons_of_mem _ List.mem_cons_self)))))]
  · rw [zn_l_g (h 173 List.mem_cons_self), zn_l_g (h 174 (List.mem_cons_of_mem _ List.mem_cons_self))]
  · rw [zn_l_g (h 173 List.mem_cons_self), zn_l_g (h 174 (List.mem_cons_of_mem _ List.mem_cons_self))]
  · rw [zn_l_g (h 173 List.mem_cons_self), zn_l_g (h 174 (List.mem_cons_of_mem _ List.mem_cons_self))]
  · rw [zn_l_g (h 173 List.mem_cons_self), zn_l_g (h 174 (List.mem_cons_of_mem _ List.mem_cons_self))]
  · rw [zh_e_g (h 220 List.mem_cons_self)]
  · rw [zh_e_g (h 220 List.mem_cons_self)]
  · rw [zh_e_g (h 220 List.mem_cons_self)]
  · rw [zh_e_g (h 208 List.mem_cons_self)]
  · rw [zh_e_g (h 176 List.mem_cons_self), zh_e_g (h 208 (List.mem_cons_of_mem _ List.mem_cons_self)), zh_e_g (h 207 (List.mem_cons_of_mem _ (List.mem_cons_of_mem _ List.mem_cons_self)))]
  · rw [zh_e_g (h 220 List.mem_cons_self)]
  · rw [zh_e_g (h 208 List.mem_cons_self), zh_e_g (h 207 (List.mem_cons_of_mem _ List.mem_cons_self))]
  · rw [zh_e_g (h 176 List.mem_cons_self), zh_e_g (h 207 (List.mem_cons_of_mem _ List.mem_cons_self)), zh_e_g (h 208 (List.mem_cons_of_mem _ (List.mem_cons_of_mem _ List.mem_cons_self))), zh_e_g (h 209 (List.mem_cons_of_mem _ (List.mem_cons_of_mem _ (List.mem_cons_of_mem _ List.mem_cons_self)))), zh_e_g (h 210 (List.mem_cons_of_mem _ (List.mem_cons_of_mem _ (List.mem_cons_of_mem _ (List.mem_cons_of_mem _ List.mem_cons_self))))), zh_e_g (h 211 (List.mem_cons_of_mem _ (List.mem_cons_of_mem _ (List.mem_cons_of_mem _ (List.mem_cons_of_mem _ (List.mem_cons_of_mem _ List.mem_cons_self)))))), zh_e_g (h 212 (List.mem_cons_of_mem _ (List.mem_cons_of_mem _ (List.mem_cons_of_mem _ (List.mem_cons_of_mem _ (List.mem_cons_of_mem _ (List.mem_cons_of_mem _ List.mem_cons_self))))))), zh_e_g (h 213 (List.mem_cons_of_mem _ (List.mem_cons_of_mem _ (List.mem_cons_of_mem _ (List.mem_cons_of_mem _ (List.mem_cons_of_mem _ (List.mem_cons_of_mem _ (List.mem_cons_of_mem _ List.mem_cons_self)))))))), zh_e_g (h 214 (List.mem_cons_of_mem _ (List.mem_cons_of_mem _ (List.mem_cons_of_mem _ (List.mem_cons_of_mem _ (List.mem_cons_of_mem _ (List.mem_cons_of_mem _ (List.mem_cons_of_mem _ (List.mem_cons_of_mem _ List.mem_cons_self))))))))), zh_e_g (h 215 (List.mem_cons_of_mem _ (List.mem_cons_of_mem _ (List.mem_cons_of_mem _ (List.mem_cons_of_mem _ (List.mem_cons_of_mem _ (List.mem_cons_of_mem _ (List.mem_cons_of_mem _ (List.mem_cons_of_mem _ (List.mem_cons_of_mem _ List.mem_cons_self)))))))))), zh_e_g (h 203 (List.mem_cons_of_mem _ (List.mem_cons_of_mem _ (List.mem_cons_of_mem _ (List.mem_cons_of_mem _ (List.mem_cons_of_mem _ (List.mem_cons_of_mem _ (List.mem_cons_of_mem _ (List.mem_cons_of_mem _ (List.mem_cons_of_mem _ (List.mem_cons_of_mem _ List.mem_cons_self))))))))))), zh_e_g (h 204 (List.mem_cons_of_mem _ (List.mem_cons_of_mem _ (List.mem_cons_of_mem _ (List.mem_cons_of_mem _ (List.mem_cons_of_mem _ (List.mem_cons_of_mem _ (List.mem_cons_of_mem _ (List.mem_cons_of_mem _ (List.mem_cons_of_mem _ (List.mem_cons_of_mem _ (List.mem_cons_of_mem _ List.mem_cons_self)))))))))))), zh_e_g (h 205 (List.mem_cons_of_mem _ (List.mem_cons_of_mem _ (List.mem_cons_of_mem _ (List.mem_cons_of_mem _ (List.mem_cons_of_mem _ (List.mem_cons_of_mem _ (List.mem_cons_of_mem _ (List.mem_cons_of_mem _ (List.mem_cons_of_mem _ (List.mem_cons_of_mem _ (List.mem_cons_of_mem _ (List.mem_cons_of_mem _ List.mem_cons_self)))))))))))))]
  · rw [zh_e_g (h 176 List.mem_cons_self), zh_e_g (h 207 (List.mem_cons_of_mem _ List.mem_cons_self)), zh_e_g (h 208 (List.mem_cons_of_mem _ (List.mem_cons_of_mem _ List.mem_cons_self))), zh_e_g (h 209 (List.mem_cons_of_mem _ (List.mem_cons_of_mem _ (List.mem_cons_of_mem _ List.mem_cons_self)))), zh_e_g (h 210 (List.mem_cons_of_mem _ (List.mem_cons_of_mem _ (List.mem_cons_of_mem _ (List.mem_cons_of_mem _ List.mem_cons_self))))), zh_e_g (h 211 (List.mem_cons_of_mem _ (List.mem_cons_of_mem _ (List.mem_cons_of_mem _ (List.mem_cons_of_mem _ (List.mem_cons_of_mem _ List.mem_cons_self)))))), zh_e_g (h 212 (List.mem_cons_of_mem _ (List.mem_cons_of_mem _ (List.mem_cons_of_mem _ (List.mem_cons_of_mem _ (List.mem_cons_of_mem _ (List.mem_cons_of_mem _ List.mem_cons_self))))))), zh_e_g (h 213 (List.mem_cons_of_mem _ (List.mem_cons_of_mem _ (List.mem_cons_of_mem _ (List.mem_cons_of_mem _ (List.mem_cons_of_mem _ (List.mem_cons_of_mem _ (List.mem_cons_of_mem _ List.mem_cons_self)))))))), zh_e_g (h 214 (List.mem_cons_of_mem _ (List.mem_cons_of_mem _ (List.mem_cons_of_mem _ (List.mem_cons_of_mem _ (List.mem_cons_of_mem _ (List.mem_cons_of_mem _ (List.mem_cons_of_mem _ (List.mem_cons_of_mem _ List.mem_cons_self))))))))), zh_e_g (h 215 (List.mem_cons_of_mem _ (List.mem_cons_of_mem _ (List.mem_cons_of_mem _ (List.mem_cons_of_mem _ (List.mem_cons_of_mem _ (List.mem_cons_of_mem _ (List.mem_cons_of_mem _ (List.mem_cons_of_mem _ (List.mem_cons_of_mem _ List.mem_cons_self)))))))))), zh_e_g (h 203 (List.mem_cons_of_mem _ (List.mem_cons_of_mem _ (List.mem_cons_of_mem _ (List.mem_cons_of_mem _ (List.mem_cons_of_mem _ (List.mem_cons_of_mem _ (List.mem_cons_of_mem _ (List.mem_cons_of_mem _ (List.mem_cons_of_mem _ (List.mem_cons_of_mem _ List.mem_cons_self))))))))))), zh_e_g (h 204 (List.mem_cons_of_mem _ (List.mem_cons_of_mem _ (List.mem_cons_of_mem _ (List.mem_cons_of_mem _ (List.mem_cons_of_mem _ (List.mem_cons_of_mem _ (List.mem_cons_of_mem _ (List.mem_cons_of_mem _ (List.mem_cons_of_mem _ (List.mem_cons_of_mem _ (List.mem_cons_of_mem _ List.mem_cons_self)))))))))))), zh_e_g (h 205 (List.mem_cons_of_mem _ (List.mem_cons_of_mem _ (List.mem_cons_of_mem _ (List.mem_cons_of_mem _ (List.mem_cons_of_mem _ (List.mem_cons_of_mem _ (List.mem_cons_of_mem _ (List.mem_cons_of_mem _ (List.mem_cons_of_mem _ (List.mem_cons_of_mem _ (List.mem_cons_of_mem _ (List.mem_cons_of_mem _ List.mem_cons_self))))))))))))), zh_e_g (h 220 (List.mem_cons_of_mem _ (List.mem_cons_of_mem _ (List.mem_cons_of_mem _ (List.mem_cons_of_mem _ (List.mem_cons_of_mem _ (List.mem_cons_of_mem _ (List.mem_cons_of_mem _ (List.mem_cons_of_mem _ (List.mem_cons_of_mem _ (List.mem_cons_of_mem _ (List.mem_cons_of_mem _ (List.mem_cons_of_mem _ (List.mem_cons_of_mem _ List.mem_cons_self))))))))))))))]
  · rw [zh_e_g (h 176 List.mem_cons_self), zh_e_g (h 207 (List.mem_cons_of_mem _ List.mem_cons_self)), zh_e_g (h 208 (List.mem_cons_of_mem _ (List.mem_cons_of_mem _ List.mem_cons_self))), zh_e_g (h 209 (List.mem_cons_of_mem _ (List.mem_cons_of_mem _ (List.mem_cons_of_mem _ List.mem_cons_self)))), zh_e_g (h 210 (List.mem_cons_of_mem _ (List.mem_cons_of_mem _ (List.mem_cons_of_mem _ (List.mem_cons_of_mem _ List.mem_cons_self))))), zh_e_g (h 211 (List.mem_cons_of_mem _ (List.mem_cons_of_mem _ (List.mem_cons_of_mem _ (List.mem_cons_of_mem _ (List.mem_cons_of_mem _ List.mem_cons_self)))))), zh_e_g (h 212 (List.mem_cons_of_mem _ (List.mem_cons_of_mem _ (List.mem_cons_of_mem _ (List.mem_cons_of_mem _ (List.mem_cons_of_mem _ (List.mem_cons_of_mem _ List.mem_cons_self))))))), zh_e_g (h 213 (List.mem_cons_of_mem _ (List.mem_cons_of_mem _ (List.mem_cons_of_mem _ (List.mem_cons_of_mem _ (List.mem_cons_of_mem _ (List.mem_cons_of_mem _ (List.mem_cons_of_mem _ List.mem_cons_self)))))))), zh_e_g (h 214 (List.mem_cons_of_mem _ (List.mem_cons_of_mem _ (List.mem_cons_of_mem _ (List.mem_cons_of_mem _ (List.mem_cons_of_mem _ (List.mem_cons_of_mem _ (List.mem_cons_of_mem _ (List.mem_cons_of_mem _ List.mem_cons_self))))))))), zh_e_g (h 215 (List.mem_cons_of_mem _ (List.mem_cons_of_mem _ (List.mem_cons_of_mem _ (List.mem_cons_of_mem _ (List.mem_cons_of_mem _ (List.mem_cons_of_mem _ (List.mem_cons_of_mem _ (List.mem_cons_of_mem _ (List.mem_cons_of_mem _ List.mem_cons_self)))))))))), zh_e_g (h 203 (List.mem_cons_of_mem _ (List.mem_cons_of_mem _ (List.mem_cons_of_mem _ (List.mem_cons_of_mem _ (List.mem_cons_of_mem _ (List.mem_cons_of_mem _ (List.mem_cons_of_mem _ (List.mem_cons_of_mem _ (List.mem_cons_of_mem _ (List.mem_cons_of_mem _ List.mem_cons_self))))))))))), zh_e_g (h 204 (List.mem_cons_of_mem _ (List.mem_cons_of_mem _ (List.mem_cons_of_mem _ (List.mem_cons_of_mem _ (List.mem_cons_of_mem _ (List.mem_cons_of_mem _ (List.mem_cons_of_mem _ (List.mem_cons_of_mem _ (List.mem_cons_of_mem _ (List.mem_cons_of_mem _ (List.mem_cons_of_mem _ List.mem_cons_self)))))))))))), zh_e_g (h 205 (List.mem_cons_of_mem _ (List.mem_cons_of_mem _ (List.mem_cons_of_mem _ (List.mem_cons_of_mem _ (List.mem_cons_of_mem _ (List.mem_cons_of_mem _ (List.mem_cons_of_mem _ (List.mem_cons_of_mem _ (List.mem_cons_of_mem _ (List.mem_cons_of_mem _ (List.mem_cons_of_mem _ (List.mem_cons_of_mem _ List.mem_cons_self)))))))))))))]
  · rw [zh_e_g (h 176 List.mem_cons_self), zh_e_g (h 207 (List.mem_cons_of_mem _ List.mem_cons_self)), zh_e_g (h 208 (List.mem_cons_of_mem _ (List.mem_cons_of_mem _ List.mem_cons_self))), zh_e_g (h 209 (List.mem_cons_of_mem _ (List.mem_cons_of_mem _ (List.mem_cons_of_mem _ List.mem_cons_self)))), zh_e_g (h 210 (List.mem_cons_of_mem _ (List.mem_cons_of_mem _ (List.mem_cons_of_mem _ (List.mem_cons_of_mem _ List.mem_cons_self))))), zh_e_g (h 211 (List.mem_cons_of_mem _ (List.mem_cons_of_mem _ (List.mem_cons_of_mem _ (List.mem_cons_of_mem _ (List.mem_cons_of_mem _ List.mem_cons_self)))))), zh_e_g (h 212 (List.mem_cons_of_mem _ (List.mem_cons_of_mem _ (List.mem_cons_of_mem _ (List.mem_cons_of_mem _ (List.mem_cons_of_mem _ (List.mem_cons_of_mem _ List.mem_cons_self))))))), zh_e_g (h 213 (List.mem_cons_of_mem _ (List.mem_cons_of_mem _ (List.mem_cons_of_mem _ (List.mem_cons_of_mem _ (List.mem_cons_of_mem _ (List.mem_cons_of_mem _ (List.mem_cons_of_mem _ List.mem_cons_self)))))))), zh_e_g (h 214 (List.mem_cons_of_mem _ (List.mem_cons_of_mem _ (List.mem_cons_of_mem _ (List.mem_cons_of_mem _ (List.mem_cons_of_mem _ (List.mem_cons_of_mem _ (List.mem_cons_of_mem _ (List.mem_cons_of_mem _ List.mem_cons_self))))))))), zh_e_g (h 215 (List.mem_cons_of_mem _ (List.mem_cons_of_mem _ (List.mem_cons_of_mem _ (List.mem_cons_of_mem _ (List.mem_cons_of_mem _ (List.mem_cons_of_mem _ (List.mem_cons_of_mem _ (List.mem_cons_of_mem _ (List.mem_cons_of_mem _ List.mem_cons_self)))))))))), zh_e_g (h 203 (List.mem_cons_of_mem _ (List.mem_cons_of_mem _ (List.mem_cons_of_mem _ (List.mem_cons_of_mem _ (List.mem_cons_of_mem _ (List.mem_cons_of_mem _ (List.mem_cons_of_mem _ (List.mem_cons_of_mem _ (List.mem_cons_of_mem _ (List.mem_cons_of_mem _ List.mem_cons_self))))))))))), zh_e_g (h 204 (List.mem_cons_of_mem _ (List.mem_cons_of_mem _ (List.mem_cons_of_mem _ (List.mem_cons_of_mem _ (List.mem_cons_of_mem _ (List.mem_cons_of_mem _ (List.mem_cons_of_mem _ (List.mem_cons_of_mem _ (List.mem_cons_of_mem _ (List.mem_cons_of_mem _ (List.mem_cons_of_mem _ List.mem_cons_self)))))))))))), zh_e_g (h 205 (List.mem_cons_of_mem _ (List.mem_cons_of_mem _ (List.mem_cons_of_mem _ (List.mem_cons_of_mem _ (List.mem_cons_of_mem _ (List.mem_cons_of_mem _ (List.mem_cons_of_mem _ (List.mem_cons_of_mem _ (List.mem_cons_of_mem _ (List.mem_cons_of_mem _ (List.mem_cons_of_mem _ (List.mem_cons_of_mem _ List.mem_cons_self)))))))))))))]
  · rw [zh_e_g (h 176 List.mem_cons_self), zh_e_g (h 208 (List.mem_cons_of_mem _ List.mem_cons_self)), zh_e_g (h 207 (List.mem_cons_of_mem _ (List.mem_cons_of_mem _ List.mem_cons_self))), zh_e_g (h 213 (List.mem_cons_of_mem _ (List.mem_cons_of_mem _ (List.mem_cons_of_mem _ List.mem_cons_self)))), zh_e_g (h 215 (List.mem_cons_of_mem _ (List.mem_cons_of_mem _ (List.mem_cons_of_mem _ (List.mem_cons_of_mem _ List.mem_cons_self))))), zh_e_g (h 216 (List.mem_cons_of_mem _ (List.mem_cons_of_mem _ (List.mem_cons_of_mem _ (List.mem_cons_of_mem _ (List.mem_cons_of_mem _ List.mem_cons_self)))))), zh_e_g (h 217 (List.mem_cons_of_mem _ (List.mem_cons_of_mem _ (List.mem_cons_of_mem _ (List.mem_cons_of_mem _ (List.mem_cons_of_mem _ (List.mem_cons_of_mem _ List.mem_cons_self)))))))]
  · rw [zh_e_g (h 214 List.mem_cons_self), zh_e_g (h 233 (List.mem_cons_of_mem _ List.mem_cons_self)), zh_e_g (h 215 (List.mem_cons_of_mem _ (List.mem_cons_of_mem _ List.mem_cons_self))), zh_e_g (h 234 (List.mem_cons_of_mem _ (List.mem_cons_of_mem _ (List.mem_cons_of_mem _ List.mem_cons_self)))), zh_e_g (h 216 (List.mem_cons_of_mem _ (List.mem_cons_of_mem _ (List.mem_cons_of_mem _ (List.mem_cons_of_mem _ List.mem_cons_self))))), zh_e_g (h 235 (List.mem_cons_of_mem _ (List.mem_cons_of_mem _ (List.mem_cons_of_mem _ (List.mem_cons_of_mem _ (List.mem_cons_of_mem _ List.mem_cons_self)))))), zh_e_g (h 217 (List.mem_cons_of_mem _ (List.mem_cons_of_mem _ (List.mem_cons_of_mem _ (List.mem_cons_of_mem _ (List.mem_cons_of_mem _ (List.mem_cons_of_mem _ List.mem_cons_self))))))), zh_e_g (h 236 (List.mem_cons_of_mem _ (List.mem_cons_of_mem _ (List.mem_cons_of_mem _ (List.mem_cons_of_mem _ (List.mem_cons_of_mem _ (List.mem_cons_of_mem _ (List.mem_cons_of_mem _ List.mem_cons_self))))))))]
  · rw [zh_e_g (h 208 List.mem_cons_self), zh_e_g (h 254 (List.mem_cons_of_mem _ List.mem_cons_self))]
  · rw [zh_e_g (h 207 List.mem_cons_self), zh_e_g (h 208 (List.mem_cons_of_mem _ List.mem_cons_self))]
  · rw [zh_e_g (h 233 List.mem_cons_self), zh_e_g (h 234 (List.mem_cons_of_mem _ List.mem_cons_self)), zh_e_g (h 235 (List.mem_cons_of_mem _ (List.mem_cons_of_mem _ List.mem_cons_self)))]
  · rw [zh_e_g (h 207 List.mem_cons_self), zh_e_g (h 208 (List.mem_cons_of_mem _ List.mem_cons_self)), zh_e_g (h 209 (List.mem_cons_of_mem _ (List.mem_cons_of_mem _ List.mem_cons_self))), zh_e_g (h 210 (List.mem_cons_of_mem _ (List.mem_cons_of_mem _ (List.mem_cons_of_mem _ List.mem_cons_self)))), zh_e_g (h 211 (List.mem_cons_of_mem _ (List.mem_cons_of_mem _ (List.mem_cons_of_mem _ (List.mem_cons_of_mem _ List.mem_cons_self))))), zh_e_g (h 212 (List.mem_cons_of_mem _ (List.mem_cons_of_mem _ (List.mem_cons_of_mem _ (List.mem_cons_of_mem _ (List.mem_cons_of_mem _ List.mem_cons_self)))))), zh_e_g (h 213 (List.mem_cons_of_mem _ (List.mem_cons_of_mem _ (List.mem_cons_of_mem _ (List.mem_cons_of_mem _ (List.mem_cons_of_mem _ (List.mem_cons_of_mem _ List.mem_cons_self))))))), zh_e_g (h 214 (List.mem_cons_of_mem _ (List.mem_cons_of_mem _ (List.mem_cons_of_mem _ (List.mem_cons_of_mem _ (List.mem_cons_of_mem _ (List.mem_cons_of_mem _ (List.mem_cons_of_mem _ List.mem_cons_self)))))))), zh_e_g (h 215 (List.mem_cons_of_mem _ (List.mem_cons_of_mem _ (List.mem_cons_of_mem _ (List.mem_cons_of_mem _ (List.mem_cons_of_mem _ (List.mem_cons_of_mem _ (List.mem_cons_of_mem _ (List.mem_cons_of_mem _ List.mem_cons_self))))))))), zh_e_g (h 203 (List.mem_cons_of_mem _ (List.mem_cons_of_mem _ (List.mem_cons_of_mem _ (List.mem_cons_of_mem _ (List.mem_cons_of_mem _ (List.mem_cons_of_mem _ (List.mem_cons_of_mem _ (List.mem_cons_of_mem _ (List.mem_cons_of_mem _ List.mem_cons_self)))))))))), zh_e_g (h 204 (List.mem_cons_of_mem _ (List.mem_cons_of_mem _ (List.mem_cons_of_mem _ (List.mem_cons_of_mem _ (List.mem_cons_of_mem _ (List.mem_cons_of_mem _ (List.mem_cons_of_mem _ (List.mem_cons_of_mem _ (List.mem_cons_of_mem _ (List.mem_cons_of_mem _ List.mem_cons_self))))))))))), zh_e_g (h 205 (List.mem_cons_of_mem _ (List.mem_cons_of_mem _ (List.mem_cons_of_mem _ (List.mem_cons_of_mem _ (List.mem_cons_of_mem _ (List.mem_cons_of_mem _ (List.mem_cons_of_mem _ (List.mem_cons_of_mem _ (List.mem_cons_of_mem _ (List.mem_cons_of_mem _ (List.mem_cons_of_mem _ List.mem_cons_self))))))))))))]
  · rw [zh_e_g (h 176 List.mem_cons_self), zh_e_g (h 207 (List.mem_cons_of_mem _ List.mem_cons_self)), zh_e_g (h 208 (List.mem_cons_of_mem _ (List.mem_cons_of_mem _ List.mem_cons_self))), zh_e_g (h 209 (List.mem_cons_of_mem _ (List.mem_cons_of_mem _ (List.mem_cons_of_mem _ List.mem_cons_self))))]
  · rw [zh_e_g (h 208 List.mem_cons_self), zh_e_g (h 207 (List.mem_cons_of_mem _ List.mem_cons_self)), zh_e_g (h 254 (List.mem_cons_of_mem _ (List.mem_cons_of_mem _ List.mem_cons_self)))]
  · rw [zh_e_g (h 256 List.mem_cons_self)]
  · rw [zh_e_g (h 208 List.mem_cons_self), zh_e_g (h 258 (List.mem_cons_of_mem _ List.mem_cons_self)), zh_e_g (h 259 (List.mem_cons_of_mem _ (List.mem_cons_of_mem _ List.mem_cons_self))), zh_e_g (h 323 (List.mem_cons_of_mem _ (List.mem_cons_of_mem _ (List.mem_cons_of_mem _ List.mem_cons_self)))), zh_e_g (h 207 (List.mem_cons_of_mem _ (List.mem_cons_of_mem _ (List.mem_cons_of_mem _ (List.mem_cons_of_mem _ List.mem_cons_self)))))]
  · rw [zh_e_g (h 207 List.mem_cons_self), zh_e_g (h 208 (List.mem_cons_of_mem _ List.mem_cons_self)), zh_e_g (h 323 (List.mem_cons_of_mem _ (List.mem_cons_of_mem _ List.mem_cons_self)))]
  · rw [zh_e_g (h 214 List.mem_cons_self)]
  · rw [zh_e_g (h 214 List.mem_cons_self), zh_e_g (h 213 (List.mem_cons_of_mem _ List.mem_cons_self))]
  · rw [zh_e_g (h 214 List.mem_cons_self), zh_e_g (h 213 (List.mem_cons_of_mem _ List.mem_cons_self))]
  · rw [zh_e_g (h 176 List.mem_cons_self)]
  · rw [zh_e_g (h 214 List.mem_cons_self), zh_e_g (h 213 (List.mem_cons_of_mem _ List.mem_cons_self)), zh_e_g (h 215 (List.mem_cons_of_mem _ (List.mem_cons_of_mem _ List.mem_cons_self))), zh_e_g (h 204 (List.mem_cons_of_mem _ (List.mem_cons_of_mem _ (List.mem_cons_of_mem _ List.mem_cons_self)))), zh_e_g (h 205 (List.mem_cons_of_mem _ (List.mem_cons_of_mem _ (List.mem_cons_of_mem _ (List.mem_cons_of_mem _ List.mem_cons_self))))), zh_e_g (h 203 (List.mem_cons_of_mem _ (List.mem_cons_of_mem _ (List.mem_cons_of_mem _ (List.mem_cons_of_mem _ (List.mem_cons_of_mem _ List.mem_cons_self))))))]
  · rw [zh_e_g (h 208 List.mem_cons_self), zh_e_g (h 209 (List.mem_cons_of_mem _ List.mem_cons_self)), zh_e_g (h 210 (List.mem_cons_of_mem _ (List.mem_cons_of_mem _ List.mem_cons_self))), zh_e_g (h 211 (List.mem_cons_of_mem _ (List.mem_cons_of_mem _ (List.mem_cons_of_mem _ List.mem_cons_self)))), zh_e_g (h 212 (List.mem_cons_of_mem _ (List.mem_cons_of_mem _ (List.mem_cons_of_mem _ (List.mem_cons_of_mem _ List.mem_cons_self))))), zh_e_g (h 214 (List.mem_cons_of_mem _ (List.mem_cons_of_mem _ (List.mem_cons_of_mem _ (List.mem_cons_of_mem _ (List.mem_cons_of_mem _ List.mem_cons_self)))))), zh_e_g (h 213 (List.mem_cons_of_mem _ (List.mem_cons_of_mem _ (List.mem_cons_of_mem _ (List.mem_cons_of_mem _ (List.mem_cons_of_mem _ (List.mem_cons_of_mem _ List.mem_cons_self))))))), zh_e_g (h 215 (List.mem_cons_of_mem _ (List.mem_cons_of_mem _ (List.mem_cons_of_mem _ (List.mem_cons_of_mem _ (List.mem_cons_of_mem _ (List.mem_cons_of_mem _ (List.mem_cons_of_mem _ List.mem_cons_self)))))))), zh_e_g (h 207 (List.mem_cons_of_mem _ (List.mem_cons_of_mem _ (List.mem_cons_of_mem _ (List.mem_cons_of_mem _ (List.mem_cons_of_mem _ (List.mem_cons_of_mem _ (List.mem_cons_of_mem _ (List.mem_cons_of_mem _ List.mem_cons_self)))))))))]
  · rw [zh_e_g (h 208 List.mem_cons_self), zh_e_g (h 209 (List.mem_cons_of_mem _ List.mem_cons_self)), zh_e_g (h 210 (List.mem_cons_of_mem _ (List.mem_cons_of_mem _ List.mem_cons_self))), zh_e_g (h 211 (List.mem_cons_of_mem _ (List.mem_cons_of_mem _ (List.mem_cons_of_mem _ List.mem_cons_self)))), zh_e_g (h 207 (List.mem_cons_of_mem _ (List.mem_cons_of_mem _ (List.mem_cons_of_mem _ (List.mem_cons_of_mem _ List.mem_cons_self))))), zh_e_g (h 327 (List.mem_cons_of_mem _ (List.mem_cons_of_mem _ (List.mem_cons_of_mem _ (List.mem_cons_of_mem _ (List.mem_cons_of_mem _ List.mem_cons_self)))))), zh_e_g (h 324 (List.mem_cons_of_mem _ (List.mem_cons_of_mem _ (List.mem_cons_of_mem _ (List.mem_cons_of_mem _ (List.mem_cons_of_mem _ (List.mem_cons_of_mem _ List.mem_cons_self))))))), zh_e_g (h 325 (List.mem_cons_of_mem _ (List.mem_cons_of_mem _ (List.mem_cons_of_mem _ (List.mem_cons_of_mem _ (List.mem_cons_of_mem _ (List.mem_cons_of_mem _ (List.mem_cons_of_mem _ List.mem_cons_self)))))))), zh_e_g (h 216 (List.mem_cons_of_mem _ (List.mem_cons_of_mem _ (List.mem_cons_of_mem _ (List.mem_cons_of_mem _ (List.mem_cons_of_mem _ (List.mem_cons_of_mem _ (List.mem_cons_of_mem _ (List.mem_cons_of_mem _ List.mem_cons_self))))))))), zh_e_g (h 214 (List.mem_cons_of_mem _ (List.mem_cons_of_mem _ (List.mem_cons_of_mem _ (List.mem_cons_of_mem _ (List.mem_cons_of_mem _ (List.mem_cons_of_mem _ (List.mem_cons_of_mem _ (List.mem_cons_of_mem _ (List.mem_cons_of_mem _ List.mem_cons_self)))))))))), zh_e_g (h 213 (List.mem_cons_of_mem _ (List.mem_cons_of_mem _ (List.mem_cons_of_mem _ (List.mem_cons_of_mem _ (List.mem_cons_of_mem _ (List.mem_cons_of_mem _ (List.mem_cons_of_mem _ (List.mem_cons_of_mem _ (List.mem_cons_of_mem _ (List.mem_cons_of_mem _ List.mem_cons_self)))))))))))]
  · rw [zh_e_g (h 208 List.mem_cons_self), zh_e_g (h 324 (List.mem_cons_of_mem _ List.mem_cons_self))]
  · rw [zh_e_g (h 213 List.mem_cons_self), zh_e_g (h 215 (List.mem_cons_of_mem _ List.mem_cons_self)), zh_e_g (h 216 (List.mem_cons_of_mem _ (List.mem_cons_of_mem _ List.mem_cons_self))), zh_e_g (h 321 (List.mem_cons_of_mem _ (List.mem_cons_of_mem _ (List.mem_cons_of_mem _ List.mem_cons_self))))]
  · rw [zn_l_g (h 173 List.mem_cons_self), zn_l_g (h 174 (List.mem_cons_of_mem _ List.mem_cons_self))]
  · rw [zh_e_g (h 208 List.mem_cons_self), zh_e_g (h 207 (List.mem_cons_of_mem _ List.mem_cons_self)), zh_e_g (h 324 (List.mem_cons_of_mem _ (List.mem_cons_of_mem _ List.mem_cons_self)))]
  · rfl
def zv_H (t : Nat) (w : zz_W) (j : Int) : Int := cond (Nat.blt t 100) (zv_Hh t w j) (cond (Nat.blt t 200) (cond (Nat.blt t 140) (zh_b (zq_P (zq_T (t - 100)) w (zq_dec (zq_T (t - 100)).2.2.1 j))) (zv_Hi t w j)) (zh_b (zu_P (zu_T (t - 200)) w (zq_dec (zu_T (t - 200)).2.2.1 j))))
def zv_HR (t : Nat) : List Nat := cond (Nat.blt t 100) (zv_HRh t) (cond (Nat.blt t 200) (cond (Nat.blt t 140) (zq_T (t - 100)).1 (zv_HRi t)) ((zu_T (t - 200)).1.map (fun q => q.1)))
theorem zv_cF {α : Type} {x y : α} : cond false x y = y := rfl
theorem zv_cT {α : Type} {x y : α} : cond true x y = x := rfl
theorem zv_H_g {t : Nat} {w w' : zz_W} {j : Int} (h : ∀ r ∈ zv_HR t, zz_g w' r = zz_g w r) : zv_H t w' j = zv_H t w j := by
  cases hb : Nat.blt t 100 with
  | true =>
    have e1 : zv_HR t = zv_HRh t := by
      unfold zv_HR
      rw [hb, zv_cT]
    have e2 : ∀ v, zv_H t v j = zv_Hh t v j := fun v => by
      unfold zv_H
      rw [hb, zv_cT]
    rw [e1] at h
    rw [e2, e2]
    exact zv_Hh_g h
  | false =>
    cases h2 : Nat.blt t 200 with
    | true =>
      cases h3 : Nat.blt t 140 with
      | true =>
        have e1 : zv_HR t = (zq_T (t - 100)).1 := by
          unfold zv_HR
          rw [hb, h2, h3, zv_cF, zv_cT, zv_cT]
        have e2 : ∀ v, zv_H t v j = zh_b (zq_P (zq_T (t - 100)) v (zq_dec (zq_T (t - 100)).2.2.1 j)) := fun v => by
          unfold zv_H
          rw [hb, h2, h3, zv_cF, zv_cT, zv_cT]
        rw [e1] at h
        rw [e2, e2]
        generalize t - 100 = u at h ⊢
        exact congrArg zh_b (zq_P_g h)
      | false =>
        have e1 : zv_HR t = zv_HRi t := by
          unfold zv_HR
          rw [hb, h2, h3, zv_cF, zv_cT, zv_cF]
        have e2 : ∀ v, zv_H t v j = zv_Hi t v j := fun v => by
          unfold zv_H
          rw [hb, h2, h3, zv_cF, zv_cT, zv_cF]
        rw [e1] at h
        rw [e2, e2]
        exact zv_Hi_g h
    | false =>
      have e1 : zv_HR t = (zu_T (t - 200)).1.map (fun q => q.1) := by
        unfold zv_HR
        rw [hb, h2, zv_cF, zv_cF]
      have e2 : ∀ v, zv_H t v j = zh_b (zu_P (zu_T (t - 200)) v (zq_dec (zu_T (t - 200)).2.2.1 j)) := fun v => by
        unfold zv_H
        rw [hb, h2, zv_cF, zv_cF]
      rw [e1] at h
      rw [e2, e2]
      generalize t - 200 = u at h ⊢
      exact congrArg zh_b (zu_P_g h)
theorem zv_bltF {a b : Nat} (h : b ≤ a) : Nat.blt a b = false := by
  cases hb : Nat.blt a b with
  | true => exact absurd (zz_blt hb) (by omega)
  | false => rfl
theorem zv_H_q {t : Nat} {w : zz_W} {j : Int} (ht : t < 40) : zv_H (100 + t) w j = zh_b (zq_P (zq_T t) w (zq_dec (zq_T t).2.2.1 j)) := by
  unfold zv_H
  rw [zv_bltF (show 100 ≤ 100 + t by omega), show Nat.blt (100 + t) 200 = true from Nat.ble_eq.mpr (by omega), show Nat.blt (100 + t) 140 = true from Nat.ble_eq.mpr (by omega), zv_cF, zv_cT, zv_cT, Nat.add_sub_cancel_left]
theorem zv_H_u {t : Nat} {w : zz_W} {j : Int} : zv_H (200 + t) w j = zh_b (zu_P (zu_T t) w (zq_dec (zu_T t).2.2.1 j)) := by
  unfold zv_H
  rw [zv_bltF (show 100 ≤ 200 + t by omega), zv_bltF (show 200 ≤ 200 + t by omega), zv_cF, zv_cF, Nat.add_sub_cancel_left]
/-! rows of longs: their elements as a function's values; functions that speak of them ahead of their place alone -/
def zv_LF (i : Nat) : Option Nat := cond (Nat.beq i 44) (some 18) (cond (Nat.beq i 173) (some 82) (cond (Nat.beq i 174) (some 83) none))
theorem zv_LF_ok {i t : Nat} {w : zz_W} {j : Int} (h : zv_LF i = some t) : zv_H t w j = zk_lel w i j.toNat := by
  unfold zv_LF at h
  cases hb : Nat.beq i 44 with
  | true =>
    rw [hb] at h
    cases h
    rw [zz_beq hb]
    rfl
  | false =>
    rw [hb] at h
    have h : cond (Nat.beq i 173) (some 82) (cond (Nat.beq i 174) (some 83) none) = some t := h
    cases hb2 : Nat.beq i 173 with
    | true =>
      rw [hb2] at h
      cases h
      rw [zz_beq hb2]
      rfl
    | false =>
      rw [hb2] at h
      have h : cond (Nat.beq i 174) (some 83) none = some t := h
      cases hb3 : Nat.beq i 174 with
      | true =>
        rw [hb3] at h
        cases h
        rw [zz_beq hb3]
        rfl
      | false =>
        rw [hb3] at h
        cases h
def zv_LP (t i : Nat) : Bool := Nat.beq t 17 && Nat.beq i 44
theorem zv_LP_ok {t i : Nat} {w w' : zz_W} {j p : Int} (h : zv_LP t i = true) (hw : zk_rL i j w w') (hp : p ≤ j) : zv_H t w' p = zv_H t w p := by
  obtain ⟨h1, h2⟩ := zz_and h
  have h1 := zz_beq h1
  have h2 := zz_beq h2
  subst h1
  subst h2
  have e1 : zh_f w' 41 = zh_f w 41 := zh_f_g (hw.1 41 (by decide))
  have e2 : zh_f w' 42 = zh_f w 42 := zh_f_g (hw.1 42 (by decide))
  show zh_b (zh_ods (zh_f w' 41) (zh_f w' 42) (zk_lel w' 44) p) = zh_b (zh_ods (zh_f w 41) (zh_f w 42) (zk_lel w 44) p)
  rw [e1, e2]
  have e : zh_ods (zh_f w 41) (zh_f w 42) (zk_lel w' 44) p = zh_ods (zh_f w 41) (zh_f w 42) (zk_lel w 44) p := propext ⟨fun h i hi => by
    have := h i hi
    rw [hw.2 i (by omega)] at this
    exact this, fun h i hi => by
    have := h i hi
    rw [← hw.2 i (by omega)] at this
    exact this⟩
  rw [e]
/-! functions that speak of a row of longs ahead of the first digit of their place alone -/
def zv_LQ (t i : Nat) : Bool := (Nat.beq t 196 || (Nat.beq t 153 || ((Nat.beq t 84 || Nat.beq t 85) || (Nat.beq t 89 || Nat.beq t 90)))) && (Nat.beq i 173 || Nat.beq i 174)
theorem zn_l_w {w w' : zz_W} {i r : Nat} {j n : Int} (hw : zk_rL i j w w') (hp : n ≤ j) (p : Int) (p0 : 0 ≤ p) (p1 : p < n) : zn_l w' r p = zn_l w r p := by
  show zk_lel w' r p.toNat = zk_lel w r p.toNat
  by_cases hr : r = i
  · subst hr
    exact hw.2 p.toNat (by omega)
  · rw [zh_l_g (hw.1 r hr)]
theorem zs_nm_c {A B T A' B' : Int → Int} {n : Int} (hA : ∀ p, 0 ≤ p → p < n → A' p = A p) (hB : ∀ p, 0 ≤ p → p < n → B' p = B p) (h : zs_nm A B T n) : zs_nm A' B' T n := by
  obtain ⟨h1, h2, h3⟩ := h
  refine ⟨fun i i0 i1 => ?_, fun i k i0 ik kn e1 e2 => ?_, fun i i0 i1 i2 => ?_⟩
  · rw [hA i i0 i1, hB i i0 i1]
    exact h1 i i0 i1
  · rw [hA i i0 (by omega), hA k (by omega) kn] at e1
    rw [hB i i0 (by omega), hB k (by omega) kn] at e2
    exact h2 i k i0 ik kn e1 e2
  · rw [hA i i0 i1, hB i i0 i1]
    exact h3 i i0 i1 i2
theorem zs_wk_c {A B T A' B' : Int → Int} {n k m a b : Int} (hA : ∀ p, 0 ≤ p → p < n → A' p = A p) (hB : ∀ p, 0 ≤ p → p < n → B' p = B p) (h : zs_wk A B T n k m a b) : zs_wk A' B' T n k m a b := by
  obtain ⟨h1, h2, h3⟩ := h
  refine ⟨h1, h2, fun e e0 e1 => ?_⟩
  obtain ⟨q1, q2⟩ := h3 e e0 e1
  refine ⟨q1, fun l x y => ?_⟩
  rw [hA _ (by omega) (by omega)] at x
  rw [hB _ (by omega) (by omega)] at y
  exact q2 l x y
theorem zc_wn_c {T A B O Q A' B' : Int → Int} {z b N o : Int} (hA : ∀ p, 0 ≤ p → p < N → A' p = A p) (hB : ∀ p, 0 ≤ p → p < N → B' p = B p) (h : zc_wn T A B O Q z b N o) : zc_wn T A' B' O Q z b N o := by
  obtain ⟨⟨F, f0, f1, f2, f3, f4⟩, h2⟩ := h
  refine ⟨⟨F, f0, f1, fun p p0 p1 => ?_, f3, fun i i0 i1 => by omega⟩, h2⟩
  obtain ⟨k, k1, r1, r2, r3, r4, r5⟩ := f2 p p0 p1
  have q1 := h2 p p0 p1
  refine ⟨k, k1, r1, ?_, r3, r4, fun i i0 i1 => ?_⟩
  · rw [hA _ r1 q1, hB _ r1 q1]
    exact r2
  · rw [hA _ r1 q1]
    exact r5 i i0 i1
theorem zv_LQ_ok {t i : Nat} {w w' : zz_W} {j p : Int} (h : zv_LQ t i = true) (hw : zk_rL i j w w') (hp : p % 4294967296 ≤ j) : zv_H t w' p = zv_H t w p := by
  obtain ⟨h1, h2⟩ := zz_and h
  have hi : i = 173 ∨ i = 174 := by
    cases hb : Nat.beq i 173 with
    | true => exact Or.inl (zz_beq hb)
    | false =>
      rw [hb] at h2
      exact Or.inr (zz_beq (show Nat.beq i 174 = true from h2))
  have hT : zh_e w' 175 = zh_e w 175 := zh_e_g (hw.1 175 (by rcases hi with e | e <;> rw [e] <;> decide))
  have hTk : zh_e w' 221 = zh_e w 221 := zh_e_g (hw.1 221 (by rcases hi with e | e <;> rw [e] <;> decide))
  have hTv : zh_e w' 223 = zh_e w 223 := zh_e_g (hw.1 223 (by rcases hi with e | e <;> rw [e] <;> decide))
  have gA := fun (p : Int) (p0 : 0 ≤ p) => zn_l_w (r := 173) hw hp p p0
  have gB := fun (p : Int) (p0 : 0 ≤ p) => zn_l_w (r := 174) hw hp p p0
  cases bm : Nat.beq t 196 with
  | true =>
    rw [zz_beq bm]
    have d1 : 0 ≤ zv_dg 1 p := by
      show 0 ≤ p / 4294967296 % 4294967296
      omega
    show zh_b (zv_dg 1 p < p % 4294967296 ∧ zn_l w' 173 (zv_dg 1 p) = 1852399981 ∧ zn_l w' 174 (zv_dg 1 p) = 0) = zh_b (zv_dg 1 p < p % 4294967296 ∧ zn_l w 173 (zv_dg 1 p) = 1852399981 ∧ zn_l w 174 (zv_dg 1 p) = 0)
    refine congrArg zh_b (propext ⟨fun h => ⟨h.1, ?_, ?_⟩, fun h => ⟨h.1, ?_, ?_⟩⟩)
    · rw [← gA _ d1 h.1]
      exact h.2.1
    · rw [← gB _ d1 h.1]
      exact h.2.2
    · rw [gA _ d1 h.1]
      exact h.2.1
    · rw [gB _ d1 h.1]
      exact h.2.2
  | false =>
  rw [bm] at h1
  have h1 : (Nat.beq t 153 || ((Nat.beq t 84 || Nat.beq t 85) || (Nat.beq t 89 || Nat.beq t 90))) = true := h1
  cases b0 : Nat.beq t 153 with
  | true =>
    have hO : zh_e w' 256 = zh_e w 256 := zh_e_g (hw.1 256 (by rcases hi with e | e <;> rw [e] <;> decide))
    have hK : zh_e w' 257 = zh_e w 257 := zh_e_g (hw.1 257 (by rcases hi with e | e <;> rw [e] <;> decide))
    have hS : zh_e w' 178 = zh_e w 178 := zh_e_g (hw.1 178 (by rcases hi with e | e <;> rw [e] <;> decide))
    have hY : zh_e w' 177 = zh_e w 177 := zh_e_g (hw.1 177 (by rcases hi with e | e <;> rw [e] <;> decide))
    rw [zz_beq b0]
    show zh_b (zc_wn (zh_e w' 177) (zn_l w' 173) (zn_l w' 174) (zh_e w' 256) (zh_e w' 257) (zh_e w' 178 (zv_dg 1 p)) (40000 * zv_dg 1 p) (p % 4294967296) (zv_dg 2 p)) = zh_b (zc_wn (zh_e w 177) (zn_l w 173) (zn_l w 174) (zh_e w 256) (zh_e w 257) (zh_e w 178 (zv_dg 1 p)) (40000 * zv_dg 1 p) (p % 4294967296) (zv_dg 2 p))
    rw [hO, hK, hS, hY]
    exact congrArg zh_b (propext ⟨zc_wn_c (fun q a b => (gA q a b).symm) (fun q a b => (gB q a b).symm), zc_wn_c gA gB⟩)
  | false =>
  rw [b0] at h1
  have h1 : ((Nat.beq t 84 || Nat.beq t 85) || (Nat.beq t 89 || Nat.beq t 90)) = true := h1
  have ht : t = 84 ∨ t = 85 ∨ t = 89 ∨ t = 90 := by
    cases b1 : Nat.beq t 84 with
    | true => exact Or.inl (zz_beq b1)
    | false =>
      cases b2 : Nat.beq t 85 with
      | true => exact Or.inr (Or.inl (zz_beq b2))
      | false =>
        cases b3 : Nat.beq t 89 with
        | true => exact Or.inr (Or.inr (Or.inl (zz_beq b3)))
        | false =>
          rw [b1, b2, b3] at h1
          exact Or.inr (Or.inr (Or.inr (zz_beq (show Nat.beq t 90 = true from h1))))
  rcases ht with e | e | e | e
  · rw [e]
    show zh_b (zs_nm (zn_l w' 173) (zn_l w' 174) (zh_e w' 175) (p % 4294967296)) = zh_b (zs_nm (zn_l w 173) (zn_l w 174) (zh_e w 175) (p % 4294967296))
    rw [hT]
    exact congrArg zh_b (propext ⟨zs_nm_c (fun q a b => (gA q a b).symm) (fun q a b => (gB q a b).symm), zs_nm_c gA gB⟩)
  · rw [e]
    show zh_b (zn_w (zn_l w' 173) (zn_l w' 174) (zh_e w' 175) p) = zh_b (zn_w (zn_l w 173) (zn_l w 174) (zh_e w 175) p)
    rw [hT]
    exact congrArg zh_b (propext ⟨zs_wk_c (fun q a b => (gA q a b).symm) (fun q a b => (gB q a b).symm), zs_wk_c gA gB⟩)
  · rw [e]
    show zh_b ((4294967297 ≤ p ∧ p < 8589934592) ∧ zp_n (zn_l w' 173 (p - 4294967297)) (zn_l w' 174 (p - 4294967297))) = zh_b ((4294967297 ≤ p ∧ p < 8589934592) ∧ zp_n (zn_l w 173 (p - 4294967297)) (zn_l w 174 (p - 4294967297)))
    refine congrArg zh_b (propext ⟨fun h => ⟨h.1, ?_⟩, fun h => ⟨h.1, ?_⟩⟩)
    · have h1 := h.1
      have h2 := h.2
      rw [gA _ (by omega) (by omega), gB _ (by omega) (by omega)] at h2
      exact h2
    · have h1 := h.1
      have h2 := h.2
      rw [← gA _ (by omega) (by omega), ← gB _ (by omega) (by omega)] at h2
      exact h2
  · rw [e]
    show zh_b (zp_tn (zn_l w' 173) (zn_l w' 174) (zh_e w' 221) (zh_e w' 223) (p % 4294967296) (p / 4294967296)) = zh_b (zp_tn (zn_l w 173) (zn_l w 174) (zh_e w 221) (zh_e w 223) (p % 4294967296) (p / 4294967296))
    rw [hTk, hTv]
    refine congrArg zh_b (propext ⟨fun h i i0 i1 ik => ?_, fun h i i0 i1 ik => ?_⟩)
    · obtain ⟨q1, q2, q3⟩ := h i i0 i1 ik
      rw [gA _ q1 q2, gB _ q1 q2] at q3
      exact ⟨q1, q2, q3⟩
    · obtain ⟨q1, q2, q3⟩ := h i i0 i1 ik
      rw [← gA _ q1 q2, ← gB _ q1 q2] at q3
      exact ⟨q1, q2, q3⟩
/-! functions that speak of a row of longs from the first digit of their place on alone -/
def zv_LR (t i : Nat) : Bool := (Nat.beq t 163 || Nat.beq t 87) && (Nat.beq i 173 || Nat.beq i 174)
theorem zv_LR_ok {t i : Nat} {w w' : zz_W} {j p : Int} (h : zv_LR t i = true) (hw : zk_rL i j w w') (hp : j < p % 4294967296) : zv_H t w' p = zv_H t w p := by
  obtain ⟨h1, h2⟩ := zz_and h
  have g : ∀ (r : Nat) (q : Int), p % 4294967296 ≤ q → 0 ≤ q → zn_l w' r q = zn_l w r q := fun r q a b => by
    show zk_lel w' r q.toNat = zk_lel w r q.toNat
    by_cases hr : r = i
    · subst hr
      exact hw.2 q.toNat (by omega)
    · rw [zh_l_g (hw.1 r hr)]
  cases b0 : Nat.beq t 163 with
  | true =>
    rw [zz_beq b0]
    show zh_b (zj_u (zn_l w' 173) (zn_l w' 174) (p % 4294967296) (p / 4294967296 % 4294967296) (p / 18446744073709551616 % 18446744073709551616 - 9223372036854775808) (p / 18446744073709551616 / 18446744073709551616 - 9223372036854775808)) = zh_b (zj_u (zn_l w 173) (zn_l w 174) (p % 4294967296) (p / 4294967296 % 4294967296) (p / 18446744073709551616 % 18446744073709551616 - 9223372036854775808) (p / 18446744073709551616 / 18446744073709551616 - 9223372036854775808))
    exact congrArg zh_b (propext ⟨fun h n z0 n0 n1 qa qb => h n z0 n0 n1 (by rw [g 173 n n0 z0]; exact qa) (by rw [g 174 n n0 z0]; exact qb), fun h n z0 n0 n1 qa qb => h n z0 n0 n1 (by rw [← g 173 n n0 z0]; exact qa) (by rw [← g 174 n n0 z0]; exact qb)⟩)
  | false =>
  rw [b0] at h1
  have h1 : Nat.beq t 87 = true := h1
  rw [zz_beq h1]
  show zh_b (zn_k5 (zn_l w' 173) (zn_l w' 174) (p % 4294967296)) = zh_b (zn_k5 (zn_l w 173) (zn_l w 174) (p % 4294967296))
  refine congrArg zh_b (propext ⟨fun h q a b c => ?_, fun h q a b c => ?_⟩)
  · have := h q a b c
    rw [g 173 q a b, g 174 q a b] at this
    exact this
  · rw [g 173 q a b, g 174 q a b]
    exact h q a b c
/-! functions that do not speak of a row of longs at the first digit of their place -/
def zv_LS (t i : Nat) : Bool := Nat.beq t 161 && (Nat.beq i 173 || Nat.beq i 174)
theorem zv_LS_ok {t i : Nat} {w w' : zz_W} {j p : Int} (h : zv_LS t i = true) (hw : zk_rL i j w w') (hp : p % 4294967296 = j) : zv_H t w' p = zv_H t w p := by
  obtain ⟨h1, h2⟩ := zz_and h
  rw [zz_beq h1]
  have g : ∀ (r : Nat) (q : Int), 0 ≤ q → q ≠ j → zn_l w' r q = zn_l w r q := fun r q b a => by
    show zk_lel w' r q.toNat = zk_lel w r q.toNat
    by_cases hr : r = i
    · subst hr
      exact hw.2 q.toNat (by omega)
    · rw [zh_l_g (hw.1 r hr)]
  have hd : zv_dg 0 p = j := hp
  have d1 : 0 ≤ zv_dg 1 p := by
    show 0 ≤ p / 4294967296 % 4294967296
    omega
  have hz : 0 ≤ j := by omega
  have key : ∀ {A B A' B' : Int → Int}, (∀ q, 0 ≤ q → q ≠ j → A q = A' q) → (∀ q, 0 ≤ q → q ≠ j → B q = B' q) → zj_dn A B (zv_dg 0 p) (zv_dg 0 p + 1 + zv_dg 1 p) (zv_dg 2 p) → zj_dn A' B' (zv_dg 0 p) (zv_dg 0 p + 1 + zv_dg 1 p) (zv_dg 2 p) := fun ga gb h => ⟨fun x n x0 x1 n0 n1 qa qb => h.1 x n x0 x1 n0 n1 (by rw [ga x x0 (by omega), ga n (by omega) (by omega)]; exact qa) (by rw [gb x x0 (by omega), gb n (by omega) (by omega)]; exact qb), fun n m z0 n0 n1 m1 qa qb => h.2 n m z0 n0 n1 m1 (by rw [ga n z0 (by omega), ga m (by omega) (by omega)]; exact qa) (by rw [gb n z0 (by omega), gb m (by omega) (by omega)]; exact qb)⟩
  show zh_b (zj_dn (zn_l w' 173) (zn_l w' 174) (zv_dg 0 p) (zv_dg 0 p + 1 + zv_dg 1 p) (zv_dg 2 p)) = zh_b (zj_dn (zn_l w 173) (zn_l w 174) (zv_dg 0 p) (zv_dg 0 p + 1 + zv_dg 1 p) (zv_dg 2 p))
  exact congrArg zh_b (propext ⟨key (fun q a b => g 173 q a b) (fun q a b => g 174 q a b), key (fun q a b => (g 173 q a b).symm) (fun q a b => (g 174 q a b).symm)⟩)
/-! functions that speak of a part of a row alone: row, factor, digit where it begins, digit where it ends -/
def zv_AP (t : Nat) : List (Nat × Nat × Nat × Nat) := cond (Nat.ble 31 t && Nat.ble t 36) [(61 + 17 * (t - 31), 2, 0, 1), (20, 6, 3, 4), (22, 1, 5, 6)] (cond (Nat.beq t 72) [(229, 1, 3, 2), (230, 1, 3, 2)] (cond (Nat.beq t 169) [(176, 1, 1, 0), (208, 8000, 1, 0), (207, 1, 1, 0)] (cond (Nat.beq t 172) [(176, 1, 1, 0), (207, 1, 1, 0), (208, 8000, 1, 0), (209, 8000, 1, 0), (210, 8000, 1, 0), (211, 8000, 1, 0), (212, 8000, 1, 0), (213, 1, 1, 0), (214, 64, 1, 0), (215, 64, 1, 0), (203, 1, 1, 0), (204, 600, 1, 0), (205, 600, 1, 0)] (cond (Nat.beq t 176) [(176, 1, 1, 0), (208, 8000, 1, 0), (207, 1, 1, 0), (213, 1, 1, 0), (215, 64, 1, 0), (216, 64, 1, 0), (217, 64, 1, 0)] (cond (Nat.beq t 182) [(176, 1, 1, 0), (207, 1, 1, 0), (208, 8000, 1, 0), (209, 8000, 1, 0)] (cond (Nat.beq t 178) [(208, 1, 3, 2), (254, 1, 0, 1)] []))))))
theorem zv_AP_sg {w w' : zz_W} {j : Int} {r : Nat} (h1 : zz_g w' r = zz_g w r ∨ ∀ p : Int, 0 ≤ p → 2 * zv_dg 0 j ≤ p → p < 2 * zv_dg 1 j → zk_el w' r p = zk_el w r p) (h2 : zz_g w' 20 = zz_g w 20 ∨ ∀ p : Int, 0 ≤ p → 6 * zv_dg 3 j ≤ p → p < 6 * zv_dg 4 j → zk_el w' 20 p = zk_el w 20 p) (h3 : zz_g w' 22 = zz_g w 22 ∨ ∀ p : Int, 0 ≤ p → zv_dg 5 j ≤ p → p < zv_dg 6 j → zk_el w' 22 p = zk_el w 22 p) : zh_b (zg_sg (zh_e w' r) (zh_e w' 20) (zh_e w' 22) j) = zh_b (zg_sg (zh_e w r) (zh_e w 20) (zh_e w 22) j) := by
  have g1 : ∀ p : Int, 0 ≤ p → 2 * zv_dg 0 j ≤ p → p < 2 * zv_dg 1 j → zh_e w' r p = zh_e w r p := fun p a b c => by
    rcases h1 with h | h
    · rw [zh_e_g h]
    · exact h p a b c
  have g2 : ∀ p : Int, 0 ≤ p → 6 * zv_dg 3 j ≤ p → p < 6 * zv_dg 4 j → zh_e w' 20 p = zh_e w 20 p := fun p a b c => by
    rcases h2 with h | h
    · rw [zh_e_g h]
    · exact h p a b c
  have g3 : ∀ p : Int, 0 ≤ p → zv_dg 5 j ≤ p → p < zv_dg 6 j → zh_e w' 22 p = zh_e w 22 p := fun p a b c => by
    rcases h3 with h | h
    · rw [zh_e_g h]
    · exact h p a b c
  exact congrArg zh_b (propext ⟨zg_sg_c (fun p a b c => (g1 p a b c).symm) (fun p a b c _ => (g2 p a b c).symm) (fun p a b c => (g3 p a b c).symm), zg_sg_c g1 (fun p a b c _ => g2 p a b c) g3⟩)
/-! parts of rows: units ahead of the first digit of the place -/
def zj_fc (r : Nat) : Nat := cond (Nat.beq r 208 || (Nat.beq r 209 || (Nat.beq r 210 || (Nat.beq r 211 || Nat.beq r 212)))) 8000 (cond (Nat.beq r 214 || (Nat.beq r 215 || (Nat.beq r 216 || Nat.beq r 217))) 64 (cond (Nat.beq r 204 || Nat.beq r 205) 600 1))
theorem zj_ap {l : List (Nat × Nat × Nat × Nat)} {R : List Nat} {w w' : zz_W} {j : Int} (ha : l.all (fun q => Nat.beq q.2.1 (zj_fc q.1) && (Nat.beq q.2.2.1 1 && Nat.beq q.2.2.2 0)) = true) (hz : zv_dg 1 j = 0) (h : ∀ r ∈ R, zz_g w' r = zz_g w r ∨ ∃ q ∈ l, q.1 = r ∧ ∀ p : Int, 0 ≤ p → (q.2.1 : Int) * zv_dg q.2.2.1 j ≤ p → p < (q.2.1 : Int) * zv_dg q.2.2.2 j → zk_el w' r p = zk_el w r p) : ∀ r ∈ R, ∀ p : Int, 0 ≤ p → p < (zj_fc r : Int) * zv_dg 0 j → zh_e w' r p = zh_e w r p := by
  intro r hr p p0 p1
  rcases h r hr with h | ⟨q, q1, q2, q3⟩
  · rw [zh_e_g h]
  · obtain ⟨a1, a2⟩ := zz_and (List.all_eq_true.mp ha q q1)
    obtain ⟨a3, a4⟩ := zz_and a2
    have a1 := zz_beq a1
    have a3 := zz_beq a3
    have a4 := zz_beq a4
    rw [a1, a3, a4, q2, hz] at q3
    exact q3 p p0 (by rw [Int.mul_zero]; exact p0) p1
theorem zj_a169 {w w' : zz_W} {j : Int} (h : ∀ r ∈ zv_HR 169, zz_g w' r = zz_g w r ∨ ∃ q ∈ zv_AP 169, q.1 = r ∧ ∀ p : Int, 0 ≤ p → (q.2.1 : Int) * zv_dg q.2.2.1 j ≤ p → p < (q.2.1 : Int) * zv_dg q.2.2.2 j → zk_el w' r p = zk_el w r p) : zv_H 169 w' j = zv_H 169 w j := by
  show zh_b (zv_dg 1 j = 0 → ∀ u, 0 ≤ u → u < zv_dg 0 j → 1 ≤ zh_e w' 176 u → zh_e w' 207 u ≤ 8000 → zj_s (zh_e w' 208) (8000 * u) (zh_e w' 207 u).toNat ≤ 2045) = zh_b (zv_dg 1 j = 0 → ∀ u, 0 ≤ u → u < zv_dg 0 j → 1 ≤ zh_e w 176 u → zh_e w 207 u ≤ 8000 → zj_s (zh_e w 208) (8000 * u) (zh_e w 207 u).toNat ≤ 2045)
  by_cases hz : zv_dg 1 j = 0
  · have g := zj_ap (l := zv_AP 169) (R := zv_HR 169) (by decide) hz h
    have g1 : ∀ p : Int, 0 ≤ p → p < zv_dg 0 j → zh_e w' 176 p = zh_e w 176 p := fun p a b => g 176 List.mem_cons_self p a (by show p < (1 : Int) * zv_dg 0 j; omega)
    have g2 : ∀ p : Int, 0 ≤ p → p < 8000 * zv_dg 0 j → zh_e w' 208 p = zh_e w 208 p := fun p a b => g 208 (List.mem_cons_of_mem _ List.mem_cons_self) p a b
    have g3 : ∀ p : Int, 0 ≤ p → p < zv_dg 0 j → zh_e w' 207 p = zh_e w 207 p := fun p a b => g 207 (List.mem_cons_of_mem _ (List.mem_cons_of_mem _ List.mem_cons_self)) p a (by show p < (1 : Int) * zv_dg 0 j; omega)
    have key : ∀ u, 0 ≤ u → u < zv_dg 0 j → zh_e w 207 u ≤ 8000 → zj_s (zh_e w' 208) (8000 * u) (zh_e w 207 u).toNat = zj_s (zh_e w 208) (8000 * u) (zh_e w 207 u).toNat := fun u u0 u1 u2 => zj_se (fun i i0 i1 => g2 _ (by omega) (by omega))
    refine congrArg zh_b (propext ⟨fun q _ u u0 u1 u2 u3 => ?_, fun q _ u u0 u1 u2 u3 => ?_⟩)
    · have r := q hz u u0 u1 (by rw [g1 u u0 u1]; exact u2) (by rw [g3 u u0 u1]; exact u3)
      rw [g3 u u0 u1, key u u0 u1 u3] at r
      exact r
    · rw [g1 u u0 u1] at u2
      rw [g3 u u0 u1] at u3 ⊢
      rw [key u u0 u1 u3]
      exact q hz u u0 u1 u2 u3
  · exact congrArg zh_b (propext ⟨fun _ q => absurd q hz, fun _ q => absurd q hz⟩)
theorem zj_a172 {w w' : zz_W} {j : Int} (h : ∀ r ∈ zv_HR 172, zz_g w' r = zz_g w r ∨ ∃ q ∈ zv_AP 172, q.1 = r ∧ ∀ p : Int, 0 ≤ p → (q.2.1 : Int) * zv_dg q.2.2.1 j ≤ p → p < (q.2.1 : Int) * zv_dg q.2.2.2 j → zk_el w' r p = zk_el w r p) : zv_H 172 w' j = zv_H 172 w j := by
  show zh_b (zv_dg 1 j = 0 → ∀ u, 0 ≤ u → u < zv_dg 0 j → 1 ≤ zh_e w' 176 u → zj_nu (fun k => zh_e w' 208 (8000 * u + k)) (fun k => zh_e w' 209 (8000 * u + k)) (fun k => zh_e w' 210 (8000 * u + k)) (fun k => zh_e w' 211 (8000 * u + k)) (fun k => zh_e w' 212 (8000 * u + k)) (fun k => zh_e w' 214 (64 * u + k)) (fun k => zh_e w' 215 (64 * u + k)) (fun k => zh_e w' 204 (600 * u + k)) (fun k => zh_e w' 205 (600 * u + k)) (zh_e w' 207 u) (zh_e w' 213 u) (zh_e w' 203 u) (zv_dg 2 j)) = zh_b (zv_dg 1 j = 0 → ∀ u, 0 ≤ u → u < zv_dg 0 j → 1 ≤ zh_e w 176 u → zj_nu (fun k => zh_e w 208 (8000 * u + k)) (fun k => zh_e w 209 (8000 * u + k)) (fun k => zh_e w 210 (8000 * u + k)) (fun k => zh_e w 211 (8000 * u + k)) (fun k => zh_e w 212 (8000 * u + k)) (fun k => zh_e w 214 (64 * u + k)) (fun k => zh_e w 215 (64 * u + k)) (fun k => zh_e w 204 (600 * u + k)) (fun k => zh_e w 205 (600 * u + k)) (zh_e w 207 u) (zh_e w 213 u) (zh_e w 203 u) (zv_dg 2 j))
  by_cases hz : zv_dg 1 j = 0
  · have g := zj_ap (l := zv_AP 172) (R := zv_HR 172) (by decide) hz h
    have g1 : ∀ r, r = 176 ∨ r = 207 ∨ r = 213 ∨ r = 203 → ∀ p : Int, 0 ≤ p → p < zv_dg 0 j → zh_e w' r p = zh_e w r p := fun r hr p a b => g r (by rcases hr with e | e | e | e <;> rw [e] <;> decide) p a (by rcases hr with e | e | e | e <;> rw [e] <;> (show p < (1 : Int) * zv_dg 0 j; omega))
    have g2 : ∀ r, r = 208 ∨ r = 209 ∨ r = 210 ∨ r = 211 ∨ r = 212 → ∀ p : Int, 0 ≤ p → p < 8000 * zv_dg 0 j → zh_e w' r p = zh_e w r p := fun r hr p a b => g r (by rcases hr with e | e | e | e | e <;> rw [e] <;> decide) p a (by rcases hr with e | e | e | e | e <;> rw [e] <;> exact b)
    have g3 : ∀ r, r = 214 ∨ r = 215 → ∀ p : Int, 0 ≤ p → p < 64 * zv_dg 0 j → zh_e w' r p = zh_e w r p := fun r hr p a b => g r (by rcases hr with e | e <;> rw [e] <;> decide) p a (by rcases hr with e | e <;> rw [e] <;> exact b)
    have g4 : ∀ r, r = 204 ∨ r = 205 → ∀ p : Int, 0 ≤ p → p < 600 * zv_dg 0 j → zh_e w' r p = zh_e w r p := fun r hr p a b => g r (by rcases hr with e | e <;> rw [e] <;> decide) p a (by rcases hr with e | e <;> rw [e] <;> exact b)
    have key : ∀ {v v' : zz_W}, (∀ r, r = 176 ∨ r = 207 ∨ r = 213 ∨ r = 203 → ∀ p : Int, 0 ≤ p → p < zv_dg 0 j → zh_e v' r p = zh_e v r p) → (∀ r, r = 208 ∨ r = 209 ∨ r = 210 ∨ r = 211 ∨ r = 212 → ∀ p : Int, 0 ≤ p → p < 8000 * zv_dg 0 j → zh_e v' r p = zh_e v r p) → (∀ r, r = 214 ∨ r = 215 → ∀ p : Int, 0 ≤ p → p < 64 * zv_dg 0 j → zh_e v' r p = zh_e v r p) → (∀ r, r = 204 ∨ r = 205 → ∀ p : Int, 0 ≤ p → p < 600 * zv_dg 0 j → zh_e v' r p = zh_e v r p) → (∀ u, 0 ≤ u → u < zv_dg 0 j → 1 ≤ zh_e v 176 u → zj_nu (fun k => zh_e v 208 (8000 * u + k)) (fun k => zh_e v 209 (8000 * u + k)) (fun k => zh_e v 210 (8000 * u + k)) (fun k => zh_e v 211 (8000 * u + k)) (fun k => zh_e v 212 (8000 * u + k)) (fun k => zh_e v 214 (64 * u + k)) (fun k => zh_e v 215 (64 * u + k)) (fun k => zh_e v 204 (600 * u + k)) (fun k => zh_e v 205 (600 * u + k)) (zh_e v 207 u) (zh_e v 213 u) (zh_e v 203 u) (zv_dg 2 j)) → ∀ u, 0 ≤ u → u < zv_dg 0 j → 1 ≤ zh_e v' 176 u → zj_nu (fun k => zh_e v' 208 (8000 * u + k)) (fun k => zh_e v' 209 (8000 * u + k)) (fun k => zh_e v' 210 (8000 * u + k)) (fun k => zh_e v' 211 (8000 * u + k)) (fun k => zh_e v' 212 (8000 * u + k)) (fun k => zh_e v' 214 (64 * u + k)) (fun k => zh_e v' 215 (64 * u + k)) (fun k => zh_e v' 204 (600 * u + k)) (fun k => zh_e v' 205 (600 * u + k)) (zh_e v' 207 u) (zh_e v' 213 u) (zh_e v' 203 u) (zv_dg 2 j) := by
      intro v v' k1 k2 k3 k4 q u u0 u1 u2
      rw [k1 176 (Or.inl rfl) u u0 u1] at u2
      rw [k1 207 (Or.inr (Or.inl rfl)) u u0 u1, k1 213 (Or.inr (Or.inr (Or.inl rfl))) u u0 u1, k1 203 (Or.inr (Or.inr (Or.inr rfl))) u u0 u1]
      exact zj_nuc (Int.le_refl _) (fun k a b => k2 208 (Or.inl rfl) _ (by omega) (by omega)) (fun k a b => k2 209 (Or.inr (Or.inl rfl)) _ (by omega) (by omega)) (fun k a b => k2 210 (Or.inr (Or.inr (Or.inl rfl))) _ (by omega) (by omega)) (fun k a b => k2 211 (Or.inr (Or.inr (Or.inr (Or.inl rfl)))) _ (by omega) (by omega)) (fun k a b => k2 212 (Or.inr (Or.inr (Or.inr (Or.inr rfl)))) _ (by omega) (by omega)) (fun k a b => k3 214 (Or.inl rfl) _ (by omega) (by omega)) (fun k a b => k3 215 (Or.inr rfl) _ (by omega) (by omega)) (fun k a b => k4 204 (Or.inl rfl) _ (by omega) (by omega)) (fun k a b => k4 205 (Or.inr rfl) _ (by omega) (by omega)) (q u u0 u1 u2)
    refine congrArg zh_b (propext ⟨fun q _ => key (fun r hr p a b => (g1 r hr p a b).symm) (fun r hr p a b => (g2 r hr p a b).symm) (fun r hr p a b => (g3 r hr p a b).symm) (fun r hr p a b => (g4 r hr p a b).symm) (q hz), fun q _ => key g1 g2 g3 g4 (q hz)⟩)
  · exact congrArg zh_b (propext ⟨fun _ q => absurd q hz, fun _ q => absurd q hz⟩)
theorem zj_a178 {w w' : zz_W} {j : Int} (h : ∀ r ∈ zv_HR 178, zz_g w' r = zz_g w r ∨ ∃ q ∈ zv_AP 178, q.1 = r ∧ ∀ p : Int, 0 ≤ p → (q.2.1 : Int) * zv_dg q.2.2.1 j ≤ p → p < (q.2.1 : Int) * zv_dg q.2.2.2 j → zk_el w' r p = zk_el w r p) (h3 : 0 ≤ zv_dg 3 j) : zv_H 178 w' j = zv_H 178 w j := by
  show (if zv_dg 0 j = 0 then zc_bv (zc_r (zh_e w' 208) (zv_dg 3 j) (zv_dg 2 j - zv_dg 3 j).toNat) (zc_m (zh_e w' 254) (zv_dg 1 j).toNat) else 0) = if zv_dg 0 j = 0 then zc_bv (zc_r (zh_e w 208) (zv_dg 3 j) (zv_dg 2 j - zv_dg 3 j).toNat) (zc_m (zh_e w 254) (zv_dg 1 j).toNat) else 0
  by_cases hz : zv_dg 0 j = 0
  · rw [if_pos hz, if_pos hz]
    have g1 : ∀ p : Int, 0 ≤ p → p < zv_dg 1 j → zh_e w' 254 p = zh_e w 254 p := by
      intro p p0 p2
      rcases h 254 (by decide) with h | ⟨q, q1, q2, q3⟩
      · rw [zh_e_g h]
      · rcases List.mem_cons.mp q1 with e | e
        · rw [e] at q2
          exact absurd q2 (by decide)
        · rw [List.mem_singleton.mp e] at q3
          exact q3 p p0 (by show (1 : Int) * zv_dg 0 j ≤ p; omega) (by show p < (1 : Int) * zv_dg 1 j; omega)
    have g2 : ∀ p : Int, 0 ≤ p → zv_dg 3 j ≤ p → p < zv_dg 2 j → zh_e w' 208 p = zh_e w 208 p := by
      intro p p0 p1 p2
      rcases h 208 (by decide) with h | ⟨q, q1, q2, q3⟩
      · rw [zh_e_g h]
      · rcases List.mem_cons.mp q1 with e | e
        · rw [e] at q3
          exact q3 p p0 (by show (1 : Int) * zv_dg 3 j ≤ p; omega) (by show p < (1 : Int) * zv_dg 2 j; omega)
        · rw [List.mem_singleton.mp e] at q2
          exact absurd q2 (by decide)
    rw [zc_me (g := zh_e w 254) (fun i i0 i1 => g1 i i0 (by omega)), zc_re (f := zh_e w 208) (fun i i0 i1 => g2 _ (by omega) (by omega) (by omega))]
  · rw [if_neg hz, if_neg hz]
theorem zj_a182 {w w' : zz_W} {j : Int} (h : ∀ r ∈ zv_HR 182, zz_g w' r = zz_g w r ∨ ∃ q ∈ zv_AP 182, q.1 = r ∧ ∀ p : Int, 0 ≤ p → (q.2.1 : Int) * zv_dg q.2.2.1 j ≤ p → p < (q.2.1 : Int) * zv_dg q.2.2.2 j → zk_el w' r p = zk_el w r p) : zv_H 182 w' j = zv_H 182 w j := by
  show zh_b (zv_dg 1 j = 0 → ∀ u, 0 ≤ u → u < zv_dg 0 j → 1 ≤ zh_e w' 176 u → ∀ k, 0 ≤ k → k < zh_e w' 207 u → k < 8000 → zj_nm (zh_e w' 208 (8000 * u + k)) → 0 ≤ zh_e w' 209 (8000 * u + k) ∧ zh_e w' 209 (8000 * u + k) ≤ 65535) = zh_b (zv_dg 1 j = 0 → ∀ u, 0 ≤ u → u < zv_dg 0 j → 1 ≤ zh_e w 176 u → ∀ k, 0 ≤ k → k < zh_e w 207 u → k < 8000 → zj_nm (zh_e w 208 (8000 * u + k)) → 0 ≤ zh_e w 209 (8000 * u + k) ∧ zh_e w 209 (8000 * u + k) ≤ 65535)
  by_cases hz : zv_dg 1 j = 0
  · have g := zj_ap (l := zv_AP 182) (R := zv_HR 182) (by decide) hz h
    have g1 : ∀ r, r = 176 ∨ r = 207 → ∀ p : Int, 0 ≤ p → p < zv_dg 0 j → zh_e w' r p = zh_e w r p := fun r hr p a b => g r (by rcases hr with e | e <;> rw [e] <;> decide) p a (by rcases hr with e | e <;> rw [e] <;> (show p < (1 : Int) * zv_dg 0 j; omega))
    have g2 : ∀ r, r = 208 ∨ r = 209 → ∀ p : Int, 0 ≤ p → p < 8000 * zv_dg 0 j → zh_e w' r p = zh_e w r p := fun r hr p a b => g r (by rcases hr with e | e <;> rw [e] <;> decide) p a (by rcases hr with e | e <;> rw [e] <;> exact b)
    refine congrArg zh_b (propext ⟨fun q _ u u0 u1 u2 k k0 k1 k2 k3 => ?_, fun q _ u u0 u1 u2 k k0 k1 k2 k3 => ?_⟩)
    · have e1 := g2 208 (Or.inl rfl) (8000 * u + k) (by omega) (by omega)
      have e2 := g2 209 (Or.inr rfl) (8000 * u + k) (by omega) (by omega)
      have r := q hz u u0 u1 (by rw [g1 176 (Or.inl rfl) u u0 u1]; exact u2) k k0 (by rw [g1 207 (Or.inr rfl) u u0 u1]; exact k1) k2 (by rw [e1]; exact k3)
      rw [e2] at r
      exact r
    · have e1 := g2 208 (Or.inl rfl) (8000 * u + k) (by omega) (by omega)
      have e2 := g2 209 (Or.inr rfl) (8000 * u + k) (by omega) (by omega)
      rw [g1 176 (Or.inl rfl) u u0 u1] at u2
      rw [g1 207 (Or.inr rfl) u u0 u1] at k1
      rw [e1] at k3
      rw [e2]
      exact q hz u u0 u1 u2 k k0 k1 k2 k3
  · exact congrArg zh_b (propext ⟨fun _ q => absurd q hz, fun _ q => absurd q hz⟩)
theorem zj_a176 {w w' : zz_W} {j : Int} (h : ∀ r ∈ zv_HR 176, zz_g w' r = zz_g w r ∨ ∃ q ∈ zv_AP 176, q.1 = r ∧ ∀ p : Int, 0 ≤ p → (q.2.1 : Int) * zv_dg q.2.2.1 j ≤ p → p < (q.2.1 : Int) * zv_dg q.2.2.2 j → zk_el w' r p = zk_el w r p) : zv_H 176 w' j = zv_H 176 w j := by
  show zh_b (zv_dg 1 j = 0 → ∀ u, 0 ≤ u → u < zv_dg 0 j → 1 ≤ zh_e w' 176 u → zj_sh (zh_e w' 208) (8000 * u) (fun m => zh_e w' 215 (64 * u + m)) (fun m => zh_e w' 216 (64 * u + m)) (fun m => zh_e w' 217 (64 * u + m)) (zh_e w' 207 u) (zh_e w' 213 u)) = zh_b (zv_dg 1 j = 0 → ∀ u, 0 ≤ u → u < zv_dg 0 j → 1 ≤ zh_e w 176 u → zj_sh (zh_e w 208) (8000 * u) (fun m => zh_e w 215 (64 * u + m)) (fun m => zh_e w 216 (64 * u + m)) (fun m => zh_e w 217 (64 * u + m)) (zh_e w 207 u) (zh_e w 213 u))
  by_cases hz : zv_dg 1 j = 0
  · have g := zj_ap (l := zv_AP 176) (R := zv_HR 176) (by decide) hz h
    have g1 : ∀ r, r = 176 ∨ r = 207 ∨ r = 213 → ∀ p : Int, 0 ≤ p → p < zv_dg 0 j → zh_e w' r p = zh_e w r p := fun r hr p a b => g r (by rcases hr with e | e | e <;> rw [e] <;> decide) p a (by rcases hr with e | e | e <;> rw [e] <;> (show p < (1 : Int) * zv_dg 0 j; omega))
    have g2 : ∀ p : Int, 0 ≤ p → p < 8000 * zv_dg 0 j → zh_e w' 208 p = zh_e w 208 p := fun p a b => g 208 (by decide) p a b
    have g3 : ∀ r, r = 215 ∨ r = 216 ∨ r = 217 → ∀ p : Int, 0 ≤ p → p < 64 * zv_dg 0 j → zh_e w' r p = zh_e w r p := fun r hr p a b => g r (by rcases hr with e | e | e <;> rw [e] <;> decide) p a (by rcases hr with e | e | e <;> rw [e] <;> exact b)
    have key : ∀ {v v' : zz_W}, (∀ r, r = 176 ∨ r = 207 ∨ r = 213 → ∀ p : Int, 0 ≤ p → p < zv_dg 0 j → zh_e v' r p = zh_e v r p) → (∀ p : Int, 0 ≤ p → p < 8000 * zv_dg 0 j → zh_e v' 208 p = zh_e v 208 p) → (∀ r, r = 215 ∨ r = 216 ∨ r = 217 → ∀ p : Int, 0 ≤ p → p < 64 * zv_dg 0 j → zh_e v' r p = zh_e v r p) → (∀ u, 0 ≤ u → u < zv_dg 0 j → 1 ≤ zh_e v 176 u → zj_sh (zh_e v 208) (8000 * u) (fun m => zh_e v 215 (64 * u + m)) (fun m => zh_e v 216 (64 * u + m)) (fun m => zh_e v 217 (64 * u + m)) (zh_e v 207 u) (zh_e v 213 u)) → ∀ u, 0 ≤ u → u < zv_dg 0 j → 1 ≤ zh_e v' 176 u → zj_sh (zh_e v' 208) (8000 * u) (fun m => zh_e v' 215 (64 * u + m)) (fun m => zh_e v' 216 (64 * u + m)) (fun m => zh_e v' 217 (64 * u + m)) (zh_e v' 207 u) (zh_e v' 213 u) := by
      intro v v' k1 k2 k3 q u u0 u1 u2
      rw [k1 176 (Or.inl rfl) u u0 u1] at u2
      rw [k1 207 (Or.inr (Or.inl rfl)) u u0 u1, k1 213 (Or.inr (Or.inr rfl)) u u0 u1]
      exact zj_shc (fun k a b => k2 _ (by omega) (by omega)) (fun k a b => k3 215 (Or.inl rfl) _ (by omega) (by omega)) (fun k a b => k3 216 (Or.inr (Or.inl rfl)) _ (by omega) (by omega)) (fun k a b => k3 217 (Or.inr (Or.inr rfl)) _ (by omega) (by omega)) (q u u0 u1 u2)
    refine congrArg zh_b (propext ⟨fun q _ => key (fun r hr p a b => (g1 r hr p a b).symm) (fun p a b => (g2 p a b).symm) (fun r hr p a b => (g3 r hr p a b).symm) (q hz), fun q _ => key g1 g2 g3 (q hz)⟩)
  · exact congrArg zh_b (propext ⟨fun _ q => absurd q hz, fun _ q => absurd q hz⟩)
theorem zv_AP_ok {t : Nat} {w w' : zz_W} {j : Int} (h : ∀ r ∈ zv_HR t, zz_g w' r = zz_g w r ∨ ∃ q ∈ zv_AP t, q.1 = r ∧ ∀ p : Int, 0 ≤ p → (q.2.1 : Int) * zv_dg q.2.2.1 j ≤ p → p < (q.2.1 : Int) * zv_dg q.2.2.2 j → zk_el w' r p = zk_el w r p) : zv_H t w' j = zv_H t w j := by
  cases hb : (Nat.ble 31 t && Nat.ble t 36) with
  | false =>
    cases hb2 : Nat.beq t 72 with
    | false =>
      cases hb3 : Nat.beq t 169 with
      | true =>
        have e := zz_beq hb3
        subst e
        exact zj_a169 h
      | false =>
      cases hb4 : Nat.beq t 172 with
      | true =>
        have e := zz_beq hb4
        subst e
        exact zj_a172 h
      | false =>
      cases hb5 : Nat.beq t 176 with
      | true =>
        have e := zz_beq hb5
        subst e
        exact zj_a176 h
      | false =>
      cases hb6 : Nat.beq t 182 with
      | true =>
        have e := zz_beq hb6
        subst e
        exact zj_a182 h
      | false =>
      cases hb7 : Nat.beq t 178 with
      | true =>
        have e := zz_beq hb7
        subst e
        exact zj_a178 h (by show 0 ≤ j / 4294967296 / 4294967296 / 4294967296 % 4294967296; omega)
      | false =>
      refine zv_H_g (fun r hr => ?_)
      rcases h r hr with h | ⟨q, q1, -⟩
      · exact h
      · unfold zv_AP at q1
        rw [hb, hb2, hb3, hb4, hb5, hb6, hb7] at q1
        exact absurd q1 List.not_mem_nil
    | true =>
      have e := zz_beq hb2
      subst e
      have g : ∀ r, (r = 229 ∨ r = 230) → ∀ p : Int, 0 ≤ p → zv_dg 3 j ≤ p → p < zv_dg 2 j → zh_e w' r p = zh_e w r p := by
        intro r hr p p0 p1 p2
        have hm : r ∈ zv_HR 72 := by
          rcases hr with e | e
          · rw [e]
            exact List.mem_cons_self
          · rw [e]
            exact List.mem_cons_of_mem _ List.mem_cons_self
        rcases h r hm with h | ⟨q, q1, q2, q3⟩
        · rw [zh_e_g h]
        · rcases List.mem_cons.mp (show q ∈ [(229, 1, 3, 2), (230, 1, 3, 2)] from q1) with e | q1
          · subst e
            exact q3 p p0 (by show (1 : Int) * zv_dg 3 j ≤ p; omega) (by show p < (1 : Int) * zv_dg 2 j; omega)
          · have e := List.mem_singleton.mp q1
            subst e
            exact q3 p p0 (by show (1 : Int) * zv_dg 3 j ≤ p; omega) (by show p < (1 : Int) * zv_dg 2 j; omega)
      show zh_b (zs_u (zh_e w' 229) (zh_e w' 230) (zv_dg 3 j) (zv_dg 2 j) (zv_dg 0 j - 1) (zv_dg 1 j)) = zh_b (zs_u (zh_e w 229) (zh_e w 230) (zv_dg 3 j) (zv_dg 2 j) (zv_dg 0 j - 1) (zv_dg 1 j))
      refine congrArg zh_b (propext ⟨fun ⟨i, i0, i1, i2, e1, e2⟩ => ⟨i, i0, i1, i2, ?_, ?_⟩, fun ⟨i, i0, i1, i2, e1, e2⟩ => ⟨i, i0, i1, i2, ?_, ?_⟩⟩)
      · rw [← g 229 (Or.inl rfl) i i0 i1 i2]
        exact e1
      · rw [← g 230 (Or.inr rfl) i i0 i1 i2]
        exact e2
      · rw [g 229 (Or.inl rfl) i i0 i1 i2]
        exact e1
      · rw [g 230 (Or.inr rfl) i i0 i1 i2]
        exact e2
  | true =>
    obtain ⟨b1, b2⟩ := zz_and hb
    have b1 := zz_ble b1
    have b2 := zz_ble b2
    have key : ∀ (k r : Nat), t = 31 + k → r = 61 + 17 * k → r ≠ 20 → r ≠ 22 → zv_HR t = [r, 20, 22] → (∀ v, zv_H t v j = zh_b (zg_sg (zh_e v r) (zh_e v 20) (zh_e v 22) j)) → zv_H t w' j = zv_H t w j := by
      intro k r hk hr n1 n2 hR hH
      have hA : zv_AP t = [(r, 2, 0, 1), (20, 6, 3, 4), (22, 1, 5, 6)] := by
        unfold zv_AP
        rw [hb, zv_cT, show 61 + 17 * (t - 31) = r by omega]
      rw [hR] at h
      rw [hA] at h
      rw [hH, hH]
      have m1 := h r List.mem_cons_self
      have m2 := h 20 (List.mem_cons_of_mem _ List.mem_cons_self)
      have m3 := h 22 (List.mem_cons_of_mem _ (List.mem_cons_of_mem _ List.mem_cons_self))
      refine zv_AP_sg ?_ ?_ ?_
      · rcases m1 with m | ⟨q, q1, q2, q3⟩
        · exact Or.inl m
        · rcases List.mem_cons.mp q1 with e | q1
          · subst e
            exact Or.inr q3
          · rcases List.mem_cons.mp q1 with e | q1
            · subst e
              exact absurd q2 (by show ¬ (20 = r); omega)
            · have e := List.mem_singleton.mp q1
              subst e
              exact absurd q2 (by show ¬ (22 = r); omega)
      · rcases m2 with m | ⟨q, q1, q2, q3⟩
        · exact Or.inl m
        · rcases List.mem_cons.mp q1 with e | q1
          · subst e
            exact absurd q2 (by show ¬ (r = 20); omega)
          · rcases List.mem_cons.mp q1 with e | q1
            · subst e
              exact Or.inr q3
            · have e := List.mem_singleton.mp q1
              subst e
              exact absurd q2 (by show ¬ (22 = 20); omega)
      · rcases m3 with m | ⟨q, q1, q2, q3⟩
        · exact Or.inl m
        · rcases List.mem_cons.mp q1 with e | q1
          · subst e
            exact absurd q2 (by show ¬ (r = 22); omega)
          · rcases List.mem_cons.mp q1 with e | q1
            · subst e
              exact absurd q2 (by show ¬ (20 = 22); omega)
            · have e := List.mem_singleton.mp q1
              subst e
              exact Or.inr (fun p a b c => q3 p a (by show (1 : Int) * zv_dg 5 j ≤ p; omega) (by show p < (1 : Int) * zv_dg 6 j; omega))
    rcases (show t = 31 ∨ t = 32 ∨ t = 33 ∨ t = 34 ∨ t = 35 ∨ t = 36 by omega) with e | e | e | e | e | e
    · exact key 0 61 e rfl (by decide) (by decide) (by rw [e]; rfl) (fun v => by rw [e]; rfl)
    · exact key 1 78 e rfl (by decide) (by decide) (by rw [e]; rfl) (fun v => by rw [e]; rfl)
    · exact key 2 95 e rfl (by decide) (by decide) (by rw [e]; rfl) (fun v => by rw [e]; rfl)
    · exact key 3 112 e rfl (by decide) (by decide) (by rw [e]; rfl) (fun v => by rw [e]; rfl)
    · exact key 4 129 e rfl (by decide) (by decide) (by rw [e]; rfl) (fun v => by rw [e]; rfl)
    · exact key 5 146 e rfl (by decide) (by decide) (by rw [e]; rfl) (fun v => by rw [e]; rfl)
end
end
section
/-! VIRTUAL ROWS: row 1000000 + t at a place says a sum over the places ahead of it. A place is coded: place + 1048576 * parameter -/
noncomputable section
def zv_ca (u : Nat → Int) : List (List zl_E × zl_E) → Int
  | [] => 0
  | q :: r => cond (q.1.all (fun c => decide (0 ≤ zl_ev u c))) (zl_ev u q.2) (zv_ca u r)
def zv_al (w : zz_W) (rows : List Nat) (n : Int) (j : Nat) : List Int := (j : Int) :: (rows.map (fun r => zk_el w r (j : Int)) ++ [n])
def zv_F (p : zv_Sp) (w : zz_W) (n : Int) : Nat → Int
  | 0 => 0
  | j + 1 => zv_F p w n j + zv_ca (fun m => (zv_al w p.1 n j).getD m 0) p.2
/-- the rows that it speaks of -/
def zk_rws (i : Nat) : List Nat := cond (Nat.blt i 1000000) [i] (cond (Nat.blt i 2000000) (zv_T (i - 1000000)).1 (zv_HR (i - 2000000)))
/-- below 1000000 rows, below 2000000 virtual ones, then functions by hand -/
def zk_xe (w : zz_W) (i : Nat) (j : Int) : Int := cond (Nat.blt i 1000000) (zk_el w i j) (cond (Nat.blt i 2000000) (zv_F (zv_T (i - 1000000)) w (j / 1048576) (j % 1048576).toNat) (zv_H (i - 2000000) w j))
theorem zk_xe_r {w : zz_W} {i : Nat} {j : Int} (h : Nat.blt i 1000000 = true) : zk_xe w i j = zk_el w i j := by
  unfold zk_xe
  rw [h]
  rfl
theorem zv_F_eq {p : zv_Sp} {w w' : zz_W} {n : Int} : ∀ {m : Nat}, (∀ r ∈ p.1, ∀ j : Nat, j < m → zk_el w' r (j : Int) = zk_el w r (j : Int)) → zv_F p w' n m = zv_F p w n m
  | 0, _ => rfl
  | m + 1, h => by
    have e : zv_al w' p.1 n m = zv_al w p.1 n m := by
      unfold zv_al
      rw [List.map_congr_left (fun r hr => h r hr m (Nat.lt_succ_self m))]
    show zv_F p w' n m + zv_ca (fun k => (zv_al w' p.1 n m).getD k 0) p.2 = zv_F p w n m + zv_ca (fun k => (zv_al w p.1 n m).getD k 0) p.2
    rw [zv_F_eq (fun r hr j hj => h r hr j (Nat.lt_succ_of_lt hj)), e]
theorem zk_cF {α : Type} {b : Bool} (h : b = false) {x y : α} : cond b x y = y := by
  cases h
  rfl
theorem zk_cT {α : Type} {b : Bool} (h : b = true) {x y : α} : cond b x y = x := by
  cases h
  rfl
theorem zk_xe_i2 {w : zz_W} {i : Nat} {j : Int} (h1 : Nat.blt i 1000000 = false) (h2 : Nat.blt i 2000000 = true) : zk_xe w i j = zv_F (zv_T (i - 1000000)) w (j / 1048576) (j % 1048576).toNat := by
  unfold zk_xe
  rw [zk_cF h1, zk_cT h2]
theorem zk_xe_i3 {w : zz_W} {i : Nat} {j : Int} (h1 : Nat.blt i 1000000 = false) (h2 : Nat.blt i 2000000 = false) : zk_xe w i j = zv_H (i - 2000000) w j := by
  unfold zk_xe
  rw [zk_cF h1, zk_cF h2]
theorem zk_rws_i2 {i : Nat} (h1 : Nat.blt i 1000000 = false) (h2 : Nat.blt i 2000000 = true) : zk_rws i = (zv_T (i - 1000000)).1 := by
  unfold zk_rws
  rw [zk_cF h1, zk_cT h2]
theorem zk_rws_i3 {i : Nat} (h1 : Nat.blt i 1000000 = false) (h2 : Nat.blt i 2000000 = false) : zk_rws i = zv_HR (i - 2000000) := by
  unfold zk_rws
  rw [zk_cF h1, zk_cF h2]
theorem zk_rws_i1 {i : Nat} (h1 : Nat.blt i 1000000 = true) : zk_rws i = [i] := by
  unfold zk_rws
  rw [zk_cT h1]
theorem zk_xe_g {w w' : zz_W} {i : Nat} {j : Int} (h : ∀ r ∈ zk_rws i, zz_g w' r = zz_g w r) : zk_xe w' i j = zk_xe w i j := by
  cases hb : Nat.blt i 1000000 with
  | true =>
    rw [zk_xe_r hb, zk_xe_r hb]
    unfold zk_el
    rw [h i (by rw [zk_rws_i1 hb]; exact List.mem_cons_self)]
  | false =>
    cases h2 : Nat.blt i 2000000 with
    | true =>
      rw [zk_xe_i2 hb h2, zk_xe_i2 hb h2]
      exact zv_F_eq (fun r hr k _ => by
        unfold zk_el
        rw [h r (by rw [zk_rws_i2 hb h2]; exact hr)])
    | false =>
      rw [zk_xe_i3 hb h2, zk_xe_i3 hb h2]
      exact zv_H_g (fun r hr => h r (by rw [zk_rws_i3 hb h2]; exact hr))
/-- what stands ahead of the place that is written stays -/
theorem zk_xe_p {w w' : zz_W} {i a : Nat} {j j0 : Int} (hw : zk_rR a j0 w w') (hi : Nat.blt i 1000000 = false ∧ Nat.blt i 2000000 = true) (hj : j % 1048576 ≤ j0) : zk_xe w' i j = zk_xe w i j := by
  rw [zk_xe_i2 hi.1 hi.2, zk_xe_i2 hi.1 hi.2]
  refine zv_F_eq (fun r _ k hk => ?_)
  by_cases hr : r = a
  · subst hr
    refine hw.2 (k : Int) (Int.natCast_nonneg k) (fun e => ?_)
    have := Int.emod_nonneg j (show (1048576 : Int) ≠ 0 by decide)
    omega
  · unfold zk_el
    rw [hw.1 r hr]
/-- the coded place -/
theorem zv_code {j e n : Int} (h : j = e + 1048576 * n) (h1 : 0 ≤ e) (h2 : e < 1048576) : j / 1048576 = n ∧ j % 1048576 = e := by
  omega
theorem zk_xe_v {w : zz_W} {t : Nat} {j e n : Int} (ht : t < 1000000) (h : j = e + 1048576 * n) (h1 : 0 ≤ e) (h2 : e < 1048576) : zk_xe w (1000000 + t) j = zv_F (zv_T t) w n e.toNat := by
  obtain ⟨a, b⟩ := zv_code h h1 h2
  rw [zk_xe_i2 (by
    cases hb : Nat.blt (1000000 + t) 1000000 with
    | true => exact absurd (zz_blt hb) (by omega)
    | false => rfl) (show Nat.blt (1000000 + t) 2000000 = true from Nat.ble_eq.mpr (by omega)), a, b, Nat.add_sub_cancel_left]
theorem zk_xe_h {w : zz_W} {t : Nat} {j : Int} : zk_xe w (2000000 + t) j = zv_H t w j := by
  rw [zk_xe_i3 (by
    cases hb : Nat.blt (2000000 + t) 1000000 with
    | true => exact absurd (zz_blt hb) (by omega)
    | false => rfl) (by
    cases hb : Nat.blt (2000000 + t) 2000000 with
    | true => exact absurd (zz_blt hb) (by omega)
    | false => rfl), Nat.add_sub_cancel_left]
/-- which case it is -/
def zv_cs (B : List (Int × Int)) (C t : List zl_E) : List (List zl_E × zl_E) → List (List Nat) → Nat → Option zl_E
  | [], _, _ => some (zl_con 0)
  | q :: _, hs, 0 => cond (Nat.ble (zl_mx q.2.2) t.length && zk_ens B C t q.1 hs) (some (zl_subst t q.2)) none
  | q :: r, hs, k + 1 => match q.1[(hs.headD []).headD 0]? with
    | some c => cond (Nat.ble (zl_mx c.2) t.length && zl_en B C (hs.headD []).tail (zl_sub (zl_con (-1)) (zl_subst t c))) (zv_cs B C t r hs.tail k) none
    | none => none
theorem zv_cs_ok {s : Nat → Int} {B : List (Int × Int)} {C t : List zl_E} (hB : zl_in s B) (hC : zk_cs s C) : ∀ {cs : List (List zl_E × zl_E)} {hs : List (List Nat)} {k : Nat} {v : zl_E}, zv_cs B C t cs hs k = some v → zl_ev s v = zv_ca (zk_u s t) cs
  | [], _, _, v, h => by
    cases h
    rw [zl_con_ev]
    rfl
  | q :: r, hs, 0, v, h => by
    unfold zv_cs at h
    obtain ⟨hb, h⟩ := zz_cond h
    cases h
    obtain ⟨b1, b2⟩ := zz_and hb
    have h1 := zk_ens_ok hB hC b2
    unfold zv_ca
    rw [show q.1.all (fun c => decide (0 ≤ zl_ev (zk_u s t) c)) = true from List.all_eq_true.mpr (fun c hc => decide_eq_true (h1 c hc))]
    exact zl_subst_ev (zz_ble b1) zk_u_at
  | q :: r, hs, k + 1, v, h => by
    unfold zv_cs at h
    split at h
    · rename_i c hc
      obtain ⟨hb, h⟩ := zz_cond h
      obtain ⟨b1, b2⟩ := zz_and hb
      have h1 := zl_en_ok hB hC b2
      rw [zl_sub_ev, zl_con_ev, zl_subst_ev (u := zk_u s t) (zz_ble b1) zk_u_at] at h1
      unfold zv_ca
      rw [show q.1.all (fun c => decide (0 ≤ zl_ev (zk_u s t) c)) = false from by
        cases ha : q.1.all (fun c => decide (0 ≤ zl_ev (zk_u s t) c)) with
        | false => rfl
        | true =>
          have := of_decide_eq_true (List.all_eq_true.mp ha c (List.mem_of_getElem? hc))
          omega]
      exact zv_cs_ok hB hC h
    · cases h
/-- bounds of the values, where they are numbers -/
def zv_bd (lo hi : Int) (cs : List (List zl_E × zl_E)) : Bool := (decide (lo ≤ 0) && decide (0 ≤ hi)) && cs.all (fun q => Nat.beq (zl_mx q.2.2) 0 && (decide (lo ≤ zl_nv q.2.1) && decide (zl_nv q.2.1 ≤ hi)))
theorem zl_ev_con {s : Nat → Int} : ∀ {e : zl_E}, zl_mx e.2 = 0 → zl_ev s e = zl_nv e.1
  | (a, []), _ => by
    show zl_nv a + 0 = zl_nv a
    omega
  | (a, q :: l), h => by
    have := zl_mx_lt (l := q :: l) (q := q) List.mem_cons_self
    have h : zl_mx (q :: l) = 0 := h
    omega
theorem zv_and {a b : Bool} (h1 : a = true) (h2 : b = true) : (a && b) = true := by
  subst h1
  subst h2
  rfl
theorem zv_bd_ok {lo hi : Int} {u : Nat → Int} : ∀ {cs : List (List zl_E × zl_E)}, zv_bd lo hi cs = true → lo ≤ zv_ca u cs ∧ zv_ca u cs ≤ hi
  | [], h => by
    obtain ⟨h, -⟩ := zz_and h
    obtain ⟨h1, h2⟩ := zz_and h
    exact ⟨of_decide_eq_true h1, of_decide_eq_true h2⟩
  | q :: r, h => by
    obtain ⟨h0, h⟩ := zz_and h
    rw [List.all_cons] at h
    obtain ⟨h1, h2⟩ := zz_and h
    obtain ⟨h3, h4⟩ := zz_and h1
    obtain ⟨h5, h6⟩ := zz_and h4
    have ih := zv_bd_ok (u := u) (cs := r) (zv_and h0 h2)
    unfold zv_ca
    cases q.1.all (fun c => decide (0 ≤ zl_ev u c)) with
    | true =>
      show lo ≤ zl_ev u q.2 ∧ zl_ev u q.2 ≤ hi
      rw [zl_ev_con (zz_beq h3)]
      exact ⟨of_decide_eq_true h5, of_decide_eq_true h6⟩
    | false => exact ih
theorem zv_F_bd {p : zv_Sp} {w : zz_W} {n lo hi : Int} (h : zv_bd lo hi p.2 = true) {a : Nat} : ∀ d : Nat, lo * (d : Int) ≤ zv_F p w n (a + d) - zv_F p w n a ∧ zv_F p w n (a + d) - zv_F p w n a ≤ hi * (d : Int)
  | 0 => by
    show lo * 0 ≤ zv_F p w n a - zv_F p w n a ∧ zv_F p w n a - zv_F p w n a ≤ hi * 0
    rw [Int.mul_zero, Int.mul_zero]
    omega
  | d + 1 => by
    have ih := zv_F_bd (w := w) (n := n) h (a := a) d
    have h1 := zv_bd_ok (u := fun m => (zv_al w p.1 n (a + d)).getD m 0) h
    have h2 : zv_F p w n (a + (d + 1)) = zv_F p w n (a + d) + zv_ca (fun m => (zv_al w p.1 n (a + d)).getD m 0) p.2 := rfl
    rw [h2, show ((d + 1 : Nat) : Int) = (d : Int) + 1 from rfl, Int.mul_add, Int.mul_add, Int.mul_one, Int.mul_one]
    omega
end
end
section
/-! STATES: abstract frames, elements of rows that are known, and laws of the world that hold (tokens) -/
noncomputable section
/-- an element that is known: row, place, value -/
abbrev zk_E1 : Type := Nat × zl_E × zl_E
abbrev zk_St : Type := zk_A × List zk_E1 × List Nat
def zk_eF (s : Nat → Int) (E : List zk_E1) (w : zz_W) : Prop := ∀ x ∈ E, 0 ≤ zl_ev s x.2.1 ∧ zk_xe w x.1 (zl_ev s x.2.1) = zl_ev s x.2.2
def zk_eW (HT : List (List zk_H)) (n : Nat) (E : List zk_E1) : Bool := E.all (fun x => (zk_rws x.1).all (fun r => Nat.blt (zk_h HT r).1 3) && (Nat.ble (zl_mx x.2.1.2) n && Nat.ble (zl_mx x.2.2.2) n))
theorem zk_eW_eq {HT : List (List zk_H)} {n : Nat} {E : List zk_E1} {s t : Nat → Int} {w : zz_W} (h : zk_eW HT n E = true) (hs : ∀ j, j < n → t j = s j) (hE : zk_eF s E w) : zk_eF t E w := by
  intro x hx
  have h1 := List.all_eq_true.mp h x hx
  obtain ⟨-, h2⟩ := zz_and h1
  obtain ⟨h3, h4⟩ := zz_and h2
  have e1 : zl_ev t x.2.1 = zl_ev s x.2.1 := zl_ev_eq (n := n) (zz_ble h3) hs
  have e2 : zl_ev t x.2.2 = zl_ev s x.2.2 := zl_ev_eq (n := n) (zz_ble h4) hs
  have := hE x hx
  rw [e1, e2]
  exact this
theorem zk_eW_row {HT : List (List zk_H)} {n : Nat} {E : List zk_E1} (h : zk_eW HT n E = true) : ∀ x ∈ E, ∀ r ∈ zk_rws x.1, (zk_h HT r).1 < 3 := by
  intro x hx r hr
  exact zz_blt (List.all_eq_true.mp (zz_and (List.all_eq_true.mp h x hx)).1 r hr)
/-- what a state says of a frame -/
def zk_G2 (PT : Nat → zz_W → Prop) (I : zz_W → Prop) (s : Nat → Int) (X : zk_St) (f : zz_F) : Prop := zk_G I s X.1 f ∧ zk_eF s X.2.1 f.2.2.2 ∧ ∀ t ∈ X.2.2, PT t f.2.2.2
/-- an instruction takes a frame of X to one of the states R -/
def zk_R2 (PT : Nat → zz_W → Prop) (c : Nat) (HT : List (List zk_H)) (M : zk_M) (w0 : zk_W0) (act : zz_A) (X : zk_St) (R : List (Nat × zk_St)) : Prop :=
  ∀ (K : zz_K) (s : Nat → Int) (f : zz_F), zk_pv s M.2 w0.2 → zk_G2 PT (zk_J c HT M w0) s X f → ∃ (s' : Nat → Int) (f' : zz_F) (q : Nat × zk_St), act K f = some f' ∧ q ∈ R ∧ f'.1 = q.1 ∧ zk_G2 PT (zk_J c HT M w0) s' q.2 f' ∧ X.1.2.2.2.1.length ≤ q.2.1.2.2.2.1.length ∧ ∀ j, j < X.1.2.2.2.1.length → s' j = s j
/-- instructions that leave the world as it is -/
def zk_pu (HT : List (List zk_H)) (X : zk_St) (o : Option (List (Nat × zk_A))) : Option (List (Nat × zk_St)) := match o with
  | some R => cond (zk_eW HT X.1.2.2.2.1.length X.2.1) (some (R.map (fun q => (q.1, q.2, X.2.1, X.2.2)))) none
  | none => none
theorem zk_pu_ok {c : Nat} {HT : List (List zk_H)} {M : zk_M} {w0 : zk_W0} {PT : Nat → zz_W → Prop} {act : zz_A} {X : zk_St} {o : Option (List (Nat × zk_A))} {R : List (Nat × zk_St)} (h : zk_pu HT X o = some R) (hk : ∀ (I : zz_W → Prop), (∀ w, I w → zk_I c HT w) → ∀ R', o = some R' → zk_R I act X.1 R') : zk_R2 PT c HT M w0 act X R := by
  obtain ⟨A, E, T⟩ := X
  unfold zk_pu at h
  split at h
  · rename_i R'
    obtain ⟨hw, h⟩ := zz_cond h
    cases h
    intro K s f hpv hG
    obtain ⟨g1, g2, g3⟩ := hG
    have g1 : zk_G (zk_J c HT M w0) s A f := g1
    obtain ⟨a1, a2, a3, a4, a5, a6⟩ := g1
    have hr := hk (fun w => zk_J c HT M w0 w ∧ (zk_eF s E w ∧ ∀ t ∈ T, PT t w)) (fun w hw => hw.1.1) R' rfl
    obtain ⟨s', f', q, m1, m2, m3, m4, m5, m6⟩ := hr K s f ⟨a1, a2, a3, a4, a5, a6, g2, g3⟩
    obtain ⟨b1, b2, b3, b4, b5, b6, b7, b8⟩ := m4
    exact ⟨s', f', (q.1, q.2, E, T), m1, List.mem_map.mpr ⟨q, m2, rfl⟩, m3, ⟨⟨b1, b2, b3, b4, b5, b6⟩, zk_eW_eq hw m6 b7, b8⟩, m5, m6⟩
  · cases h
/-- the element, if it is known -/
def zk_ek (E : List zk_E1) (i : Nat) (e : zl_E) : Option zl_E := match E with
  | [] => none
  | x :: r => cond (Nat.beq x.1 i && zl_nul (zl_sub x.2.1 e)) (some x.2.2) (zk_ek r i e)
theorem zk_ek_ok {s : Nat → Int} {w : zz_W} {i : Nat} {e v : zl_E} : ∀ {E : List zk_E1}, zk_ek E i e = some v → zk_eF s E w → 0 ≤ zl_ev s e ∧ zk_xe w i (zl_ev s e) = zl_ev s v
  | [], h, _ => by cases h
  | x :: r, h, hE => by
    unfold zk_ek at h
    cases hb : (Nat.beq x.1 i && zl_nul (zl_sub x.2.1 e)) with
    | true =>
      rw [hb] at h
      have h : x.2.2 = v := Option.some.inj h
      obtain ⟨b1, b2⟩ := zz_and hb
      have h1 := zl_nul_ok (s := s) b2
      rw [zl_sub_ev] at h1
      have h2 := hE x List.mem_cons_self
      have h3 : zl_ev s x.2.1 = zl_ev s e := by omega
      rw [zz_beq b1, h, h3] at h2
      exact h2
    | false =>
      rw [hb] at h
      exact zk_ek_ok h (fun y hy => hE y (List.mem_cons_of_mem _ hy))
def zt_ald2 (HT : List (List zk_H)) (h1 h2 : List Nat) (t n : Nat) (X : zk_St) : Option (List (Nat × zk_St)) := match X.1.2.1 with
  | (0, _, e) :: (2, i, _) :: T => match zk_rs HT 0 t i with
    | some (len, lo, hi) => cond ((zk_ix X.1 h1 h2 e len && Nat.blt i 1000000) && (zk_eW HT X.1.2.2.2.1.length X.2.1 && Nat.ble (zl_mx e.2) X.1.2.2.2.1.length)) (match zk_ek X.2.1 i e with
      | some v => some [(n, ((X.1.1, (0, 0, v) :: T, X.1.2.2.1, X.1.2.2.2.1, X.1.2.2.2.2), X.2.1, X.2.2))]
      | none => match zk_new X.1 T (zk_sb (zk_h HT i).2.2.2.2.2 lo hi e).1 (zk_sb (zk_h HT i).2.2.2.2.2 lo hi e).2 with
        | some A => some [(n, (A, (i, e, zl_sym X.1.2.2.2.1.length) :: X.2.1, X.2.2))]
        | none => none) none
    | none => none
  | _ => none
theorem zt_ald2_ok {c : Nat} {HT : List (List zk_H)} {M : zk_M} {w0 : zk_W0} {PT : Nat → zz_W → Prop} {X : zk_St} {R : List (Nat × zk_St)} {h1 h2 : List Nat} {t n : Nat} (h : zt_ald2 HT h1 h2 t n X = some R) : zk_R2 PT c HT M w0 (za_aldI t n) X R := by
  obtain ⟨⟨L, T0, F, B, C⟩, E, Tk⟩ := X
  unfold zt_ald2 at h
  split at h
  · rename_i d1 e i e0 T hT
    have hT : T0 = (0, d1, e) :: (2, i, e0) :: T := hT
    subst hT
    split at h
    · rename_i len lo hi hrs
      obtain ⟨hb, h⟩ := zz_cond h
      obtain ⟨b1, hb⟩ := zz_and hb
      obtain ⟨b1, b0⟩ := zz_and b1
      obtain ⟨b2, b3⟩ := zz_and hb
      intro K s f hpv hG
      obtain ⟨⟨g1, g2, g3, g4, g5, g6⟩, k1, k2⟩ := hG
      obtain ⟨p, lv, st, w⟩ := f
      obtain ⟨j, st1, q1, q2, q3⟩ := zk_st_int g2 rfl
      obtain ⟨v, st2, q4, q5, q6⟩ := zk_st_cons q3
      have e3 : v = .ref i := q5.2.2.1 rfl
      subst e3
      have hst : st = .int j :: .ref i :: st2 := by rw [← q4]; exact q1
      subst hst
      have q2 : j.toInt = zl_ev s e := q2
      have hj := zk_ix_ok b1 g4 g5 q2
      have hj0 : 0 ≤ zl_ev s e := zl_en_ok g4 g5 (zz_and b1).1
      have hjn := zk_nI (x := j) (by omega)
      obtain ⟨o1, o2, o3, o4, o5, o6⟩ := zk_rs_ok hrs (by decide) g6.1
      have o5 := o5 rfl _ hj
      have o5 := zk_sb_r (j := zz_nI j) (s := s) (e := e) (by omega) o5.1 o5.2
      have hel : (Int32.ofNat (zz_at 32 (zz_g w i).2.2.2 (zz_nI j))).toInt = zk_el w i (zl_ev s e) := by
        unfold zk_el
        rw [show (zl_ev s e).toNat = zz_nI j by omega]
      have hact : za_aldI t n K (p, lv, .int j :: .ref i :: st2, w) = some (n, lv, .int (Int32.ofNat (zz_at 32 (zz_g w i).2.2.2 (zz_nI j))) :: st2, w) := by
        show cond (zz_ir w i 0 t (zz_nI j)) (zz_fN (zz_at 32 (zz_g w i).2.2.2 (zz_nI j)) (fun v => some ((n, lv, .int (Int32.ofNat v) :: st2, w) : zz_F))) none = _
        rw [o6 _ hj, zz_fN_eq]
        rfl
      split at h
      · rename_i x hx
        have h : [(n, (((L, (0, 0, x) :: T, F, B, C), E, Tk) : zk_St))] = R := Option.some.inj h
        subst h
        have hx := (zk_ek_ok hx k1).2
        rw [zk_xe_r b0] at hx
        exact ⟨s, _, (n, ((L, (0, 0, x) :: T, F, B, C), E, Tk)), hact, List.mem_cons_self, rfl, ⟨⟨g1, ⟨zk_v_int (by rw [hel, hx]), q6⟩, g3, g4, g5, g6⟩, k1, k2⟩, Nat.le_refl _, fun _ _ => rfl⟩
      · split at h
        · rename_i A' hA
          have h : [(n, ((A', (i, e, zl_sym B.length) :: E, Tk) : zk_St))] = R := Option.some.inj h
          subst h
          obtain ⟨hl, s', hg, hs⟩ := zk_new_ok (I := zk_J c HT M w0) (x := Int32.ofNat (zz_at 32 (zz_g w i).2.2.2 (zz_nI j))) (n := n) (w := w) (lv := lv) hA g1 q6 g3 g4 g5 g6 o5.1 o5.2
          have hsym : (Int32.ofNat (zz_at 32 (zz_g w i).2.2.2 (zz_nI j))).toInt = zl_ev s' (zl_sym B.length) := by
            obtain ⟨-, hA⟩ := zz_cond hA
            cases hA
            obtain ⟨x, x1, x2⟩ := hg.2.1.1.1 rfl
            cases x1
            exact x2
          have hee : zl_ev s' e = zl_ev s e := zl_ev_eq (n := B.length) (zz_ble b3) hs
          refine ⟨s', _, (n, (A', (i, e, zl_sym B.length) :: E, Tk)), hact, List.mem_cons_self, rfl, ⟨hg, fun y hy => ?_, k2⟩, hl, hs⟩
          rcases List.mem_cons.mp hy with ey | hy
          · subst ey
            show 0 ≤ zl_ev s' e ∧ zk_xe w i (zl_ev s' e) = zl_ev s' (zl_sym B.length)
            rw [zk_xe_r b0, hee, ← hsym, hel]
            exact ⟨hj0, rfl⟩
          · exact zk_eW_eq b2 hs k1 y hy
        · cases h
    · cases h
  · cases h
/-- an element of a row of longs is looked at, its value is named -/
def zt_ald3 (HT : List (List zk_H)) (h1 h2 : List Nat) (t n : Nat) (X : zk_St) : Option (List (Nat × zk_St)) := match X.1.2.1 with
  | (0, _, e) :: (2, i, _) :: T => match zk_rs HT 1 t i, zv_LF i with
    | some (len, _, _), some u => cond ((zk_ix X.1 h1 h2 e len && zk_wf X.1.2.2.2.1.length X.1.1 T X.1.2.2.1 X.1.2.2.2.2) && ((zk_eW HT X.1.2.2.2.1.length X.2.1 && Nat.blt (zk_h HT i).1 3) && Nat.ble (zl_mx e.2) X.1.2.2.2.1.length)) (match zk_ek X.2.1 (2000000 + u) e with
      | some v => some [(n, ((X.1.1, (1, 1, v) :: T, X.1.2.2.1, X.1.2.2.2.1, X.1.2.2.2.2), X.2.1, X.2.2))]
      | none => some [(n, ((X.1.1, (1, 1, zl_sym X.1.2.2.2.1.length) :: T, X.1.2.2.1, X.1.2.2.2.1 ++ [(-9223372036854775808, 9223372036854775807)], X.1.2.2.2.2), (2000000 + u, e, zl_sym X.1.2.2.2.1.length) :: X.2.1, X.2.2))]) none
    | _, _ => none
  | _ => none
theorem zt_ald3_ok {c : Nat} {HT : List (List zk_H)} {M : zk_M} {w0 : zk_W0} {PT : Nat → zz_W → Prop} {X : zk_St} {R : List (Nat × zk_St)} {h1 h2 : List Nat} {t n : Nat} (h : zt_ald3 HT h1 h2 t n X = some R) : zk_R2 PT c HT M w0 (za_aldL t n) X R := by
  obtain ⟨⟨L, T0, F, B, C⟩, E, Tk⟩ := X
  unfold zt_ald3 at h
  split at h
  · rename_i d1 e i e0 T hT
    have hT : T0 = (0, d1, e) :: (2, i, e0) :: T := hT
    subst hT
    split at h
    · rename_i len lo hi u hrs hu
      obtain ⟨hb, h⟩ := zz_cond h
      obtain ⟨b1, hb⟩ := zz_and hb
      obtain ⟨b1, b0⟩ := zz_and b1
      obtain ⟨b2, b3⟩ := zz_and hb
      obtain ⟨b2, b4⟩ := zz_and b2
      intro K s f hpv hG
      obtain ⟨⟨g1, g2, g3, g4, g5, g6⟩, k1, k2⟩ := hG
      obtain ⟨p, lv, st, w⟩ := f
      obtain ⟨j, st1, q1, q2, q3⟩ := zk_st_int g2 rfl
      obtain ⟨v, st2, q4, q5, q6⟩ := zk_st_cons q3
      have e3 : v = .ref i := q5.2.2.1 rfl
      subst e3
      have hst : st = .int j :: .ref i :: st2 := by rw [← q4]; exact q1
      subst hst
      have q2 : j.toInt = zl_ev s e := q2
      have hj := zk_ix_ok b1 g4 g5 q2
      have hj0 : 0 ≤ zl_ev s e := zl_en_ok g4 g5 (zz_and b1).1
      have hjn := zk_nI (x := j) (by omega)
      obtain ⟨o1, o2, o3, o4, o5, o6⟩ := zk_rs_ok hrs (by decide) g6.1
      generalize hx : Int64.ofNat (zz_at 64 (zz_g w i).2.2.2 (zz_nI j)) = x
      have hel : x.toInt = zk_xe w (2000000 + u) (zl_ev s e) := by
        rw [zk_xe_h, zv_LF_ok hu]
        unfold zk_lel
        rw [show (zl_ev s e).toNat = zz_nI j by omega, hx]
      have hact : za_aldL t n K (p, lv, .int j :: .ref i :: st2, w) = some (n, lv, .long x :: st2, w) := by
        show cond (zz_ir w i 1 t (zz_nI j)) (zz_fN (zz_at 64 (zz_g w i).2.2.2 (zz_nI j)) (fun v => some ((n, lv, .long (Int64.ofNat v) :: st2, w) : zz_F))) none = _
        rw [o6 _ hj, zz_fN_eq, hx]
        rfl
      split at h
      · rename_i v hv
        have h : [(n, (((L, (1, 1, v) :: T, F, B, C), E, Tk) : zk_St))] = R := Option.some.inj h
        subst h
        have hv := (zk_ek_ok hv k1).2
        exact ⟨s, _, (n, ((L, (1, 1, v) :: T, F, B, C), E, Tk)), hact, List.mem_cons_self, rfl, ⟨⟨g1, ⟨zk_v_lv (by rw [hel, hv]), q6⟩, g3, g4, g5, g6⟩, k1, k2⟩, Nat.le_refl _, fun _ _ => rfl⟩
      · have h : [(n, (((L, (1, 1, zl_sym B.length) :: T, F, B ++ [(-9223372036854775808, 9223372036854775807)], C), (2000000 + u, e, zl_sym B.length) :: E, Tk) : zk_St))] = R := Option.some.inj h
        subst h
        have hag : ∀ j, j < B.length → (fun j => if j = B.length then x.toInt else s j) j = s j := fun j hj => if_neg (by omega)
        generalize hs' : (fun j => if j = B.length then x.toInt else s j) = s' at hag
        have hsB : s' B.length = x.toInt := by rw [← hs']; exact if_pos rfl
        obtain ⟨m1, m2, m3, m4⟩ := zk_wf_ok b0 hag g1 q6 g3 g5
        have hee : zl_ev s' e = zl_ev s e := zl_ev_eq (n := B.length) (zz_ble b3) hag
        have hlo := Int64.le_toInt x
        have hhi := Int64.toInt_lt x
        refine ⟨s', _, (n, ((L, (1, 1, zl_sym B.length) :: T, F, B ++ [(-9223372036854775808, 9223372036854775807)], C), (2000000 + u, e, zl_sym B.length) :: E, Tk)), hact, List.mem_cons_self, rfl, ⟨⟨m1, ⟨zk_v_lv (by rw [zl_sym_ev, hsB]), m2⟩, m3, zl_in_snoc (fun k q hk => ?_) ?_ ?_, m4, g6⟩, fun y hy => ?_, k2⟩, by show B.length ≤ (B ++ [_]).length; simp, hag⟩
        · have hk' : k < B.length := (List.getElem?_eq_some_iff.mp hk).1
          rw [hag k hk']
          exact g4 k q hk
        · rw [hsB]
          omega
        · rw [hsB]
          omega
        · rcases List.mem_cons.mp hy with ey | hy
          · subst ey
            show 0 ≤ zl_ev s' e ∧ zk_xe w (2000000 + u) (zl_ev s' e) = zl_ev s' (zl_sym B.length)
            rw [hee, zl_sym_ev, hsB, hel]
            exact ⟨hj0, rfl⟩
          · exact zk_eW_eq b2 hag k1 y hy
    · cases h
  · cases h
/-! TOKENS: laws of rows, element by element: rows, fields, cases (sums over: place, the rows' elements there, the fields) -/
abbrev zk_Sp : Type := List Nat × List (Nat × Nat) × List (List zl_E)
/-- the numbers that the sums speak of -/
def zk_al (w : zz_W) (rows : List Nat) (fields : List (Nat × Nat)) (j : Nat) : List Int := (j : Int) :: (rows.map (fun r => zk_el w r (j : Int)) ++ fields.map (fun q => (Int32.ofNat (zk_fd w q)).toInt))
def zk_P (HT : List (List zk_H)) (p : zk_Sp) (w : zz_W) : Prop := ∀ j : Nat, (∀ r ∈ p.1, j < (zk_h HT r).2.2.1) → ∃ d ∈ p.2.2, zk_cs (fun m => (zk_al w p.1 p.2.1 j).getD m 0) d
/-- laws of two places: the rows of the first place, 99999, the rows of the second -/
def zk_sp2 : List Nat → List Nat × List Nat
  | [] => ([], [])
  | r :: rs => cond (Nat.beq r 99999) ([], rs) (r :: (zk_sp2 rs).1, (zk_sp2 rs).2)
def zk_a1 (w : zz_W) (rows : List Nat) (j : Nat) : List Int := (j : Int) :: rows.map (fun r => zk_el w r (j : Int))
def zk_al2 (w : zz_W) (A B : List Nat) (fields : List (Nat × Nat)) (k j : Nat) : List Int := zk_a1 w A k ++ (zk_a1 w B j ++ fields.map (fun q => (Int32.ofNat (zk_fd w q)).toInt))
def zk_P2 (HT : List (List zk_H)) (p : zk_Sp) (w : zz_W) : Prop := ∀ k j : Nat, (∀ r ∈ (zk_sp2 p.1).1, k < (zk_h HT r).2.2.1) → (∀ r ∈ (zk_sp2 p.1).2, j < (zk_h HT r).2.2.1) → ∃ d ∈ p.2.2, zk_cs (fun m => (zk_al2 w (zk_sp2 p.1).1 (zk_sp2 p.1).2 p.2.1 k j).getD m 0) d
/-- LAWS OF WORLDS, shown by hand: tokens that are wanted; how many inputs; rows, each with the input that is its place; fields; cases: bounds of new numbers, sums, elements, tokens. Sums are over: inputs, the rows' elements, the fields, the new numbers -/
abbrev zx_Ca : Type := List (Int × Int) × List zl_E × List zk_E1 × List Nat
abbrev zx_L : Type := List Nat × Nat × List (Nat × Nat) × List (Nat × Nat) × List zx_Ca
def zx_vl (w : zz_W) (x : zx_L) (ins : List Int) : List Int := ins ++ (x.2.2.1.map (fun q => zk_xe w q.1 (ins.getD q.2 0)) ++ x.2.2.2.1.map (fun q => (Int32.ofNat (zk_fd w q)).toInt))
def zx_Lok (c : Nat) (HT : List (List zk_H)) (PT : Nat → zz_W → Prop) (x : zx_L) : Prop := ∀ w, zk_I c HT w → (∀ t ∈ x.1, PT t w) → ∀ ins : List Int, ins.length = x.2.1 → (∀ q ∈ x.2.2.1, 0 ≤ ins.getD q.2 0 ∧ (q.1 < 1000000 → ins.getD q.2 0 < ((zk_h HT q.1).2.2.1 : Int))) →
  ∃ d ∈ x.2.2.2.2, ∃ nw : List Int, nw.length = d.1.length ∧ (∀ (k : Nat) (q : Int × Int), d.1[k]? = some q → q.1 ≤ nw.getD k 0 ∧ nw.getD k 0 ≤ q.2) ∧ zk_cs (fun m => (zx_vl w x ins ++ nw).getD m 0) d.2.1 ∧ zk_eF (fun m => (zx_vl w x ins ++ nw).getD m 0) d.2.2.1 w ∧ ∀ t ∈ d.2.2.2, PT t w
/-- laws of writes: the token behind it; cell and field (999: an element of a row); tokens ahead; rows (elements at the place, behind); fields (behind, then ahead); sums over: place, elements, fields behind, fields ahead -/
abbrev zx_W : Type := Nat × (Nat × Nat) × List Nat × List Nat × List (Nat × Nat) × List zl_E
def zx_wl (w w' : zz_W) (y : zx_W) (j : Int) : List Int := j :: (y.2.2.2.1.map (fun r => zk_el w' r j) ++ (y.2.2.2.2.1.map (fun q => (Int32.ofNat (zk_fd w' q)).toInt) ++ y.2.2.2.2.1.map (fun q => (Int32.ofNat (zk_fd w q)).toInt)))
def zx_Wok (c : Nat) (HT : List (List zk_H)) (PT : Nat → zz_W → Prop) (y : zx_W) : Prop := ∀ w w' (j : Int), zk_I c HT w → zk_I c HT w' → 0 ≤ j → (y.2.1.2 = 999 → zk_rR y.2.1.1 j w w') → (y.2.1.2 ≠ 999 → zk_rF y.2.1.1 y.2.1.2 w w') → (∀ t ∈ y.2.2.1, PT t w) → zk_cs (fun m => (zx_wl w w' y j).getD m 0) y.2.2.2.2.2 → PT y.1 w'
/-- laws of writes that give known elements (virtual ones, functions by hand): the row; tokens ahead; how many inputs; rows, each with the input that is its place (ahead); sums; elements behind. Sums are over: place, the value behind, inputs, the rows' values ahead -/
abbrev zx_V : Type := Nat × List Nat × Nat × List (Nat × Nat) × List zl_E × List zk_E1
def zx_vv (w w' : zz_W) (y : zx_V) (j : Int) (ins : List Int) : List Int := j :: zk_el w' y.1 j :: (ins ++ y.2.2.2.1.map (fun q => zk_xe w q.1 (ins.getD q.2 0)))
def zx_Vok (c : Nat) (HT : List (List zk_H)) (PT : Nat → zz_W → Prop) (y : zx_V) : Prop := ∀ w w' (j : Int) (ins : List Int), zk_I c HT w → zk_I c HT w' → 0 ≤ j → zk_rR y.1 j w w' → (∀ t ∈ y.2.1, PT t w) → ins.length = y.2.2.1 → zk_cs (fun m => (zx_vv w w' y j ins).getD m 0) y.2.2.2.2.1 → zk_eF (fun m => (zx_vv w w' y j ins).getD m 0) y.2.2.2.2.2 w'
/-- laws of rows, of writes, of worlds, of writes again -/
abbrev zk_TY : Type := (Nat → Option zk_Sp) × (Nat → Option zx_W) × (Nat → Option zx_L) × (Nat → Option zx_V)
/-- what tokens are: they speak of the fields and rows (i, 999) that SU lists; some are laws of rows -/
def zk_TT (c : Nat) (HT : List (List zk_H)) (PT : Nat → zz_W → Prop) (SU : Nat → List (Nat × Nat)) (TS : zk_TY) : Prop :=
  (∀ t w w', zk_I c HT w → zk_I c HT w' → (∀ q ∈ SU t, q.2 ≠ 999 → zk_fd w' q = zk_fd w q) → (∀ q ∈ SU t, q.2 = 999 → zz_g w' q.1 = zz_g w q.1) → PT t w → PT t w') ∧ (∀ t p, t < 1000 → TS.1 t = some p → ∀ w, PT t w ↔ zk_P HT p w) ∧ (∀ t p, TS.1 (1000 + t) = some p → ∀ w, PT t w ↔ zk_P2 HT p w) ∧ (∀ j y, TS.2.1 j = some y → zx_Wok c HT PT y) ∧ (∀ j x, TS.2.2.1 j = some x → zx_Lok c HT PT x) ∧ ∀ j y, TS.2.2.2 j = some y → zx_Vok c HT PT y
/-- sums that are these numbers -/
def zk_sl2 (s : Nat → Int) (t : List zl_E) (l : List Int) : Prop := t.length = l.length ∧ ∀ (j : Nat) (q : zl_E), t[j]? = some q → l.getD j 0 = zl_ev s q
theorem zk_sl2_nil {s : Nat → Int} : zk_sl2 s [] [] := ⟨rfl, fun j q h => by cases h⟩
theorem zk_sl2_cons {s : Nat → Int} {e : zl_E} {t : List zl_E} {x : Int} {l : List Int} (h : x = zl_ev s e) (h2 : zk_sl2 s t l) : zk_sl2 s (e :: t) (x :: l) := by
  refine ⟨by rw [List.length_cons, List.length_cons, h2.1], fun j q hq => ?_⟩
  cases j with
  | zero =>
    cases hq
    exact h
  | succ j => exact h2.2 j q hq
theorem zk_sl2_app {s : Nat → Int} {t u : List zl_E} : ∀ {l m : List Int}, zk_sl2 s t l → zk_sl2 s u m → zk_sl2 s (t ++ u) (l ++ m) := by
  induction t with
  | nil =>
    intro l m h1 h2
    have : l = [] := List.length_eq_zero_iff.mp h1.1.symm
    subst this
    exact h2
  | cons e t ih =>
    intro l m h1 h2
    cases l with
    | nil => exact absurd h1.1 (by simp)
    | cons x l =>
      refine zk_sl2_cons (h1.2 0 e rfl) (ih ⟨by have := h1.1; simpa using this, fun j q hq => h1.2 (j + 1) q hq⟩ h2)
/-- the fields' sums -/
def zk_fsm (F : List ((Nat × Nat) × zk_V)) : List (Nat × Nat) → Option (List zl_E)
  | [] => some []
  | q :: r => match zk_fk F q.1 q.2, zk_fsm F r with
    | some (0, _, e), some l => some (e :: l)
    | _, _ => none
theorem zk_fsm_ok {s : Nat → Int} {F : List ((Nat × Nat) × zk_V)} {w : zz_W} (hF : zk_fl s F w) : ∀ {fs : List (Nat × Nat)} {l : List zl_E}, zk_fsm F fs = some l → zk_sl2 s l (fs.map (fun q => (Int32.ofNat (zk_fd w q)).toInt))
  | [], l, h => by
    cases h
    exact zk_sl2_nil
  | q :: r, l, h => by
    unfold zk_fsm at h
    split at h
    · rename_i b e l' h1 h2
      cases h
      exact zk_sl2_cons ((hF _ (zk_fk_mem h1)).1 rfl) (zk_fsm_ok hF h2)
    · cases h
/-- the rows' elements at e, if all are known -/
def zk_esm (E : List zk_E1) (e : zl_E) : List Nat → Option (List zl_E)
  | [] => some []
  | r :: rs => cond (Nat.blt r 1000000) (match zk_ek E r e, zk_esm E e rs with
    | some v, some l => some (v :: l)
    | _, _ => none) none
theorem zk_esm_ok {s : Nat → Int} {E : List zk_E1} {w : zz_W} {e : zl_E} {j : Nat} (hE : zk_eF s E w) (hj : (j : Int) = zl_ev s e) : ∀ {rs : List Nat} {l : List zl_E}, zk_esm E e rs = some l → zk_sl2 s l (rs.map (fun r => zk_el w r (j : Int)))
  | [], l, h => by
    cases h
    exact zk_sl2_nil
  | r :: rs, l, h => by
    unfold zk_esm at h
    obtain ⟨b0, h⟩ := zz_cond h
    split at h
    · rename_i v l' h1 h2
      cases h
      refine zk_sl2_cons ?_ (zk_esm_ok hE hj h2)
      have := (zk_ek_ok h1 hE).2
      rw [zk_xe_r b0] at this
      rw [hj]
      exact this
    · cases h
/-- a token is told at a place: the cases -/
def zk_ins (A : zk_A) (t : List zl_E) : List (List zl_E) → List (List Nat) → Option (List zk_A)
  | [], _ => some []
  | d :: ds, hs => cond (d.all (fun c => Nat.ble (zl_mx c.2) t.length)) (match zk_ins A t ds (hs.drop 1) with
    | some R => some (zk_and A A.2.1 (hs.getD 0 []) (d.map (zl_subst t)) ++ R)
    | none => none) none
theorem zk_ins_ok {I : zz_W → Prop} {A : zk_A} {t : List zl_E} {s : Nat → Int} {l : List Int} (hl : zk_sl2 s t l) {p : Nat} {lv : List (Nat × Value)} {st : List Value} {w : zz_W} (hG : zk_G I s A (p, lv, st, w)) : ∀ {ds : List (List zl_E)} {hs : List (List Nat)} {R : List zk_A}, zk_ins A t ds hs = some R → ∀ d ∈ ds, zk_cs (fun m => l.getD m 0) d → ∃ A' ∈ R, zk_G I s A' (p, lv, st, w) ∧ A.2.2.2.1.length ≤ A'.2.2.2.1.length
  | [], _, _, _, d, hd, _ => absurd hd List.not_mem_nil
  | d0 :: ds, hs, R, h, d, hd, hc => by
    unfold zk_ins at h
    obtain ⟨hb, h⟩ := zz_cond h
    split at h
    · rename_i R' hR
      cases h
      rcases List.mem_cons.mp hd with e | hd
      · subst e
        obtain ⟨g1, g2, g3, g4, g5, g6⟩ := hG
        obtain ⟨A', m1, m2, m3⟩ := zk_and_ok (I := I) (A := A) (T := A.2.1) (hs := hs.getD 0 []) (cs := d.map (zl_subst t)) (n := p) g1 g2 g3 g4 g5 g6 (fun c hc' => by
          obtain ⟨c0, c1, c2⟩ := List.mem_map.mp hc'
          subst c2
          rw [zl_subst_ev (u := fun m => l.getD m 0) (zz_ble (List.all_eq_true.mp hb c0 c1)) hl.2]
          exact hc c0 c1)
        exact ⟨A', List.mem_append_left _ m1, m2, m3⟩
      · obtain ⟨A', m1, m2, m3⟩ := zk_ins_ok hl hG hR d hd hc
        exact ⟨A', List.mem_append_right _ m1, m2, m3⟩
    · cases h
/-- tell the token t at the place e: hints of the place's bounds, then of the cases -/
def zk_tel (HT : List (List zk_H)) (TS : zk_TY) (X : zk_St) (t : Nat) (e : zl_E) (hs : List (List Nat)) : Option (List zk_St) := match TS.1 t with
  | some p => match zk_esm X.2.1 e p.1, zk_fsm X.1.2.2.1 p.2.1 with
    | some vs, some fs => cond ((Nat.blt t 1000 && X.2.2.any (Nat.beq t)) && (zl_en X.1.2.2.2.1 X.1.2.2.2.2 (hs.getD 0 []) e && p.1.all (fun r => zl_en X.1.2.2.2.1 X.1.2.2.2.2 (hs.getD 1 []) (zl_sub (zl_con (((zk_h HT r).2.2.1 : Int) - 1)) e)))) (match zk_ins X.1 (e :: (vs ++ fs)) p.2.2 (hs.drop 2) with
      | some R => some (R.map (fun A => (A, X.2.1, X.2.2)))
      | none => none) none
    | _, _ => none
  | none => none
theorem zk_any_beq {t : Nat} {K : List Nat} (h : K.any (Nat.beq t) = true) : t ∈ K := by
  obtain ⟨x, h1, h2⟩ := List.any_eq_true.mp h
  rw [zz_beq h2]
  exact h1
theorem zk_tel_ok {c : Nat} {HT : List (List zk_H)} {PT : Nat → zz_W → Prop} {SU : Nat → List (Nat × Nat)} {TS : zk_TY} (hTT : zk_TT c HT PT SU TS) {I : zz_W → Prop} {X : zk_St} {t : Nat} {e : zl_E} {hs : List (List Nat)} {R : List zk_St} (h : zk_tel HT TS X t e hs = some R) {s : Nat → Int} {f : zz_F} (hG : zk_G2 PT I s X f) : ∃ X' ∈ R, zk_G2 PT I s X' f ∧ X.1.2.2.2.1.length ≤ X'.1.2.2.2.1.length := by
  unfold zk_tel at h
  split at h
  · rename_i p hp
    split at h
    · rename_i vs fs h1 h2
      obtain ⟨hb, h⟩ := zz_cond h
      obtain ⟨b1, hb⟩ := zz_and hb
      obtain ⟨b0, b1⟩ := zz_and b1
      obtain ⟨b2, b3⟩ := zz_and hb
      split at h
      · rename_i R' hR
        cases h
        obtain ⟨g1, k1, k2⟩ := hG
        have hP := (hTT.2.1 t p (zz_blt b0) hp _).mp (k2 t (zk_any_beq b1))
        have c1 := zl_en_ok g1.2.2.2.1 g1.2.2.2.2.1 b2
        have hj : ((zl_ev s e).toNat : Int) = zl_ev s e := by omega
        obtain ⟨d, d1, d2⟩ := hP (zl_ev s e).toNat (fun r hr => by
          have := zl_en_ok g1.2.2.2.1 g1.2.2.2.2.1 (List.all_eq_true.mp b3 r hr)
          rw [zl_sub_ev, zl_con_ev] at this
          omega)
        obtain ⟨p0, lv, st, w⟩ := f
        obtain ⟨A', m1, m2, m3⟩ := zk_ins_ok (zk_sl2_cons hj (zk_sl2_app (zk_esm_ok k1 hj h1) (zk_fsm_ok g1.2.2.1 h2))) g1 hR d d1 d2
        exact ⟨(A', X.2.1, X.2.2), List.mem_map.mpr ⟨A', m1, rfl⟩, ⟨m2, k1, k2⟩, m3⟩
      · cases h
    · cases h
  · cases h
/-- tell a law of two places at e1, e2 -/
def zk_tel2 (HT : List (List zk_H)) (TS : zk_TY) (X : zk_St) (t : Nat) (e1 e2 : zl_E) (hs : List (List Nat)) : Option (List zk_St) := match TS.1 (1000 + t) with
  | some p => match zk_esm X.2.1 e1 (zk_sp2 p.1).1, zk_esm X.2.1 e2 (zk_sp2 p.1).2, zk_fsm X.1.2.2.1 p.2.1 with
    | some va, some vb, some fs => cond (X.2.2.any (Nat.beq t) && ((zl_en X.1.2.2.2.1 X.1.2.2.2.2 (hs.getD 0 []) e1 && (zk_sp2 p.1).1.all (fun r => zl_en X.1.2.2.2.1 X.1.2.2.2.2 (hs.getD 1 []) (zl_sub (zl_con (((zk_h HT r).2.2.1 : Int) - 1)) e1))) && (zl_en X.1.2.2.2.1 X.1.2.2.2.2 (hs.getD 2 []) e2 && (zk_sp2 p.1).2.all (fun r => zl_en X.1.2.2.2.1 X.1.2.2.2.2 (hs.getD 3 []) (zl_sub (zl_con (((zk_h HT r).2.2.1 : Int) - 1)) e2))))) (match zk_ins X.1 ((e1 :: va) ++ ((e2 :: vb) ++ fs)) p.2.2 (hs.drop 4) with
      | some R => some (R.map (fun A => (A, X.2.1, X.2.2)))
      | none => none) none
    | _, _, _ => none
  | none => none
theorem zk_tel2_ok {c : Nat} {HT : List (List zk_H)} {PT : Nat → zz_W → Prop} {SU : Nat → List (Nat × Nat)} {TS : zk_TY} (hTT : zk_TT c HT PT SU TS) {I : zz_W → Prop} {X : zk_St} {t : Nat} {e1 e2 : zl_E} {hs : List (List Nat)} {R : List zk_St} (h : zk_tel2 HT TS X t e1 e2 hs = some R) {s : Nat → Int} {f : zz_F} (hG : zk_G2 PT I s X f) : ∃ X' ∈ R, zk_G2 PT I s X' f ∧ X.1.2.2.2.1.length ≤ X'.1.2.2.2.1.length := by
  unfold zk_tel2 at h
  split at h
  · rename_i p hp
    split at h
    · rename_i va vb fs h1 h2 h3
      obtain ⟨hb, h⟩ := zz_cond h
      obtain ⟨b1, hb⟩ := zz_and hb
      obtain ⟨hb1, hb2⟩ := zz_and hb
      obtain ⟨b2, b3⟩ := zz_and hb1
      obtain ⟨b4, b5⟩ := zz_and hb2
      split at h
      · rename_i R' hR
        cases h
        obtain ⟨g1, k1, k2⟩ := hG
        have hP := (hTT.2.2.1 t p hp _).mp (k2 t (zk_any_beq b1))
        have c1 := zl_en_ok g1.2.2.2.1 g1.2.2.2.2.1 b2
        have c2 := zl_en_ok g1.2.2.2.1 g1.2.2.2.2.1 b4
        have hj1 : ((zl_ev s e1).toNat : Int) = zl_ev s e1 := by omega
        have hj2 : ((zl_ev s e2).toNat : Int) = zl_ev s e2 := by omega
        obtain ⟨d, d1, d2⟩ := hP (zl_ev s e1).toNat (zl_ev s e2).toNat (fun r hr => by
          have := zl_en_ok g1.2.2.2.1 g1.2.2.2.2.1 (List.all_eq_true.mp b3 r hr)
          rw [zl_sub_ev, zl_con_ev] at this
          omega) (fun r hr => by
          have := zl_en_ok g1.2.2.2.1 g1.2.2.2.2.1 (List.all_eq_true.mp b5 r hr)
          rw [zl_sub_ev, zl_con_ev] at this
          omega)
        obtain ⟨p0, lv, st, w⟩ := f
        obtain ⟨A', m1, m2, m3⟩ := zk_ins_ok (zk_sl2_app (zk_sl2_cons hj1 (zk_esm_ok k1 hj1 h1)) (zk_sl2_app (zk_sl2_cons hj2 (zk_esm_ok k1 hj2 h2)) (zk_fsm_ok g1.2.2.1 h3))) g1 hR d d1 d2
        exact ⟨(A', X.2.1, X.2.2), List.mem_map.mpr ⟨A', m1, rfl⟩, ⟨m2, k1, k2⟩, m3⟩
      · cases h
    · cases h
  · cases h
end
end
section
/-! OPERATIONS THAT ARE NAMED: what comes of an operation on longs is a new number, and a known value of the function of operations (81) -/
noncomputable section
def zn_A (o : Nat) (e1 e2 : zl_E) : zl_E := zl_add (zl_con (o : Int)) (zl_add (zl_mul 16 (zl_add e1 (zl_con 9223372036854775808))) (zl_mul 295147905179352825856 (zl_add e2 (zl_con 9223372036854775808))))
theorem zn_A_ev (s : Nat → Int) (o : Nat) (e1 e2 : zl_E) : zl_ev s (zn_A o e1 e2) = (o : Int) + 16 * (zl_ev s e1 + 9223372036854775808) + 295147905179352825856 * (zl_ev s e2 + 9223372036854775808) := by
  unfold zn_A
  rw [zl_add_ev, zl_add_ev, zl_mul_ev, zl_mul_ev, zl_add_ev, zl_add_ev, zl_con_ev, zl_con_ev]
  omega
theorem zn_oc_at {w : zz_W} {o : Nat} {x y j : Int} (ho : o < 16) (x0 : -9223372036854775808 ≤ x) (x1 : x < 9223372036854775808) (y0 : -9223372036854775808 ≤ y) (hj : j = (o : Int) + 16 * (x + 9223372036854775808) + 295147905179352825856 * (y + 9223372036854775808)) : zk_xe w 2000081 j = zn_op o x y := by
  rw [show (2000081 : Nat) = 2000000 + 81 from rfl, zk_xe_h]
  show zn_oc j = zn_op o x y
  unfold zn_oc
  have h1 : (j % 16).toNat = o := by omega
  have h2 : j / 16 % 18446744073709551616 - 9223372036854775808 = x := by omega
  have h3 : j / 16 / 18446744073709551616 - 9223372036854775808 = y := by omega
  rw [h1, h2, h3]
theorem zn_A_0 {o : Nat} {x y : Int} (x0 : -9223372036854775808 ≤ x) (y0 : -9223372036854775808 ≤ y) : 0 ≤ (o : Int) + 16 * (x + 9223372036854775808) + 295147905179352825856 * (y + 9223372036854775808) := by omega
/-- the state behind it: k 1 a long, 0 an int -/
def zn_X (HT : List (List zk_H)) (o n k : Nat) (e1 e2 : zl_E) (T : List zk_V) (b : Int × Int) (X : zk_St) : Option (List (Nat × zk_St)) :=
  cond (zk_eW HT X.1.2.2.2.1.length X.2.1 && (zk_wf X.1.2.2.2.1.length X.1.1 T X.1.2.2.1 X.1.2.2.2.2 && (Nat.ble (zl_mx e1.2) X.1.2.2.2.1.length && Nat.ble (zl_mx e2.2) X.1.2.2.2.1.length)))
    (some [(n, ((X.1.1, (k, k, zl_sym X.1.2.2.2.1.length) :: T, X.1.2.2.1, X.1.2.2.2.1 ++ [b], X.1.2.2.2.2), (2000081, zn_A o e1 e2, zl_sym X.1.2.2.2.1.length) :: X.2.1, X.2.2))]) none
theorem zn_X_ok {c : Nat} {HT : List (List zk_H)} {M : zk_M} {w0 : zk_W0} {PT : Nat → zz_W → Prop} {act : zz_A} {o n k : Nat} {e1 e2 : zl_E} {T : List zk_V} {b : Int × Int} {X : zk_St} {R : List (Nat × zk_St)} (h : zn_X HT o n k e1 e2 T b X = some R) (ho : o < 16)
    (hk : ∀ (K : zz_K) (s : Nat → Int) (p : Nat) (lv : List (Nat × Value)) (st : List Value) (w : zz_W), zk_st s X.1.2.1 st → ∃ (v : Value) (r : List Value) (z : Int), act K (p, lv, st, w) = some (n, lv, v :: r, w) ∧ zk_st s T r ∧ z = zn_op o (zl_ev s e1) (zl_ev s e2) ∧ (b.1 ≤ z ∧ z ≤ b.2) ∧ (-9223372036854775808 ≤ zl_ev s e1 ∧ zl_ev s e1 < 9223372036854775808 ∧ -9223372036854775808 ≤ zl_ev s e2) ∧ ∀ (s' : Nat → Int) (e : zl_E), zl_ev s' e = z → zk_v s' (k, k, e) v) : zk_R2 PT c HT M w0 act X R := by
  obtain ⟨⟨L, T0, F, B, C⟩, E, Tk⟩ := X
  unfold zn_X at h
  obtain ⟨hb, h⟩ := zz_cond h
  obtain ⟨b1, hb⟩ := zz_and hb
  obtain ⟨b2, hb⟩ := zz_and hb
  obtain ⟨b3, b4⟩ := zz_and hb
  have h : [(n, (((L, (k, k, zl_sym B.length) :: T, F, B ++ [b], C), (2000081, zn_A o e1 e2, zl_sym B.length) :: E, Tk) : zk_St))] = R := Option.some.inj h
  subst h
  intro K s f hpv hG
  obtain ⟨⟨g1, g2, g3, g4, g5, g6⟩, k1, k2⟩ := hG
  obtain ⟨p, lv, st, w⟩ := f
  obtain ⟨v, r, z, a1, a2, a3, a4, a5, a6⟩ := hk K s p lv st w g2
  have hag : ∀ j, j < B.length → (fun j => if j = B.length then z else s j) j = s j := fun j hj => if_neg (by omega)
  generalize hs' : (fun j => if j = B.length then z else s j) = s' at hag
  have hsB : s' B.length = z := by rw [← hs']; exact if_pos rfl
  obtain ⟨m1, m2, m3, m4⟩ := zk_wf_ok b2 hag g1 a2 g3 g5
  have q1 : zl_ev s' e1 = zl_ev s e1 := zl_ev_eq (n := B.length) (zz_ble b3) hag
  have q2 : zl_ev s' e2 = zl_ev s e2 := zl_ev_eq (n := B.length) (zz_ble b4) hag
  refine ⟨s', _, (n, ((L, (k, k, zl_sym B.length) :: T, F, B ++ [b], C), (2000081, zn_A o e1 e2, zl_sym B.length) :: E, Tk)), a1, List.mem_cons_self, rfl, ⟨⟨m1, ⟨a6 s' (zl_sym B.length) (by rw [zl_sym_ev, hsB]), m2⟩, m3, zl_in_snoc (fun k q hk => ?_) ?_ ?_, m4, g6⟩, fun y hy => ?_, k2⟩, by show B.length ≤ (B ++ [_]).length; simp, hag⟩
  · have hk' : k < B.length := (List.getElem?_eq_some_iff.mp hk).1
    rw [hag k hk']
    exact g4 k q hk
  · rw [hsB]
    exact a4.1
  · rw [hsB]
    exact a4.2
  · rcases List.mem_cons.mp hy with ey | hy
    · subst ey
      have hA := zn_A_ev s' o e1 e2
      rw [q1, q2] at hA
      have hz := (zn_oc_at (w := w) ho a5.1 a5.2.1 a5.2.2 hA).trans a3.symm
      have hs := (zl_sym_ev s' B.length).trans hsB
      refine ⟨?_, hz.trans hs.symm⟩
      exact Int.le_trans (zn_A_0 a5.1 a5.2.2) (Int.le_of_eq hA.symm)
    · exact zk_eW_eq b1 hag k1 y hy
theorem zn_LL {act : zz_A} {n o : Nat} {g : Int64 → Int64 → Int64} {X : zk_St} {e1 e2 : zl_E} {T : List zk_V} (hT : X.1.2.1 = (1, 1, e2) :: (1, 1, e1) :: T) (ha : ∀ (K : zz_K) (p : Nat) (lv : List (Nat × Value)) (x y : Int64) (r : List Value) (w : zz_W), act K (p, lv, .long y :: .long x :: r, w) = some (n, lv, .long (g x y) :: r, w)) (hg : ∀ x y : Int64, (g x y).toInt = zn_op o x.toInt y.toInt) :
    ∀ (K : zz_K) (s : Nat → Int) (p : Nat) (lv : List (Nat × Value)) (st : List Value) (w : zz_W), zk_st s X.1.2.1 st → ∃ (v : Value) (r : List Value) (z : Int), act K (p, lv, st, w) = some (n, lv, v :: r, w) ∧ zk_st s T r ∧ z = zn_op o (zl_ev s e1) (zl_ev s e2) ∧ ((-9223372036854775808 : Int) ≤ z ∧ z ≤ 9223372036854775807) ∧ (-9223372036854775808 ≤ zl_ev s e1 ∧ zl_ev s e1 < 9223372036854775808 ∧ -9223372036854775808 ≤ zl_ev s e2) ∧ ∀ (s' : Nat → Int) (e : zl_E), zl_ev s' e = z → zk_v s' (1, 1, e) v := by
  intro K s p lv st w g2
  rw [hT] at g2
  obtain ⟨y, st1, q1, q2, q3⟩ := zk_st_lv g2 rfl
  obtain ⟨x, st2, q4, q5, q6⟩ := zk_st_lv q3 rfl
  have hst : st = .long y :: .long x :: st2 := by rw [← q4]; exact q1
  subst hst
  have q2 : y.toInt = zl_ev s e2 := q2 rfl
  have q5 : x.toInt = zl_ev s e1 := q5 rfl
  have h1 := Int64.le_toInt x
  have h2 := Int64.toInt_lt x
  have h3 := Int64.le_toInt y
  have h4 := Int64.le_toInt (g x y)
  have h5 := Int64.toInt_lt (g x y)
  exact ⟨.long (g x y), st2, (g x y).toInt, ha K p lv x y st2 w, q6, by rw [hg, q5, q2], by omega, by omega, fun s' e he => zk_v_lv he.symm⟩
theorem zn_LI {act : zz_A} {n o : Nat} {g : Int64 → Int32 → Int64} {X : zk_St} {k : Nat} {e1 e2 : zl_E} {T : List zk_V} (hT : X.1.2.1 = (0, k, e2) :: (1, 1, e1) :: T) (ha : ∀ (K : zz_K) (p : Nat) (lv : List (Nat × Value)) (x : Int64) (y : Int32) (r : List Value) (w : zz_W), act K (p, lv, .int y :: .long x :: r, w) = some (n, lv, .long (g x y) :: r, w)) (hg : ∀ (x : Int64) (y : Int32), (g x y).toInt = zn_op o x.toInt y.toInt) :
    ∀ (K : zz_K) (s : Nat → Int) (p : Nat) (lv : List (Nat × Value)) (st : List Value) (w : zz_W), zk_st s X.1.2.1 st → ∃ (v : Value) (r : List Value) (z : Int), act K (p, lv, st, w) = some (n, lv, v :: r, w) ∧ zk_st s T r ∧ z = zn_op o (zl_ev s e1) (zl_ev s e2) ∧ ((-9223372036854775808 : Int) ≤ z ∧ z ≤ 9223372036854775807) ∧ (-9223372036854775808 ≤ zl_ev s e1 ∧ zl_ev s e1 < 9223372036854775808 ∧ -9223372036854775808 ≤ zl_ev s e2) ∧ ∀ (s' : Nat → Int) (e : zl_E), zl_ev s' e = z → zk_v s' (1, 1, e) v := by
  intro K s p lv st w g2
  rw [hT] at g2
  obtain ⟨y, st1, q1, q2, q3⟩ := zk_st_int g2 rfl
  obtain ⟨x, st2, q4, q5, q6⟩ := zk_st_lv q3 rfl
  have hst : st = .int y :: .long x :: st2 := by rw [← q4]; exact q1
  subst hst
  have q2 : y.toInt = zl_ev s e2 := q2
  have q5 : x.toInt = zl_ev s e1 := q5 rfl
  have h1 := Int64.le_toInt x
  have h2 := Int64.toInt_lt x
  have h3 := Int32.le_toInt y
  have h4 := Int64.le_toInt (g x y)
  have h5 := Int64.toInt_lt (g x y)
  exact ⟨.long (g x y), st2, (g x y).toInt, ha K p lv x y st2 w, q6, by rw [hg, q5, q2], by omega, by omega, fun s' e he => zk_v_lv he.symm⟩
theorem zn_L2I {n : Nat} {X : zk_St} {e1 : zl_E} {T : List zk_V} (hT : X.1.2.1 = (1, 1, e1) :: T) :
    ∀ (K : zz_K) (s : Nat → Int) (p : Nat) (lv : List (Nat × Value)) (st : List Value) (w : zz_W), zk_st s X.1.2.1 st → ∃ (v : Value) (r : List Value) (z : Int), za_l2i n K (p, lv, st, w) = some (n, lv, v :: r, w) ∧ zk_st s T r ∧ z = zn_op 7 (zl_ev s e1) (zl_ev s (zl_con 0)) ∧ ((-2147483648 : Int) ≤ z ∧ z ≤ 2147483647) ∧ (-9223372036854775808 ≤ zl_ev s e1 ∧ zl_ev s e1 < 9223372036854775808 ∧ -9223372036854775808 ≤ zl_ev s (zl_con 0)) ∧ ∀ (s' : Nat → Int) (e : zl_E), zl_ev s' e = z → zk_v s' (0, 0, e) v := by
  intro K s p lv st w g2
  rw [hT] at g2
  obtain ⟨x, st2, q1, q5, q6⟩ := zk_st_lv g2 rfl
  subst q1
  have q5 : x.toInt = zl_ev s e1 := q5 rfl
  have h1 := Int64.le_toInt x
  have h2 := Int64.toInt_lt x
  have h4 := Int32.le_toInt x.toInt32
  have h5 := Int32.toInt_lt x.toInt32
  refine ⟨.int x.toInt32, st2, x.toInt32.toInt, ze_l2i rfl, q6, ?_, by omega, by rw [zl_con_ev]; omega, fun s' e he => zk_v_int he.symm⟩
  rw [← q5]
  show _ = ((Int64.ofInt x.toInt).toInt32).toInt
  rw [Int64.ofInt_toInt]
theorem zn_IA {n : Nat} {X : zk_St} {k1 k2 : Nat} {e1 e2 : zl_E} {T : List zk_V} (hT : X.1.2.1 = (0, k2, e2) :: (0, k1, e1) :: T) :
    ∀ (K : zz_K) (s : Nat → Int) (p : Nat) (lv : List (Nat × Value)) (st : List Value) (w : zz_W), zk_st s X.1.2.1 st → ∃ (v : Value) (r : List Value) (z : Int), za_iand n K (p, lv, st, w) = some (n, lv, v :: r, w) ∧ zk_st s T r ∧ z = zn_op 8 (zl_ev s e1) (zl_ev s e2) ∧ ((-2147483648 : Int) ≤ z ∧ z ≤ 2147483647) ∧ (-9223372036854775808 ≤ zl_ev s e1 ∧ zl_ev s e1 < 9223372036854775808 ∧ -9223372036854775808 ≤ zl_ev s e2) ∧ ∀ (s' : Nat → Int) (e : zl_E), zl_ev s' e = z → zk_v s' (0, 0, e) v := by
  intro K s p lv st w g2
  rw [hT] at g2
  obtain ⟨y, st1, q1, q2, q3⟩ := zk_st_int g2 rfl
  obtain ⟨x, st2, q4, q5, q6⟩ := zk_st_int q3 rfl
  have hst : st = .int y :: .int x :: st2 := by rw [← q4]; exact q1
  subst hst
  have q2 : y.toInt = zl_ev s e2 := q2
  have q5 : x.toInt = zl_ev s e1 := q5
  have h1 := Int32.le_toInt x
  have h2 := Int32.toInt_lt x
  have h3 := Int32.le_toInt y
  have h4 := Int32.le_toInt (x &&& y)
  have h5 := Int32.toInt_lt (x &&& y)
  refine ⟨.int (x &&& y), st2, (x &&& y).toInt, ze_iand rfl, q6, ?_, by omega, by omega, fun s' e he => zk_v_int he.symm⟩
  rw [← q5, ← q2]
  show _ = (Int32.ofInt x.toInt &&& Int32.ofInt y.toInt).toInt
  rw [Int32.ofInt_toInt, Int32.ofInt_toInt]
/-- a long that a local holds is named -/
def zn_L (HT : List (List zk_H)) (X : zk_St) (i n : Nat) : Option (List (Nat × zk_St)) := match zk_lk X.1.1 i with
  | some (1, 0, _) => cond (zk_eW HT X.1.2.2.2.1.length X.2.1 && zk_wf X.1.2.2.2.1.length X.1.1 X.1.2.1 X.1.2.2.1 X.1.2.2.2.2)
    (some [(n, (((i, 1, 1, zl_sym X.1.2.2.2.1.length) :: X.1.1.filter (fun q => !(Nat.beq q.1 i)), (1, 1, zl_sym X.1.2.2.2.1.length) :: X.1.2.1, X.1.2.2.1, X.1.2.2.2.1 ++ [(-9223372036854775808, 9223372036854775807)], X.1.2.2.2.2), X.2.1, X.2.2))]) none
  | _ => none
theorem zn_L_ok {c : Nat} {HT : List (List zk_H)} {M : zk_M} {w0 : zk_W0} {PT : Nat → zz_W → Prop} {X : zk_St} {R : List (Nat × zk_St)} {i n : Nat} (h : zn_L HT X i n = some R) : zk_R2 PT c HT M w0 (za_lload i n) X R := by
  obtain ⟨⟨L, T, F, B, C⟩, E, Tk⟩ := X
  unfold zn_L at h
  split at h
  · rename_i e hk
    have hk : zk_lk L i = some (1, 0, e) := hk
    obtain ⟨hb, h⟩ := zz_cond h
    obtain ⟨b1, b2⟩ := zz_and hb
    have h : [(n, ((((i, 1, 1, zl_sym B.length) :: L.filter (fun q => !(Nat.beq q.1 i)), (1, 1, zl_sym B.length) :: T, F, B ++ [(-9223372036854775808, 9223372036854775807)], C), E, Tk) : zk_St))] = R := Option.some.inj h
    subst h
    intro K s f hpv hG
    obtain ⟨⟨g1, g2, g3, g4, g5, g6⟩, k1, k2⟩ := hG
    obtain ⟨p, lv, st, w⟩ := f
    obtain ⟨v, e1, e2⟩ := g1 _ (zk_lk_mem hk)
    obtain ⟨x, e3, -⟩ := e2.2.1 rfl
    subst e3
    have e1 : zz_lg lv i = some (.long x) := e1
    have hag : ∀ j, j < B.length → (fun j => if j = B.length then x.toInt else s j) j = s j := fun j hj => if_neg (by omega)
    generalize hs' : (fun j => if j = B.length then x.toInt else s j) = s' at hag
    have hsB : s' B.length = x.toInt := by rw [← hs']; exact if_pos rfl
    obtain ⟨m1, m2, m3, m4⟩ := zk_wf_ok b2 hag g1 g2 g3 g5
    have h1 := Int64.le_toInt x
    have h2 := Int64.toInt_lt x
    have hv : zk_v s' (1, 1, zl_sym B.length) (.long x) := zk_v_lv (by rw [zl_sym_ev, hsB])
    refine ⟨s', _, (n, (((i, 1, 1, zl_sym B.length) :: L.filter (fun q => !(Nat.beq q.1 i)), (1, 1, zl_sym B.length) :: T, F, B ++ [(-9223372036854775808, 9223372036854775807)], C), E, Tk)), ze_lload e1, List.mem_cons_self, rfl, ⟨⟨fun q hq => ?_, ⟨hv, m2⟩, m3, zl_in_snoc (fun k q hk => ?_) ?_ ?_, m4, g6⟩, zk_eW_eq b1 hag k1, k2⟩, by show B.length ≤ (B ++ [_]).length; simp, hag⟩
    · rcases List.mem_cons.mp hq with eq | hq
      · subst eq
        exact ⟨.long x, e1, hv⟩
      · exact m1 q (List.mem_filter.mp hq).1
    · have hk' : k < B.length := (List.getElem?_eq_some_iff.mp hk).1
      rw [hag k hk']
      exact g4 k q hk
    · rw [hsB]
      omega
    · rw [hsB]
      omega
  · cases h
/-- by the instruction's number (hint 8181) -/
def zn_F (HT : List (List zk_H)) (X : zk_St) (n j : Nat) (i : Nat) : Option (List (Nat × zk_St)) := match i, X.1.2.1 with
  | 5, _ => zn_L HT X j n
  | 29, (1, 1, e2) :: (1, 1, e1) :: T => zn_X HT 0 n 1 e1 e2 T (-9223372036854775808, 9223372036854775807) X
  | 27, (1, 1, e2) :: (1, 1, e1) :: T => zn_X HT 1 n 1 e1 e2 T (-9223372036854775808, 9223372036854775807) X
  | 32, (1, 1, e2) :: (1, 1, e1) :: T => zn_X HT 2 n 1 e1 e2 T (-9223372036854775808, 9223372036854775807) X
  | 31, (1, 1, e2) :: (1, 1, e1) :: T => zn_X HT 3 n 1 e1 e2 T (-9223372036854775808, 9223372036854775807) X
  | 30, (1, 1, e2) :: (1, 1, e1) :: T => zn_X HT 4 n 1 e1 e2 T (-9223372036854775808, 9223372036854775807) X
  | 33, (0, _, e2) :: (1, 1, e1) :: T => zn_X HT 5 n 1 e1 e2 T (-9223372036854775808, 9223372036854775807) X
  | 34, (0, _, e2) :: (1, 1, e1) :: T => zn_X HT 6 n 1 e1 e2 T (-9223372036854775808, 9223372036854775807) X
  | 25, (1, 1, e1) :: T => zn_X HT 7 n 0 e1 (zl_con 0) T (-2147483648, 2147483647) X
  | 14, (0, _, e2) :: (0, _, e1) :: T => zn_X HT 8 n 0 e1 e2 T (-2147483648, 2147483647) X
  | _, _ => none
theorem zn_g2 {o : Nat} {g : Int64 → Int64 → Int64} (h : ∀ x y : Int, zn_op o x y = (g (Int64.ofInt x) (Int64.ofInt y)).toInt) (x y : Int64) : (g x y).toInt = zn_op o x.toInt y.toInt := by
  rw [h, Int64.ofInt_toInt, Int64.ofInt_toInt]
theorem zn_gi {o : Nat} {g : Int64 → Int32 → Int64} (h : ∀ x y : Int, zn_op o x y = (g (Int64.ofInt x) (Int32.ofInt y)).toInt) (x : Int64) (y : Int32) : (g x y).toInt = zn_op o x.toInt y.toInt := by
  rw [h, Int64.ofInt_toInt, Int32.ofInt_toInt]
/-- the rest by a number above 0, of what is not below 0 (hint 7) -/
theorem zk_lrem_pos {x y : Int64} (hx : 0 ≤ x.toInt) (hy : 0 < y.toInt) : (x - x / y * y).toInt = x.toInt % y.toInt := by
  have hq := zk_ldiv_pos hx hy
  have h2 : x.toInt / y.toInt * y.toInt ≤ x.toInt := Int.ediv_mul_le x.toInt (by omega)
  have h3 : 0 ≤ x.toInt / y.toInt * y.toInt := Int.mul_nonneg (Int.ediv_nonneg hx (by omega)) (by omega)
  have h4 := Int64.toInt_lt x
  have h1 : (x / y * y).toInt = x.toInt / y.toInt * y.toInt := by
    rw [Int64.toInt_mul, hq]
    generalize x.toInt / y.toInt * y.toInt = z at h2 h3
    rw [Int.bmod_def]
    omega
  have h5 := Int.mul_ediv_add_emod x.toInt y.toInt
  rw [Int.mul_comm] at h5
  rw [Int64.toInt_sub, h1]
  generalize x.toInt / y.toInt * y.toInt = z at h2 h3 h5
  rw [Int.bmod_def]
  omega
def zt_lremC (hs : List (List Nat)) (A : zk_A) : Option zk_A := match A.2.1 with
  | (1, k2, e2) :: (1, k1, e1) :: r => match zl_c e2 with
    | some c => cond (Nat.beq k2 1 && (Nat.beq k1 1 && (decide (0 < c) && (zl_en A.2.2.2.1 A.2.2.2.2 (hs.getD 1 []) e1 && zk_wf A.2.2.2.1.length A.1 r A.2.2.1 A.2.2.2.2))))
      (some (A.1, (1, 1, zl_sym A.2.2.2.1.length) :: r, A.2.2.1, A.2.2.2.1 ++ [(0, c - 1)], A.2.2.2.2)) none
    | none => none
  | _ => none
theorem zt_lremC_ok {I : zz_W → Prop} {A A' : zk_A} {n : Nat} {hs : List (List Nat)} (h : zt_lremC hs A = some A') : zk_S I (za_lrem n) n A A' := by
  obtain ⟨L, T, F, B, C⟩ := A
  unfold zt_lremC at h
  split at h
  · rename_i k2 e2 k1 e1 r hT
    have hT : T = (1, k2, e2) :: (1, k1, e1) :: r := hT
    subst hT
    split at h
    · rename_i c hc
      obtain ⟨hb, h⟩ := zz_cond h
      obtain ⟨b1, hb⟩ := zz_and hb
      obtain ⟨b2, hb⟩ := zz_and hb
      obtain ⟨b3, hb⟩ := zz_and hb
      obtain ⟨b4, b6⟩ := zz_and hb
      have b3 := of_decide_eq_true b3
      cases h
      refine ⟨by show B.length ≤ (B ++ [(0, c - 1)]).length; simp, fun K s f hG => ?_⟩
      obtain ⟨p, lv, st, w⟩ := f
      obtain ⟨g1, g2, g3, g4, g5, g6⟩ := hG
      obtain ⟨y, st1, q1, q2, q3⟩ := zk_st_lv g2 rfl
      obtain ⟨x, st2, q4, q5, q6⟩ := zk_st_lv q3 rfl
      have hst : st = .long y :: .long x :: st2 := by rw [← q4]; exact q1
      subst hst
      have q2 : y.toInt = zl_ev s e2 := q2 (zz_beq b1)
      have q5 : x.toInt = zl_ev s e1 := q5 (zz_beq b2)
      rw [zl_c_ok (s := s) hc] at q2
      have z1 := zl_en_ok g4 g5 b4
      have hq : (x - x / y * y).toInt = zl_ev s e1 % c := by rw [zk_lrem_pos (by omega) (by omega), q5, q2]
      have hy0 : ¬ y = 0 := fun h0 => by
        subst h0
        have h0 : (0 : Int64).toInt = 0 := rfl
        rw [h0] at q2
        omega
      have hag : ∀ j, j < B.length → (fun j => if j = B.length then zl_ev s e1 % c else s j) j = s j := fun j hj => if_neg (by omega)
      generalize hs' : (fun j => if j = B.length then zl_ev s e1 % c else s j) = s' at hag
      have hsB : s' B.length = zl_ev s e1 % c := by rw [← hs']; exact if_pos rfl
      obtain ⟨m1, m2, m3, m4⟩ := zk_wf_ok b6 hag g1 q6 g3 g5
      have hd2 := Int.emod_nonneg (zl_ev s e1) (b := c) (by omega)
      have hd3 := Int.emod_lt_of_pos (zl_ev s e1) b3
      refine ⟨s', _, ze_lrem hy0 rfl, rfl, ⟨m1, ⟨zk_v_lv (by rw [zl_sym_ev, hsB]; exact hq), m2⟩, m3, zl_in_snoc (fun k q hk => ?_) ?_ ?_, m4, g6⟩, hag⟩
      · have hk' : k < B.length := (List.getElem?_eq_some_iff.mp hk).1
        rw [hag k hk']
        exact g4 k q hk
      · rw [hsB]
        exact hd2
      · rw [hsB]
        omega
    · cases h
  · cases h
def zt_lremD (hs : List (List Nat)) (A : zk_A) : Option zk_A := match A.2.1 with
  | (1, k2, e2) :: (1, k1, e1) :: r => match zl_c e2 with
    | some c => cond (Nat.beq k2 1 && (Nat.beq k1 1 && (decide (0 < c) && (zl_en A.2.2.2.1 A.2.2.2.2 (hs.getD 1 []) e1 && zl_en A.2.2.2.1 A.2.2.2.2 (hs.getD 2 []) (zl_sub (zl_con (c - 1)) e1)))))
      (some (A.1, (1, 1, e1) :: r, A.2.2.1, A.2.2.2.1, A.2.2.2.2)) none
    | none => none
  | _ => none
theorem zt_lremD_ok {I : zz_W → Prop} {A A' : zk_A} {n : Nat} {hs : List (List Nat)} (h : zt_lremD hs A = some A') : zk_S I (za_lrem n) n A A' := by
  obtain ⟨L, T, F, B, C⟩ := A
  unfold zt_lremD at h
  split at h
  · rename_i k2 e2 k1 e1 r hT
    have hT : T = (1, k2, e2) :: (1, k1, e1) :: r := hT
    subst hT
    split at h
    · rename_i c hc
      obtain ⟨hb, h⟩ := zz_cond h
      obtain ⟨b1, hb⟩ := zz_and hb
      obtain ⟨b2, hb⟩ := zz_and hb
      obtain ⟨b3, hb⟩ := zz_and hb
      obtain ⟨b4, b6⟩ := zz_and hb
      have b3 := of_decide_eq_true b3
      cases h
      refine ⟨Nat.le_refl _, fun K s f hG => ?_⟩
      obtain ⟨p, lv, st, w⟩ := f
      obtain ⟨g1, g2, g3, g4, g5, g6⟩ := hG
      obtain ⟨y, st1, q1, q2, q3⟩ := zk_st_lv g2 rfl
      obtain ⟨x, st2, q4, q5, q6⟩ := zk_st_lv q3 rfl
      have hst : st = .long y :: .long x :: st2 := by rw [← q4]; exact q1
      subst hst
      have q2 : y.toInt = zl_ev s e2 := q2 (zz_beq b1)
      have q5 : x.toInt = zl_ev s e1 := q5 (zz_beq b2)
      rw [zl_c_ok (s := s) hc] at q2
      have z1 := zl_en_ok g4 g5 b4
      have z2 := zl_en_ok g4 g5 b6
      rw [zl_sub_ev, zl_con_ev] at z2
      have hq : (x - x / y * y).toInt = zl_ev s e1 := by
        rw [zk_lrem_pos (by omega) (by omega), q5, q2]
        exact Int.emod_eq_of_lt z1 (by omega)
      have hy0 : ¬ y = 0 := fun h0 => by
        subst h0
        have h0 : (0 : Int64).toInt = 0 := rfl
        rw [h0] at q2
        omega
      exact ⟨s, _, ze_lrem hy0 rfl, rfl, ⟨g1, ⟨zk_v_lv hq, q6⟩, g3, g4, g5, g6⟩, fun j hj => rfl⟩
    · cases h
  · cases h
def zt_lrem2 (hs : List (List Nat)) (A : zk_A) : Option zk_A := cond (Nat.beq ((hs.getD 0 []).getD 0 0) 7) (zt_lremC hs A) (cond (Nat.beq ((hs.getD 0 []).getD 0 0) 8) (zt_lremD hs A) (zt_lq hs A))
theorem zt_lrem2_ok {I : zz_W → Prop} {A A' : zk_A} {n : Nat} {hs : List (List Nat)} (h : zt_lrem2 hs A = some A') : zk_S I (za_lrem n) n A A' := by
  unfold zt_lrem2 at h
  cases hb : Nat.beq ((hs.getD 0 []).getD 0 0) 7 with
  | true =>
    rw [hb] at h
    exact zt_lremC_ok h
  | false =>
    rw [hb] at h
    have h : cond (Nat.beq ((hs.getD 0 []).getD 0 0) 8) (zt_lremD hs A) (zt_lq hs A) = some A' := h
    cases hb2 : Nat.beq ((hs.getD 0 []).getD 0 0) 8 with
    | true =>
      rw [hb2] at h
      exact zt_lremD_ok h
    | false =>
      rw [hb2] at h
      exact zt_lrem_ok h
end
end
section
/-! TOKENS, on: how one follows from another, through a write or without one -/
noncomputable section
theorem zk_sl2_u {s : Nat → Int} {t : List zl_E} {l : List Int} (h : zk_sl2 s t l) : zk_u s t = fun m => l.getD m 0 := by
  funext m
  unfold zk_u
  cases hm : t[m]? with
  | some q => exact (h.2 m q hm).symm
  | none =>
    have h1 : l.length ≤ m := by
      rw [← h.1]
      exact List.getElem?_eq_none_iff.mp hm
    show (0 : Int) = l.getD m 0
    rw [List.getD_eq_getElem?_getD, List.getElem?_eq_none h1]
    rfl
theorem zk_sl2_sy {s : Nat → Int} : ∀ {l : List Int} {n : Nat}, (∀ m, m < l.length → s (n + m) = l.getD m 0) → zk_sl2 s (zk_syms n l.length) l
  | [], _, _ => zk_sl2_nil
  | x :: l, n, h => by
    have h0 := h 0 (by simp)
    refine zk_sl2_cons ?_ (zk_sl2_sy (l := l) (n := n + 1) (fun m hm => ?_))
    · rw [zl_sym_ev]
      exact h0.symm
    · have := h (m + 1) (by simpa using hm)
      rw [show n + 1 + m = n + (m + 1) by omega, this]
      rfl
/-- hints of a case: 0 it can't be; k + 1: it is the case k of what follows -/
abbrev zk_Gh : Type := Nat × List (List Nat)
def zk_gl (B : List (Int × Int)) (C t : List zl_E) (ds : List (List zl_E)) (h : zk_Gh) : Bool := match h.1 with
  | 0 => zl_en B C (h.2.getD 0 []) (zl_con (-1))
  | k + 1 => match ds[k]? with
    | some d => zk_ens B C t d h.2
    | none => false
theorem zk_gl_ok {s : Nat → Int} {B : List (Int × Int)} {C t : List zl_E} {ds : List (List zl_E)} {h : zk_Gh} (hB : zl_in s B) (hC : zk_cs s C) (hg : zk_gl B C t ds h = true) : ∃ d ∈ ds, zk_cs (zk_u s t) d := by
  unfold zk_gl at hg
  split at hg
  · have := zl_en_ok hB hC hg
    rw [zl_con_ev] at this
    omega
  · rename_i k hk
    split at hg
    · rename_i d hd
      exact ⟨d, List.mem_of_getElem? hd, zk_ens_ok hB hC hg⟩
    · cases hg
def zk_gls (B : List (Int × Int)) (C t0 t : List zl_E) (ds : List (List zl_E)) : List (List zl_E) → List zk_Gh → Bool
  | [], _ => true
  | d :: r, h :: hs => d.all (fun c => Nat.ble (zl_mx c.2) t0.length) && (zk_gl B (d.map (zl_subst t0) ++ C) t ds h && zk_gls B C t0 t ds r hs)
  | _ :: _, [] => false
theorem zk_gls_ok {s : Nat → Int} {B : List (Int × Int)} {C t0 t : List zl_E} {ds : List (List zl_E)} (hB : zl_in s B) (hC : zk_cs s C) : ∀ {ds0 : List (List zl_E)} {hs : List zk_Gh}, zk_gls B C t0 t ds ds0 hs = true → ∀ d ∈ ds0, zk_cs (zk_u s t0) d → ∃ d ∈ ds, zk_cs (zk_u s t) d
  | [], _, _, d, hd, _ => absurd hd List.not_mem_nil
  | _ :: _, [], h, _, _, _ => by cases h
  | d0 :: r, h0 :: hs, h, d, hd, hc => by
    unfold zk_gls at h
    obtain ⟨b1, hb⟩ := zz_and h
    obtain ⟨b2, b3⟩ := zz_and hb
    rcases List.mem_cons.mp hd with e | hd
    · subst e
      refine zk_gl_ok hB (fun c hc' => ?_) b2
      rcases List.mem_append.mp hc' with hc' | hc'
      · obtain ⟨c0, c1, c2⟩ := List.mem_map.mp hc'
        subst c2
        rw [zl_subst_ev (u := zk_u s t0) (zz_ble (List.all_eq_true.mp b1 c0 c1)) zk_u_at]
        exact hc c0 c1
      · exact hC c hc'
    · exact zk_gls_ok hB hC b3 d hd hc
/-- at the place e: what is known of the elements there -/
def zk_mid (E : List zk_E1) (e : zl_E) : Nat → List Nat → List zl_E
  | _, [] => []
  | n, r :: rs => match cond (Nat.blt r 1000000) (zk_ek E r e) none with
    | some v => zl_sub (zl_sym n) v :: zl_sub v (zl_sym n) :: zk_mid E e (n + 1) rs
    | none => zk_mid E e (n + 1) rs
theorem zk_mid_ok {s : Nat → Int} {E : List zk_E1} {e : zl_E} {w : zz_W} (hE : zk_eF s E w) : ∀ {rs : List Nat} {n : Nat}, (∀ m, m < rs.length → s (n + m) = (rs.map (fun r => zk_el w r (zl_ev s e))).getD m 0) → zk_cs s (zk_mid E e n rs)
  | [], _, _ => fun c hc => by cases hc
  | r :: rs, n, h => by
    have h0 : s n = zk_el w r (zl_ev s e) := h 0 (by simp)
    have ih := zk_mid_ok (rs := rs) (n := n + 1) hE (fun m hm => by
      have := h (m + 1) (by simpa using hm)
      rw [show n + 1 + m = n + (m + 1) by omega, this]
      rfl)
    unfold zk_mid
    split
    · rename_i v hv
      obtain ⟨b0, hv⟩ := zz_cond hv
      have hv := (zk_ek_ok hv hE).2
      rw [zk_xe_r b0] at hv
      intro c hc
      rcases List.mem_cons.mp hc with ec | hc
      · rw [ec, zl_sub_ev, zl_sym_ev]; omega
      · rcases List.mem_cons.mp hc with ec | hc
        · rw [ec, zl_sub_ev, zl_sym_ev]; omega
        · exact ih c hc
    · exact ih
def zk_leN : List Nat → List Nat → Bool
  | [], [] => true
  | a :: l, b :: m => Nat.beq a b && zk_leN l m
  | _, _ => false
theorem zk_leN_ok : ∀ {l m : List Nat}, zk_leN l m = true → l = m
  | [], [], _ => rfl
  | [], _ :: _, h => by cases h
  | _ :: _, [], h => by cases h
  | a :: l, b :: m, h => by
    obtain ⟨h1, h2⟩ := zz_and h
    rw [zz_beq h1, zk_leN_ok h2]
/-- what it comes from: the fields' sums and the cases -/
def zk_src (TS : zk_TY) (K : List Nat) (F : List ((Nat × Nat) × zk_V)) (rows : List Nat) : Nat → Option (List zl_E × List (List zl_E))
  | 0 => some ([], [[]])
  | t + 1 => match TS.1 t with
    | some p => cond ((Nat.blt t 1000 && K.any (Nat.beq t)) && zk_leN p.1 rows) (match zk_fsm F p.2.1 with
      | some f => some (f, p.2.2)
      | none => none) none
    | none => none
/-- which token, from which (0: none; t + 1), the place that is looked at alone, hints -/
abbrev zk_Cv : Type := Nat × Nat × List zl_E × List zk_Gh × List zk_Gh × zk_Gh
def zk_cv (HT : List (List zk_H)) (TS : zk_TY) (K : List Nat) (B : List (Int × Int)) (C : List zl_E) (F0 F1 : List ((Nat × Nat) × zk_V)) (E : List zk_E1) (x : zk_Cv) : Bool := match TS.1 x.1 with
  | some (r0 :: rs, fs, ds) => match zk_fsm F1 fs, zk_src TS K F0 (r0 :: rs) x.2.1 with
    | some f1, some (f0, ds0) =>
      (Nat.blt x.1 1000 && (r0 :: rs).all (fun r => Nat.beq (zk_h HT r).1 0 && Nat.ble (zk_h HT r0).2.2.1 (zk_h HT r).2.2.1)) && (zk_wf B.length [] [] F0 C && (zk_wf B.length [] [] F1 C && (zk_eW HT B.length E &&
      (match x.2.2.1 with
        | [] => zk_gls (B ++ (0, ((zk_h HT r0).2.2.1 : Int) - 1) :: (r0 :: rs).map (fun r => ((zk_h HT r).2.2.2.1, (zk_h HT r).2.2.2.2.1))) C (zl_sym B.length :: (zk_syms (B.length + 1) (r0 :: rs).length ++ f0)) (zl_sym B.length :: (zk_syms (B.length + 1) (r0 :: rs).length ++ f1)) ds ds0 x.2.2.2.1
        | e :: _ => Nat.ble (zl_mx e.2) B.length && (zk_gls (B ++ (0, ((zk_h HT r0).2.2.1 : Int) - 1) :: (r0 :: rs).map (fun r => ((zk_h HT r).2.2.2.1, (zk_h HT r).2.2.2.2.1))) (zl_sub (zl_sub e (zl_sym B.length)) (zl_con 1) :: C) (zl_sym B.length :: (zk_syms (B.length + 1) (r0 :: rs).length ++ f0)) (zl_sym B.length :: (zk_syms (B.length + 1) (r0 :: rs).length ++ f1)) ds ds0 x.2.2.2.1 &&
          (zk_gls (B ++ (0, ((zk_h HT r0).2.2.1 : Int) - 1) :: (r0 :: rs).map (fun r => ((zk_h HT r).2.2.2.1, (zk_h HT r).2.2.2.2.1))) (zl_sub (zl_sub (zl_sym B.length) e) (zl_con 1) :: C) (zl_sym B.length :: (zk_syms (B.length + 1) (r0 :: rs).length ++ f0)) (zl_sym B.length :: (zk_syms (B.length + 1) (r0 :: rs).length ++ f1)) ds ds0 x.2.2.2.2.1 &&
          zk_gl (B ++ (0, ((zk_h HT r0).2.2.1 : Int) - 1) :: (r0 :: rs).map (fun r => ((zk_h HT r).2.2.2.1, (zk_h HT r).2.2.2.2.1))) (zl_sub (zl_sym B.length) e :: zl_sub e (zl_sym B.length) :: (zk_mid E e (B.length + 1) (r0 :: rs) ++ C)) (zl_sym B.length :: (zk_syms (B.length + 1) (r0 :: rs).length ++ f1)) ds x.2.2.2.2.2))))))
    | _, _ => false
  | _ => false
theorem zk_getD_map {α : Type} (f : α → Int) : ∀ (l : List α) (m : Nat) (a : α), l[m]? = some a → (l.map f).getD m 0 = f a := by
  intro l m a h
  rw [List.getD_eq_getElem?_getD, List.getElem?_map, h]
  rfl
theorem zk_cv_ok {c : Nat} {HT : List (List zk_H)} {PT : Nat → zz_W → Prop} {SU : Nat → List (Nat × Nat)} {TS : zk_TY} (hTT : zk_TT c HT PT SU TS) {K : List Nat} {B : List (Int × Int)} {C : List zl_E} {F0 F1 : List ((Nat × Nat) × zk_V)} {E : List zk_E1} {x : zk_Cv} (h : zk_cv HT TS K B C F0 F1 E x = true) {s : Nat → Int} {wS w : zz_W} (hI : zk_I c HT w) (hB : zl_in s B) (hC : zk_cs s C) (hF0 : zk_fl s F0 wS) (hF1 : zk_fl s F1 w) (hE : zk_eF s E w) (hK : ∀ t ∈ K, PT t wS)
    (hrow : ∀ r m, (zk_h HT r).1 = 0 → 0 ≤ m → (∀ e l, x.2.2.1 = e :: l → m ≠ zl_ev s e) → zk_el w r m = zk_el wS r m) : PT x.1 w := by
  unfold zk_cv at h
  split at h
  · rename_i r0 rs fs ds hp
    split at h
    · rename_i f1 f0 ds0 hf1 hsrc
      obtain ⟨b1, hb⟩ := zz_and h
      obtain ⟨b0, b1⟩ := zz_and b1
      obtain ⟨b2, hb⟩ := zz_and hb
      obtain ⟨b3, hb⟩ := zz_and hb
      obtain ⟨b4, b5⟩ := zz_and hb
      refine (hTT.2.1 _ _ (zz_blt b0) hp w).mpr (fun j hj => ?_)
      have hj : ∀ r ∈ r0 :: rs, j < (zk_h HT r).2.2.1 := hj
      generalize hvl : (r0 :: rs).map (fun r => zk_el w r (j : Int)) = vl
      have hvlen : vl.length = (r0 :: rs).length := by rw [← hvl, List.length_map]
      have hd : ∀ m, m < B.length → (fun m => if m < B.length then s m else ((j : Int) :: vl).getD (m - B.length) 0) m = s m := fun m hm => if_pos hm
      have hnew : ∀ m, (fun m => if m < B.length then s m else ((j : Int) :: vl).getD (m - B.length) 0) (B.length + m) = ((j : Int) :: vl).getD m 0 := by
        intro m
        show (if B.length + m < B.length then _ else _) = _
        rw [if_neg (by omega)]
        congr 1
        omega
      generalize (fun m => if m < B.length then s m else ((j : Int) :: vl).getD (m - B.length) 0) = s2 at hd hnew
      obtain ⟨-, -, y3, y4⟩ := zk_wf_ok (lv := []) (st := []) b2 hd (fun q hq => absurd hq List.not_mem_nil) trivial hF0 hC
      obtain ⟨-, -, z3, -⟩ := zk_wf_ok (lv := []) (st := []) b3 hd (fun q hq => absurd hq List.not_mem_nil) trivial hF1 hC
      have hE2 := zk_eW_eq b4 hd hE
      have hjs : (j : Int) = zl_ev s2 (zl_sym B.length) := by
        rw [zl_sym_ev]
        have := hnew 0
        rw [Nat.add_zero] at this
        rw [this]
        rfl
      have hsy : zk_sl2 s2 (zk_syms (B.length + 1) (r0 :: rs).length) vl := by
        rw [← hvlen]
        refine zk_sl2_sy (fun m hm => ?_)
        rw [show B.length + 1 + m = B.length + (m + 1) by omega, hnew]
        rfl
      have hB2 : zl_in s2 (B ++ (0, ((zk_h HT r0).2.2.1 : Int) - 1) :: (r0 :: rs).map (fun r => ((zk_h HT r).2.2.2.1, (zk_h HT r).2.2.2.2.1))) := by
        intro k q hq
        by_cases hk : k < B.length
        · rw [List.getElem?_append_left hk] at hq
          rw [hd k hk]
          exact hB k q hq
        · rw [List.getElem?_append_right (by omega)] at hq
          have e1 := hnew (k - B.length)
          rw [show B.length + (k - B.length) = k by omega] at e1
          rw [e1]
          cases hk2 : k - B.length with
          | zero =>
            rw [hk2] at hq
            cases hq
            have := hj r0 List.mem_cons_self
            show (0 : Int) ≤ (j : Int) ∧ (j : Int) ≤ ((zk_h HT r0).2.2.1 : Int) - 1
            omega
          | succ m =>
            rw [hk2] at hq
            have hq : ((r0 :: rs).map (fun r => ((zk_h HT r).2.2.2.1, (zk_h HT r).2.2.2.2.1)))[m]? = some q := hq
            rw [List.getElem?_map] at hq
            cases hr : (r0 :: rs)[m]? with
            | none => rw [hr] at hq; cases hq
            | some r =>
              rw [hr] at hq
              cases hq
              have hmem := List.mem_of_getElem? hr
              obtain ⟨c1, c2⟩ := zz_and (List.all_eq_true.mp b1 r hmem)
              have hv : vl.getD m 0 = zk_el w r (j : Int) := by
                rw [← hvl]
                exact zk_getD_map _ _ _ _ hr
              show _ ≤ vl.getD m 0 ∧ vl.getD m 0 ≤ _
              rw [hv]
              obtain ⟨-, -, -, -, h0, -⟩ := hI.2.2.2 r (by have := zz_beq c1; omega)
              have := (h0 (zz_beq c1) j (hj r hmem)).1
              unfold zk_el
              rw [show ((j : Int)).toNat = j by omega]
              exact this
      have hs1 : zk_sl2 s2 (zl_sym B.length :: (zk_syms (B.length + 1) (r0 :: rs).length ++ f1)) (zk_al w (r0 :: rs) fs j) := by
        unfold zk_al
        rw [hvl]
        exact zk_sl2_cons hjs (zk_sl2_app hsy (zk_fsm_ok z3 hf1))
      have hu1 := zk_sl2_u hs1
      -- what is known of the source at j
      have hsrc2 : (∀ e l, x.2.2.1 = e :: l → (j : Int) ≠ zl_ev s e) → ∃ d ∈ ds0, zk_cs (zk_u s2 (zl_sym B.length :: (zk_syms (B.length + 1) (r0 :: rs).length ++ f0))) d := by
        intro hne
        unfold zk_src at hsrc
        split at hsrc
        · cases hsrc
          exact ⟨[], List.mem_cons_self, fun c hc => by cases hc⟩
        · rename_i t ht
          split at hsrc
          · rename_i p hp0
            obtain ⟨hbb, hsrc⟩ := zz_cond hsrc
            obtain ⟨d1, d2⟩ := zz_and hbb
            obtain ⟨d0, d1⟩ := zz_and d1
            split at hsrc
            · rename_i f hf
              cases hsrc
              have hrows := zk_leN_ok d2
              have hP := (hTT.2.1 _ _ (zz_blt d0) hp0 wS).mp (hK t (zk_any_beq d1)) j (by rw [hrows]; exact hj)
              obtain ⟨d, e1, e2⟩ := hP
              refine ⟨d, e1, ?_⟩
              have hs0 : zk_sl2 s2 (zl_sym B.length :: (zk_syms (B.length + 1) (r0 :: rs).length ++ f0)) (zk_al wS p.1 p.2.1 j) := by
                unfold zk_al
                rw [hrows]
                refine zk_sl2_cons hjs (zk_sl2_app ?_ (zk_fsm_ok y3 hf))
                rw [show (r0 :: rs).map (fun r => zk_el wS r (j : Int)) = vl from ?_]
                · exact hsy
                · rw [← hvl]
                  refine List.map_congr_left (fun r hr => ?_)
                  exact (hrow r j (zz_beq (zz_and (List.all_eq_true.mp b1 r hr)).1) (by omega) hne).symm
              rw [zk_sl2_u hs0]
              exact e2
            · cases hsrc
          · cases hsrc
      show ∃ d ∈ ds, zk_cs (fun m => (zk_al w (r0 :: rs) fs j).getD m 0) d
      rw [← hu1]
      split at b5
      · rename_i hx
        obtain ⟨d, d1, d2⟩ := hsrc2 (fun e l he => by rw [hx] at he; cases he)
        exact zk_gls_ok hB2 y4 b5 d d1 d2
      · rename_i e l hx
        obtain ⟨c1, b5⟩ := zz_and b5
        obtain ⟨c2, b5⟩ := zz_and b5
        obtain ⟨c3, c4⟩ := zz_and b5
        have he : zl_ev s2 e = zl_ev s e := zl_ev_eq (n := B.length) (zz_ble c1) hd
        by_cases h1 : (j : Int) = zl_ev s e
        · refine zk_gl_ok hB2 (fun q hq => ?_) c4
          rcases List.mem_cons.mp hq with eq | hq
          · rw [eq, zl_sub_ev, ← hjs, he]; omega
          · rcases List.mem_cons.mp hq with eq | hq
            · rw [eq, zl_sub_ev, ← hjs, he]; omega
            · rcases List.mem_append.mp hq with hq | hq
              · refine zk_mid_ok hE2 (fun m hm => ?_) q hq
                rw [show B.length + 1 + m = B.length + (m + 1) by omega, hnew, he, ← h1, hvl]
                rfl
              · exact y4 q hq
        · obtain ⟨d, d1, d2⟩ := hsrc2 (fun e' l' he' => by rw [hx] at he'; cases he'; exact h1)
          by_cases h2 : (j : Int) < zl_ev s e
          · refine zk_gls_ok hB2 (fun q hq => ?_) c2 d d1 d2
            rcases List.mem_cons.mp hq with eq | hq
            · rw [eq, zl_sub_ev, zl_sub_ev, zl_con_ev, ← hjs, he]; omega
            · exact y4 q hq
          · refine zk_gls_ok hB2 (fun q hq => ?_) c3 d d1 d2
            rcases List.mem_cons.mp hq with eq | hq
            · rw [eq, zl_sub_ev, zl_sub_ev, zl_con_ev, ← hjs, he]; omega
            · exact y4 q hq
    · cases h
  · cases h
/-! LAWS OF TWO PLACES: how one follows from others -/
/-- of a symbol: 0 anything, 1 ahead of e, 2 behind e, 3 at e -/
def zk_rgc (n : Nat) (e : zl_E) (g : Nat) : List zl_E := match g with
  | 1 => [zl_sub (zl_sub e (zl_sym n)) (zl_con 1)]
  | 2 => [zl_sub (zl_sub (zl_sym n) e) (zl_con 1)]
  | 3 => [zl_sub (zl_sym n) e, zl_sub e (zl_sym n)]
  | _ => []
def zk_rgs (p : List zl_E) : List Nat := match p with
  | [] => [0]
  | _ :: _ => [1, 2, 3]
def zk_rin (g : Nat) (v e : Int) : Prop := (g = 1 → v < e) ∧ (g = 2 → e < v) ∧ (g = 3 → v = e)
theorem zk_rgs_ex (p : List zl_E) (v e : Int) : ∃ g ∈ zk_rgs p, zk_rin g v e ∧ (g = 0 → p = []) := by
  cases p with
  | nil => exact ⟨0, List.mem_cons_self, ⟨fun h => by omega, fun h => by omega, fun h => by omega⟩, fun _ => rfl⟩
  | cons a l =>
    by_cases h1 : v < e
    · exact ⟨1, List.mem_cons_self, ⟨fun _ => h1, fun h => by omega, fun h => by omega⟩, fun h => by omega⟩
    · by_cases h2 : e < v
      · exact ⟨2, List.mem_cons_of_mem _ List.mem_cons_self, ⟨fun h => by omega, fun _ => h2, fun h => by omega⟩, fun h => by omega⟩
      · exact ⟨3, List.mem_cons_of_mem _ (List.mem_cons_of_mem _ List.mem_cons_self), ⟨fun h => by omega, fun h => by omega, fun _ => by omega⟩, fun h => by omega⟩
theorem zk_rgc_ok {s : Nat → Int} {n : Nat} {e : zl_E} {g : Nat} (h : zk_rin g (s n) (zl_ev s e)) : zk_cs s (zk_rgc n e g) := by
  intro c hc
  unfold zk_rgc at hc
  split at hc
  · rw [List.mem_singleton.mp hc, zl_sub_ev, zl_sub_ev, zl_sym_ev, zl_con_ev]
    have := h.1 rfl
    omega
  · rw [List.mem_singleton.mp hc, zl_sub_ev, zl_sub_ev, zl_sym_ev, zl_con_ev]
    have := h.2.1 rfl
    omega
  · have := h.2.2 rfl
    rcases List.mem_cons.mp hc with e1 | hc
    · rw [e1, zl_sub_ev, zl_sym_ev]; omega
    · rw [List.mem_singleton.mp hc, zl_sub_ev, zl_sym_ev]; omega
  · cases hc
/-- all cases of all sources, one behind the other; the hints that are left -/
def zk_lv (B : List (Int × Int)) (t : List zl_E) (ds : List (List zl_E)) : List (List zl_E × List (List zl_E)) → List zl_E → List zk_Gh → Option (List zk_Gh)
  | [], C, hs => match hs with
    | [] => none
    | h :: r => cond (zk_gl B C t ds h) (some r) none
  | q :: qs, C, hs => q.2.foldl (fun o d => match o with
    | some h => cond (d.all (fun c => Nat.ble (zl_mx c.2) q.1.length)) (zk_lv B t ds qs (d.map (zl_subst q.1) ++ C) h) none
    | none => none) (some hs)
theorem zk_fol_none {α : Type} (f : α → List zk_Gh → Option (List zk_Gh)) : ∀ (l : List α), l.foldl (fun o d => match o with | some h => f d h | none => none) (none : Option (List zk_Gh)) = none
  | [] => rfl
  | _ :: l => zk_fol_none f l
theorem zk_fol_mem {α : Type} (f : α → List zk_Gh → Option (List zk_Gh)) : ∀ (l : List α) (h r : List zk_Gh), l.foldl (fun o d => match o with | some h => f d h | none => none) (some h) = some r → ∀ d ∈ l, ∃ h1 h2, f d h1 = some h2
  | [], _, _, _, d, hd => absurd hd List.not_mem_nil
  | a :: l, h, r, hf, d, hd => by
    have hf : l.foldl (fun o d => match o with | some h => f d h | none => none) (f a h) = some r := hf
    cases ha : f a h with
    | none =>
      rw [ha, zk_fol_none f l] at hf
      cases hf
    | some h2 =>
      rw [ha] at hf
      rcases List.mem_cons.mp hd with e | hd
      · subst e
        exact ⟨h, h2, ha⟩
      · exact zk_fol_mem f l h2 r hf d hd
theorem zk_lv_ok {s : Nat → Int} {B : List (Int × Int)} {t : List zl_E} {ds : List (List zl_E)} (hB : zl_in s B) : ∀ (Q : List (List zl_E × List (List zl_E))) (C : List zl_E) (h r : List zk_Gh), zk_lv B t ds Q C h = some r → zk_cs s C → (∀ q ∈ Q, ∃ d ∈ q.2, zk_cs (zk_u s q.1) d) → ∃ d ∈ ds, zk_cs (zk_u s t) d
  | [], C, [], r, hl, _, _ => by cases hl
  | [], C, h :: hs, r, hl, hC, _ => by
    have hl : cond (zk_gl B C t ds h) (some hs) none = some r := hl
    obtain ⟨b, -⟩ := zz_cond hl
    exact zk_gl_ok hB hC b
  | q :: qs, C, h, r, hl, hC, hQ => by
    obtain ⟨d, d1, d2⟩ := hQ q List.mem_cons_self
    have hl : q.2.foldl (fun o d => match o with
      | some h => cond (d.all (fun c => Nat.ble (zl_mx c.2) q.1.length)) (zk_lv B t ds qs (d.map (zl_subst q.1) ++ C) h) none
      | none => none) (some h) = some r := hl
    obtain ⟨h1, h2, h3⟩ := zk_fol_mem (fun (d : List zl_E) (h : List zk_Gh) => cond (d.all (fun c => Nat.ble (zl_mx c.2) q.1.length)) (zk_lv B t ds qs (d.map (zl_subst q.1) ++ C) h) none) q.2 h r hl d d1
    obtain ⟨b, h3⟩ := zz_cond h3
    refine zk_lv_ok hB qs _ h1 h2 h3 (fun c hc => ?_) (fun q' hq' => hQ q' (List.mem_cons_of_mem _ hq'))
    rcases List.mem_append.mp hc with hc | hc
    · obtain ⟨c0, c1, c2⟩ := List.mem_map.mp hc
      subst c2
      rw [zl_subst_ev (u := zk_u s q.1) (zz_ble (List.all_eq_true.mp b c0 c1)) zk_u_at]
      exact d2 c0 c1
    · exact hC c hc
/-- the elements at a place are as they were -/
def zk_same (A : List Nat) (p : List zl_E) (W : List (Nat × zl_E)) (g : Nat) : Bool := W.all (fun q => !(A.any (Nat.beq q.1)) || ((match p with
  | [] => false
  | e :: _ => zl_nul (zl_sub e q.2)) && !(Nat.beq g 3)))
theorem zk_same_ok {A : List Nat} {p : List zl_E} {W : List (Nat × zl_E)} {g : Nat} (h : zk_same A p W g = true) {s : Nat → Int} {v : Int} (hg : zk_rin g v (zl_ev s (p.getD 0 (zl_con 0)))) (h0 : g ∈ zk_rgs p) : ∀ q ∈ W, ∀ r ∈ A, q.1 = r → v ≠ zl_ev s q.2 := by
  intro q hq r hr e hv
  rcases Bool.or_eq_true_iff.mp (List.all_eq_true.mp h q hq) with h1 | h1
  · have : A.any (Nat.beq q.1) = true := List.any_eq_true.mpr ⟨r, hr, by rw [e]; exact Nat.beq_refl r⟩
    rw [this] at h1
    cases h1
  · obtain ⟨h1, h2⟩ := zz_and h1
    cases p with
    | nil => cases h1
    | cons a l =>
      have h3 := zl_nul_ok (s := s) (show zl_nul (zl_sub a q.2) = true from h1)
      rw [zl_sub_ev] at h3
      have hg : zk_rin g v (zl_ev s a) := hg
      have h0 : g ∈ [1, 2, 3] := h0
      have hg3 : g ≠ 3 := zk_nbeq h2
      rcases List.mem_cons.mp h0 with e1 | h0
      · have := hg.1 e1
        omega
      · rcases List.mem_cons.mp h0 with e1 | h0
        · have := hg.2.1 e1
          omega
        · exact hg3 (List.mem_singleton.mp h0)
/-- a source: [token, 0 both places, 1 the first, 2 the second] -/
def zk_sr (TS : zk_TY) (K : List Nat) (F0 : List ((Nat × Nat) × zk_V)) (rows A Bw : List Nat) (kA jB : List zl_E) (oA oB : Bool) (q : List Nat) : List zl_E × List (List zl_E) := match q.getD 1 0 with
  | 1 => match TS.1 (q.getD 0 0) with
    | some p => match zk_fsm F0 p.2.1 with
      | some f => cond ((Nat.blt (q.getD 0 0) 1000 && K.any (Nat.beq (q.getD 0 0))) && (zk_leN p.1 A && oA)) (kA ++ f, p.2.2) ([], [[]])
      | none => ([], [[]])
    | none => ([], [[]])
  | 2 => match TS.1 (q.getD 0 0) with
    | some p => match zk_fsm F0 p.2.1 with
      | some f => cond ((Nat.blt (q.getD 0 0) 1000 && K.any (Nat.beq (q.getD 0 0))) && (zk_leN p.1 Bw && oB)) (jB ++ f, p.2.2) ([], [[]])
      | none => ([], [[]])
    | none => ([], [[]])
  | _ => match TS.1 (1000 + q.getD 0 0) with
    | some p => match zk_fsm F0 p.2.1 with
      | some f => cond (K.any (Nat.beq (q.getD 0 0)) && (zk_leN p.1 rows && (oA && oB))) (kA ++ (jB ++ f), p.2.2) ([], [[]])
      | none => ([], [[]])
    | none => ([], [[]])
theorem zk_nos {s : Nat → Int} : ∃ d ∈ (([], [[]]) : List zl_E × List (List zl_E)).2, zk_cs (zk_u s (([], [[]]) : List zl_E × List (List zl_E)).1) d := ⟨[], List.mem_cons_self, fun c hc => by cases hc⟩
theorem zk_sr_ok {c : Nat} {HT : List (List zk_H)} {PT : Nat → zz_W → Prop} {SU : Nat → List (Nat × Nat)} {TS : zk_TY} (hTT : zk_TT c HT PT SU TS) {K : List Nat} {F0 : List ((Nat × Nat) × zk_V)} {rows : List Nat} {kA jB : List zl_E} {oA oB : Bool} {q : List Nat} {s : Nat → Int} {wS : zz_W} {k j : Nat} (hF : zk_fl s F0 wS) (hK : ∀ t ∈ K, PT t wS) (hk : ∀ r ∈ (zk_sp2 rows).1, k < (zk_h HT r).2.2.1) (hj : ∀ r ∈ (zk_sp2 rows).2, j < (zk_h HT r).2.2.1) (hA : oA = true → zk_sl2 s kA (zk_a1 wS (zk_sp2 rows).1 k)) (hB : oB = true → zk_sl2 s jB (zk_a1 wS (zk_sp2 rows).2 j)) : ∃ d ∈ (zk_sr TS K F0 rows (zk_sp2 rows).1 (zk_sp2 rows).2 kA jB oA oB q).2, zk_cs (zk_u s (zk_sr TS K F0 rows (zk_sp2 rows).1 (zk_sp2 rows).2 kA jB oA oB q).1) d := by
  unfold zk_sr
  split
  · split
    · rename_i p hp
      split
      · rename_i f hf
        cases hb : ((Nat.blt (q.getD 0 0) 1000 && K.any (Nat.beq (q.getD 0 0))) && (zk_leN p.1 (zk_sp2 rows).1 && oA)) with
        | false => exact zk_nos
        | true =>
          obtain ⟨b1, b2⟩ := zz_and hb
          obtain ⟨b0, b1⟩ := zz_and b1
          obtain ⟨b2, b3⟩ := zz_and b2
          have hr := zk_leN_ok b2
          obtain ⟨d, d1, d2⟩ := (hTT.2.1 _ _ (zz_blt b0) hp wS).mp (hK _ (zk_any_beq b1)) k (by rw [hr]; exact hk)
          refine ⟨d, d1, ?_⟩
          have h2 : zk_sl2 s (kA ++ f) (zk_al wS p.1 p.2.1 k) := by
            have := zk_sl2_app (hA b3) (zk_fsm_ok hF hf)
            rw [← hr] at this
            exact this
          show zk_cs (zk_u s (kA ++ f)) d
          rw [zk_sl2_u h2]
          exact d2
      · exact zk_nos
    · exact zk_nos
  · split
    · rename_i p hp
      split
      · rename_i f hf
        cases hb : ((Nat.blt (q.getD 0 0) 1000 && K.any (Nat.beq (q.getD 0 0))) && (zk_leN p.1 (zk_sp2 rows).2 && oB)) with
        | false => exact zk_nos
        | true =>
          obtain ⟨b1, b2⟩ := zz_and hb
          obtain ⟨b0, b1⟩ := zz_and b1
          obtain ⟨b2, b3⟩ := zz_and b2
          have hr := zk_leN_ok b2
          obtain ⟨d, d1, d2⟩ := (hTT.2.1 _ _ (zz_blt b0) hp wS).mp (hK _ (zk_any_beq b1)) j (by rw [hr]; exact hj)
          refine ⟨d, d1, ?_⟩
          have h2 : zk_sl2 s (jB ++ f) (zk_al wS p.1 p.2.1 j) := by
            have := zk_sl2_app (hB b3) (zk_fsm_ok hF hf)
            rw [← hr] at this
            exact this
          show zk_cs (zk_u s (jB ++ f)) d
          rw [zk_sl2_u h2]
          exact d2
      · exact zk_nos
    · exact zk_nos
  · split
    · rename_i p hp
      split
      · rename_i f hf
        cases hb : (K.any (Nat.beq (q.getD 0 0)) && (zk_leN p.1 rows && (oA && oB))) with
        | false => exact zk_nos
        | true =>
          obtain ⟨b1, b2⟩ := zz_and hb
          obtain ⟨b2, b3⟩ := zz_and b2
          obtain ⟨b3, b4⟩ := zz_and b3
          have hr := zk_leN_ok b2
          obtain ⟨d, d1, d2⟩ := (hTT.2.2.1 _ _ hp wS).mp (hK _ (zk_any_beq b1)) k j (by rw [hr]; exact hk) (by rw [hr]; exact hj)
          refine ⟨d, d1, ?_⟩
          have h2 : zk_sl2 s (kA ++ (jB ++ f)) (zk_al2 wS (zk_sp2 p.1).1 (zk_sp2 p.1).2 p.2.1 k j) := by
            have := zk_sl2_app (hA b3) (zk_sl2_app (hB b4) (zk_fsm_ok hF hf))
            rw [← hr] at this
            exact this
          show zk_cs (zk_u s (kA ++ (jB ++ f))) d
          rw [zk_sl2_u h2]
          exact d2
      · exact zk_nos
    · exact zk_nos
/-- bounds of a place and of the rows' elements there -/
def zk_bx (HT : List (List zk_H)) (A : List Nat) : List (Int × Int) := (0, ((zk_h HT (A.getD 0 0)).2.2.1 : Int) - 1) :: A.map (fun r => ((zk_h HT r).2.2.2.1, (zk_h HT r).2.2.2.2.1))
def zk_bk (HT : List (List zk_H)) (A : List Nat) : Bool := Nat.blt 0 A.length && A.all (fun r => Nat.beq (zk_h HT r).1 0)
theorem zk_bx_ok {c : Nat} {HT : List (List zk_H)} {A : List Nat} {w : zz_W} {k : Nat} (hI : zk_I c HT w) (hb : zk_bk HT A = true) (hk : ∀ r ∈ A, k < (zk_h HT r).2.2.1) : ∀ (m : Nat) (q : Int × Int), (zk_bx HT A)[m]? = some q → q.1 ≤ (zk_a1 w A k).getD m 0 ∧ (zk_a1 w A k).getD m 0 ≤ q.2 := by
  obtain ⟨b1, b2⟩ := zz_and hb
  have b1 := zz_blt b1
  intro m q hq
  cases m with
  | zero =>
    cases hq
    have h1 : A.getD 0 0 ∈ A := by
      cases A with
      | nil => exact absurd b1 (by simp)
      | cons a l => exact List.mem_cons_self
    have := hk _ h1
    show (0 : Int) ≤ (k : Int) ∧ (k : Int) ≤ ((zk_h HT (A.getD 0 0)).2.2.1 : Int) - 1
    omega
  | succ m =>
    have hq : (A.map (fun r => ((zk_h HT r).2.2.2.1, (zk_h HT r).2.2.2.2.1)))[m]? = some q := hq
    rw [List.getElem?_map] at hq
    cases hr : A[m]? with
    | none => rw [hr] at hq; cases hq
    | some r =>
      rw [hr] at hq
      cases hq
      have hmem := List.mem_of_getElem? hr
      have c1 := zz_beq (List.all_eq_true.mp b2 r hmem)
      have hv : (A.map (fun r => zk_el w r (k : Int))).getD m 0 = zk_el w r (k : Int) := zk_getD_map _ _ _ _ hr
      show _ ≤ (A.map (fun r => zk_el w r (k : Int))).getD m 0 ∧ (A.map (fun r => zk_el w r (k : Int))).getD m 0 ≤ _
      rw [hv]
      obtain ⟨-, -, -, -, h0, -⟩ := hI.2.2.2 r (by omega)
      have := (h0 c1 k (hk r hmem)).1
      unfold zk_el
      rw [show ((k : Int)).toNat = k by omega]
      exact this
theorem zk_bx_len {HT : List (List zk_H)} {A : List Nat} : (zk_bx HT A).length = A.length + 1 := by
  unfold zk_bx
  rw [List.length_cons, List.length_map]
theorem zk_a1_len {w : zz_W} {A : List Nat} {k : Nat} : (zk_a1 w A k).length = A.length + 1 := by
  unfold zk_a1
  rw [List.length_cons, List.length_map]
/-- places that are looked at alone: the first place's, the second's -/
def zk_pA (x : zk_Cv) : List zl_E := match x.2.1 with
  | 1 => x.2.2.1.take 1
  | 3 => x.2.2.1.take 1
  | _ => []
def zk_pB (x : zk_Cv) : List zl_E := match x.2.1 with
  | 2 => x.2.2.1.take 1
  | 3 => x.2.2.1.drop 1
  | _ => []
def zk_rg2 (x : zk_Cv) : List (Nat × Nat) := (zk_rgs (zk_pA x)).flatMap (fun a => (zk_rgs (zk_pB x)).map (fun b => (a, b)))
/-- sums of a region, for one of the places -/
def zk_rgm (E : List zk_E1) (n : Nat) (A : List Nat) (p : List zl_E) (g : Nat) : List zl_E := zk_rgc n (p.getD 0 (zl_con 0)) g ++ cond (Nat.beq g 3) (zk_mid E (p.getD 0 (zl_con 0)) (n + 1) A) []
/-- the elements ahead at the place that is written: what was known of them -/
def zk_olr (E0 : List zk_E1) (r0 : Nat) (e : zl_E) : Nat → List Nat → Option (List zl_E)
  | _, [] => some []
  | n, r :: rs => match cond (Nat.beq r r0) (cond (Nat.blt r 1000000) (zk_ek E0 r e) none) (some (zl_sym n)), zk_olr E0 r0 e (n + 1) rs with
    | some v, some l => some (v :: l)
    | _, _ => none
def zk_ol (E0 : List zk_E1) (n : Nat) (A : List Nat) (p : List zl_E) (W : List (Nat × zl_E)) (g : Nat) : Option (List zl_E) := cond (zk_same A p W g) (some (zk_syms n (A.length + 1))) (match W, p with
  | [q], e :: _ => cond (zl_nul (zl_sub e q.2) && Nat.beq g 3) (match zk_olr E0 q.1 e (n + 1) A with
    | some l => some (zl_sym n :: l)
    | none => none) none
  | _, _ => none)
theorem zk_olr_ok {E0 : List zk_E1} {r0 : Nat} {e : zl_E} {s : Nat → Int} {w wS : zz_W} {k : Nat} (hE : zk_eF s E0 wS) (he : (k : Int) = zl_ev s e) : ∀ {A : List Nat} {n : Nat} {l : List zl_E}, (∀ r ∈ A, r ≠ r0 → zk_el w r (k : Int) = zk_el wS r (k : Int)) → (∀ m, m < A.length → s (n + m) = (A.map (fun r => zk_el w r (k : Int))).getD m 0) → zk_olr E0 r0 e n A = some l → zk_sl2 s l (A.map (fun r => zk_el wS r (k : Int)))
  | [], _, l, _, _, h => by
    cases h
    exact zk_sl2_nil
  | r :: rs, n, l, hne, hs, h => by
    unfold zk_olr at h
    split at h
    · rename_i v l' h1 h2
      cases h
      refine zk_sl2_cons ?_ (zk_olr_ok hE he (fun r' hr' => hne r' (List.mem_cons_of_mem _ hr')) (fun m hm => ?_) h2)
      · cases hb : Nat.beq r r0 with
        | true =>
          rw [hb] at h1
          obtain ⟨b0, h1⟩ := zz_cond (show cond (Nat.blt r 1000000) (zk_ek E0 r e) none = some v from h1)
          have h3 := (zk_ek_ok h1 hE).2
          rw [zk_xe_r b0, ← he] at h3
          exact h3
        | false =>
          rw [hb] at h1
          have h1 : some (zl_sym n) = some v := h1
          cases h1
          have h4 := hs 0 (by simp)
          show zk_el wS r (k : Int) = zl_ev s (zl_sym n)
          rw [zl_sym_ev, ← hne r List.mem_cons_self (fun e2 => by rw [e2, Nat.beq_refl] at hb; cases hb)]
          exact h4.symm
      · have h4 := hs (m + 1) (by simpa using hm)
        rw [show n + 1 + m = n + (m + 1) by omega]
        exact h4
    · cases h
theorem zk_ol_ok {E0 : List zk_E1} {n : Nat} {A : List Nat} {p : List zl_E} {W : List (Nat × zl_E)} {g : Nat} {l : List zl_E} {s : Nat → Int} {w wS : zz_W} {k : Nat} (h : zk_ol E0 n A p W g = some l) (hE : zk_eF s E0 wS) (hg : zk_rin g (k : Int) (zl_ev s (p.getD 0 (zl_con 0)))) (h0 : g ∈ zk_rgs p) (hn : ∀ m, m < A.length + 1 → s (n + m) = (zk_a1 w A k).getD m 0)
    (hrow : ∀ r, (∀ q ∈ W, q.1 = r → (k : Int) ≠ zl_ev s q.2) → r ∈ A → zk_el w r (k : Int) = zk_el wS r (k : Int)) (hall : ∀ r ∈ A, (∀ q ∈ W, q.1 ≠ r) → zk_el w r (k : Int) = zk_el wS r (k : Int)) : zk_sl2 s l (zk_a1 wS A k) := by
  unfold zk_ol at h
  cases hb : zk_same A p W g with
  | true =>
    rw [hb] at h
    have h : some (zk_syms n (A.length + 1)) = some l := h
    cases h
    have e1 : zk_a1 wS A k = zk_a1 w A k := by
      unfold zk_a1
      congr 1
      exact List.map_congr_left (fun r hr => (hrow r (fun q hq e => zk_same_ok hb hg h0 q hq r hr e) hr).symm)
    rw [e1]
    have := zk_sl2_sy (s := s) (l := zk_a1 w A k) (n := n) (fun m hm => hn m (by rw [zk_a1_len] at hm; exact hm))
    rw [zk_a1_len] at this
    exact this
  | false =>
    rw [hb, zk_cF rfl] at h
    cases W with
    | nil =>
      have h : (none : Option (List zl_E)) = some l := h
      cases h
    | cons q W2 =>
      cases W2 with
      | cons _ _ =>
        have h : (none : Option (List zl_E)) = some l := h
        cases h
      | nil =>
        cases p with
        | nil =>
          have h : (none : Option (List zl_E)) = some l := h
          cases h
        | cons e p2 =>
          have h : cond (zl_nul (zl_sub e q.2) && Nat.beq g 3) (match zk_olr E0 q.1 e (n + 1) A with
            | some l => some (zl_sym n :: l)
            | none => none) none = some l := h
          obtain ⟨hc, h⟩ := zz_cond h
          obtain ⟨c1, c2⟩ := zz_and hc
          split at h
          · rename_i l' hl
            cases h
            have hk : (k : Int) = zl_ev s e := hg.2.2 (zz_beq c2)
            refine zk_sl2_cons ?_ (zk_olr_ok hE hk (fun r hrA hr => hall r hrA (fun q' hq' e' => ?_)) (fun m hm => ?_) hl)
            · rw [zl_sym_ev]
              exact (hn 0 (by omega)).symm
            · rw [List.mem_singleton.mp hq'] at e'
              exact hr e'.symm
            · have := hn (m + 1) (by omega)
              rw [show n + 1 + m = n + (m + 1) by omega]
              exact this
          · cases h
def zk_cv2 (HT : List (List zk_H)) (TS : zk_TY) (K : List Nat) (B : List (Int × Int)) (C : List zl_E) (F0 F1 : List ((Nat × Nat) × zk_V)) (E0 E : List zk_E1) (W : List (Nat × zl_E)) (x : zk_Cv) : Bool := match TS.1 (1000 + x.1) with
  | some p => match zk_fsm F1 p.2.1 with
    | some f1 =>
      (zk_bk HT (zk_sp2 p.1).1 && zk_bk HT (zk_sp2 p.1).2) && (zk_wf B.length [] [] F0 C && (zk_wf B.length [] [] F1 C && (((zk_eW HT B.length E && zk_eW HT B.length E0) && W.all (fun q => Nat.ble (zl_mx q.2.2) B.length)) && ((zk_pA x).all (fun e => Nat.ble (zl_mx e.2) B.length) && (zk_pB x).all (fun e => Nat.ble (zl_mx e.2) B.length))))) &&
      ((zk_rg2 x).foldl (fun o g => match o with
        | some h => zk_lv (B ++ (zk_bx HT (zk_sp2 p.1).1 ++ zk_bx HT (zk_sp2 p.1).2)) (zk_syms B.length ((zk_sp2 p.1).1.length + 1) ++ (zk_syms (B.length + ((zk_sp2 p.1).1.length + 1)) ((zk_sp2 p.1).2.length + 1) ++ f1)) p.2.2
          (x.2.2.2.2.2.2.map (zk_sr TS K F0 p.1 (zk_sp2 p.1).1 (zk_sp2 p.1).2 ((zk_ol E0 B.length (zk_sp2 p.1).1 (zk_pA x) W g.1).getD []) ((zk_ol E0 (B.length + ((zk_sp2 p.1).1.length + 1)) (zk_sp2 p.1).2 (zk_pB x) W g.2).getD []) (zk_ol E0 B.length (zk_sp2 p.1).1 (zk_pA x) W g.1).isSome (zk_ol E0 (B.length + ((zk_sp2 p.1).1.length + 1)) (zk_sp2 p.1).2 (zk_pB x) W g.2).isSome))
          (zk_rgm E B.length (zk_sp2 p.1).1 (zk_pA x) g.1 ++ (zk_rgm E (B.length + ((zk_sp2 p.1).1.length + 1)) (zk_sp2 p.1).2 (zk_pB x) g.2 ++ C)) h
        | none => none) (some x.2.2.2.1)).isSome
    | none => false
  | none => false
theorem zk_rgm_ok {E : List zk_E1} {n : Nat} {A : List Nat} {p : List zl_E} {g : Nat} {s : Nat → Int} {w : zz_W} {k : Nat} (hE : zk_eF s E w) (hn : ∀ m, m < A.length + 1 → s (n + m) = (zk_a1 w A k).getD m 0) (hg : zk_rin g (k : Int) (zl_ev s (p.getD 0 (zl_con 0)))) : zk_cs s (zk_rgm E n A p g) := by
  have h0 : s n = (k : Int) := hn 0 (by omega)
  intro c hc
  rcases List.mem_append.mp hc with hc | hc
  · exact zk_rgc_ok (by rw [h0]; exact hg) c hc
  · cases hb : Nat.beq g 3 with
    | false => rw [hb] at hc; cases hc
    | true =>
      rw [hb] at hc
      have h3 := hg.2.2 (zz_beq hb)
      refine zk_mid_ok hE (fun m hm => ?_) c hc
      have := hn (m + 1) (by omega)
      rw [show n + 1 + m = n + (m + 1) by omega, this, ← h3]
      rfl
theorem zk_cv2_ok {c : Nat} {HT : List (List zk_H)} {PT : Nat → zz_W → Prop} {SU : Nat → List (Nat × Nat)} {TS : zk_TY} (hTT : zk_TT c HT PT SU TS) {K : List Nat} {B : List (Int × Int)} {C : List zl_E} {F0 F1 : List ((Nat × Nat) × zk_V)} {E0 E : List zk_E1} {W : List (Nat × zl_E)} {x : zk_Cv} (h : zk_cv2 HT TS K B C F0 F1 E0 E W x = true) {s : Nat → Int} {wS w : zz_W} (hI : zk_I c HT w) (hB : zl_in s B) (hC : zk_cs s C) (hF0 : zk_fl s F0 wS) (hF1 : zk_fl s F1 w) (hE0 : zk_eF s E0 wS) (hE : zk_eF s E w) (hK : ∀ t ∈ K, PT t wS)
    (hrow : ∀ r m, (zk_h HT r).1 = 0 → 0 ≤ m → (∀ q ∈ W, q.1 = r → m ≠ zl_ev s q.2) → zk_el w r m = zk_el wS r m) : PT x.1 w := by
  unfold zk_cv2 at h
  split at h
  · rename_i p hp
    split at h
    · rename_i f1 hf1
      obtain ⟨hb, hfold⟩ := zz_and h
      obtain ⟨hb1, hb⟩ := zz_and hb
      obtain ⟨a1, a2⟩ := zz_and hb1
      obtain ⟨b2, hb⟩ := zz_and hb
      obtain ⟨b3, hb⟩ := zz_and hb
      obtain ⟨b4, hb⟩ := zz_and hb
      obtain ⟨b4, hWw⟩ := zz_and b4
      obtain ⟨b4, b7⟩ := zz_and b4
      obtain ⟨b5, b6⟩ := zz_and hb
      refine (hTT.2.2.1 _ _ hp w).mpr (fun k j hk hj => ?_)
      generalize hvl : zk_a1 w (zk_sp2 p.1).1 k ++ zk_a1 w (zk_sp2 p.1).2 j = vl
      have hd : ∀ m, m < B.length → (fun m => if m < B.length then s m else vl.getD (m - B.length) 0) m = s m := fun m hm => if_pos hm
      have hnew : ∀ m, (fun m => if m < B.length then s m else vl.getD (m - B.length) 0) (B.length + m) = vl.getD m 0 := by
        intro m
        show (if B.length + m < B.length then _ else _) = _
        rw [if_neg (by omega)]
        congr 1
        omega
      generalize (fun m => if m < B.length then s m else vl.getD (m - B.length) 0) = s2 at hd hnew
      obtain ⟨-, -, y3, y4⟩ := zk_wf_ok (lv := []) (st := []) b2 hd (fun q hq => absurd hq List.not_mem_nil) trivial hF0 hC
      obtain ⟨-, -, z3, -⟩ := zk_wf_ok (lv := []) (st := []) b3 hd (fun q hq => absurd hq List.not_mem_nil) trivial hF1 hC
      have hE2 := zk_eW_eq b4 hd hE
      have hE02 := zk_eW_eq b7 hd hE0
      have hWe : ∀ q ∈ W, zl_ev s2 q.2 = zl_ev s q.2 := fun q hq => zl_ev_eq (n := B.length) (zz_ble (List.all_eq_true.mp hWw q hq)) hd
      have hA1 : ∀ m, m < (zk_sp2 p.1).1.length + 1 → s2 (B.length + m) = (zk_a1 w (zk_sp2 p.1).1 k).getD m 0 := by
        intro m hm
        rw [hnew, ← hvl, List.getD_eq_getElem?_getD, List.getD_eq_getElem?_getD, List.getElem?_append_left (by rw [zk_a1_len]; exact hm)]
      have hA2 : ∀ m, m < (zk_sp2 p.1).2.length + 1 → s2 (B.length + ((zk_sp2 p.1).1.length + 1) + m) = (zk_a1 w (zk_sp2 p.1).2 j).getD m 0 := by
        intro m hm
        rw [show B.length + ((zk_sp2 p.1).1.length + 1) + m = B.length + (((zk_sp2 p.1).1.length + 1) + m) by omega, hnew, ← hvl, List.getD_eq_getElem?_getD, List.getD_eq_getElem?_getD, List.getElem?_append_right (by rw [zk_a1_len]; omega), zk_a1_len]
        congr 2
        omega
      have hkA : zk_sl2 s2 (zk_syms B.length ((zk_sp2 p.1).1.length + 1)) (zk_a1 w (zk_sp2 p.1).1 k) := by
        have := zk_sl2_sy (s := s2) (l := zk_a1 w (zk_sp2 p.1).1 k) (n := B.length) (fun m hm => hA1 m (by rw [zk_a1_len] at hm; exact hm))
        rw [zk_a1_len] at this
        exact this
      have hjB : zk_sl2 s2 (zk_syms (B.length + ((zk_sp2 p.1).1.length + 1)) ((zk_sp2 p.1).2.length + 1)) (zk_a1 w (zk_sp2 p.1).2 j) := by
        have := zk_sl2_sy (s := s2) (l := zk_a1 w (zk_sp2 p.1).2 j) (n := B.length + ((zk_sp2 p.1).1.length + 1)) (fun m hm => hA2 m (by rw [zk_a1_len] at hm; exact hm))
        rw [zk_a1_len] at this
        exact this
      have hB2 : zl_in s2 (B ++ (zk_bx HT (zk_sp2 p.1).1 ++ zk_bx HT (zk_sp2 p.1).2)) := by
        intro m q hq
        by_cases hm : m < B.length
        · rw [List.getElem?_append_left hm] at hq
          rw [hd m hm]
          exact hB m q hq
        · rw [List.getElem?_append_right (by omega)] at hq
          by_cases hm2 : m - B.length < (zk_sp2 p.1).1.length + 1
          · rw [List.getElem?_append_left (by rw [zk_bx_len]; exact hm2)] at hq
            have := zk_bx_ok hI a1 hk _ q hq
            rw [← hA1 _ hm2, show B.length + (m - B.length) = m by omega] at this
            exact this
          · rw [List.getElem?_append_right (by rw [zk_bx_len]; omega), zk_bx_len] at hq
            have hlt : m - B.length - ((zk_sp2 p.1).1.length + 1) < (zk_sp2 p.1).2.length + 1 := by
              have h1 := (List.getElem?_eq_some_iff.mp hq).1
              rw [zk_bx_len] at h1
              exact h1
            have := zk_bx_ok hI a2 hj _ q hq
            rw [← hA2 _ hlt, show B.length + ((zk_sp2 p.1).1.length + 1) + (m - B.length - ((zk_sp2 p.1).1.length + 1)) = m by omega] at this
            exact this
      have heA : zl_ev s2 ((zk_pA x).getD 0 (zl_con 0)) = zl_ev s ((zk_pA x).getD 0 (zl_con 0)) := by
        cases hpA : zk_pA x with
        | nil => rfl
        | cons e l =>
          rw [hpA] at b5
          exact zl_ev_eq (n := B.length) (zz_ble (List.all_eq_true.mp b5 e List.mem_cons_self)) hd
      have heB : zl_ev s2 ((zk_pB x).getD 0 (zl_con 0)) = zl_ev s ((zk_pB x).getD 0 (zl_con 0)) := by
        cases hpB : zk_pB x with
        | nil => rfl
        | cons e l =>
          rw [hpB] at b6
          exact zl_ev_eq (n := B.length) (zz_ble (List.all_eq_true.mp b6 e List.mem_cons_self)) hd
      obtain ⟨ga, ga1, ga2, ga3⟩ := zk_rgs_ex (zk_pA x) (k : Int) (zl_ev s ((zk_pA x).getD 0 (zl_con 0)))
      obtain ⟨gb, gb1, gb2, gb3⟩ := zk_rgs_ex (zk_pB x) (j : Int) (zl_ev s ((zk_pB x).getD 0 (zl_con 0)))
      have hmem : (ga, gb) ∈ zk_rg2 x := List.mem_flatMap.mpr ⟨ga, ga1, List.mem_map.mpr ⟨gb, gb1, rfl⟩⟩
      obtain ⟨hr, hfold⟩ := Option.isSome_iff_exists.mp hfold
      obtain ⟨h1, h2, h3⟩ := zk_fol_mem (fun (g : Nat × Nat) h => zk_lv (B ++ (zk_bx HT (zk_sp2 p.1).1 ++ zk_bx HT (zk_sp2 p.1).2)) (zk_syms B.length ((zk_sp2 p.1).1.length + 1) ++ (zk_syms (B.length + ((zk_sp2 p.1).1.length + 1)) ((zk_sp2 p.1).2.length + 1) ++ f1)) p.2.2
          (x.2.2.2.2.2.2.map (zk_sr TS K F0 p.1 (zk_sp2 p.1).1 (zk_sp2 p.1).2 ((zk_ol E0 B.length (zk_sp2 p.1).1 (zk_pA x) W g.1).getD []) ((zk_ol E0 (B.length + ((zk_sp2 p.1).1.length + 1)) (zk_sp2 p.1).2 (zk_pB x) W g.2).getD []) (zk_ol E0 B.length (zk_sp2 p.1).1 (zk_pA x) W g.1).isSome (zk_ol E0 (B.length + ((zk_sp2 p.1).1.length + 1)) (zk_sp2 p.1).2 (zk_pB x) W g.2).isSome))
          (zk_rgm E B.length (zk_sp2 p.1).1 (zk_pA x) g.1 ++ (zk_rgm E (B.length + ((zk_sp2 p.1).1.length + 1)) (zk_sp2 p.1).2 (zk_pB x) g.2 ++ C)) h) (zk_rg2 x) _ _ hfold (ga, gb) hmem
      have hres := zk_lv_ok hB2 _ _ h1 h2 h3 (fun q hq => ?_) (fun q hq => ?_)
      · show ∃ d ∈ p.2.2, zk_cs (fun m => (zk_al2 w (zk_sp2 p.1).1 (zk_sp2 p.1).2 p.2.1 k j).getD m 0) d
        have hs1 : zk_sl2 s2 (zk_syms B.length ((zk_sp2 p.1).1.length + 1) ++ (zk_syms (B.length + ((zk_sp2 p.1).1.length + 1)) ((zk_sp2 p.1).2.length + 1) ++ f1)) (zk_al2 w (zk_sp2 p.1).1 (zk_sp2 p.1).2 p.2.1 k j) := zk_sl2_app hkA (zk_sl2_app hjB (zk_fsm_ok z3 hf1))
        rw [← zk_sl2_u hs1]
        exact hres
      · rcases List.mem_append.mp hq with hq | hq
        · exact zk_rgm_ok hE2 hA1 (by rw [heA]; exact ga2) q hq
        · rcases List.mem_append.mp hq with hq | hq
          · exact zk_rgm_ok hE2 hA2 (by rw [heB]; exact gb2) q hq
          · exact y4 q hq
      · obtain ⟨q0, q1, q2⟩ := List.mem_map.mp hq
        subst q2
        refine zk_sr_ok hTT y3 hK hk hj (fun ho => ?_) (fun ho => ?_)
        · obtain ⟨l, hl⟩ := Option.isSome_iff_exists.mp ho
          rw [hl]
          exact zk_ol_ok hl hE02 (by rw [heA]; exact ga2) ga1 hA1 (fun r hq hr2 => hrow r k (zz_beq (List.all_eq_true.mp (zz_and a1).2 r hr2)) (by omega) (fun q hq2 e => by rw [← hWe q hq2]; exact hq q hq2 e)) (fun r hr2 hq => hrow r k (zz_beq (List.all_eq_true.mp (zz_and a1).2 r hr2)) (by omega) (fun q hq2 e => absurd e (hq q hq2)))
        · obtain ⟨l, hl⟩ := Option.isSome_iff_exists.mp ho
          rw [hl]
          exact zk_ol_ok hl hE02 (by rw [heB]; exact gb2) gb1 hA2 (fun r hq hr2 => hrow r j (zz_beq (List.all_eq_true.mp (zz_and a2).2 r hr2)) (by omega) (fun q hq2 e => by rw [← hWe q hq2]; exact hq q hq2 e)) (fun r hr2 hq => hrow r j (zz_beq (List.all_eq_true.mp (zz_and a2).2 r hr2)) (by omega) (fun q hq2 e => absurd e (hq q hq2)))
    · cases h
  · cases h
/-- a token behind a write, by a law that is shown by hand (its number is 500 less than x's second) -/
def zk_cv3 (TS : zk_TY) (K : List Nat) (B : List (Int × Int)) (C : List zl_E) (F0 F1 : List ((Nat × Nat) × zk_V)) (E : List zk_E1) (i k : Nat) (e : zl_E) (x : zk_Cv) : Bool := match TS.2.1 (x.2.1 - 500) with
  | some y => match zk_esm E e y.2.2.2.1, zk_fsm F1 y.2.2.2.2.1, zk_fsm F0 y.2.2.2.2.1 with
    | some vs, some f1, some f0 => (Nat.beq x.1 y.1 && (Nat.beq y.2.1.1 i && Nat.beq y.2.1.2 k)) && (y.2.2.1.all (fun t => K.any (Nat.beq t)) && zk_ens B C (e :: (vs ++ (f1 ++ f0))) y.2.2.2.2.2 x.2.2.2.2.2.2)
    | _, _, _ => false
  | none => false
theorem zk_ens_l {s : Nat → Int} {B : List (Int × Int)} {C t : List zl_E} {l : List Int} (hB : zl_in s B) (hC : zk_cs s C) (hl : zk_sl2 s t l) : ∀ {E : List zl_E} {hs : List (List Nat)}, zk_ens B C t E hs = true → zk_cs (fun m => l.getD m 0) E
  | [], _, _ => fun c hc => by cases hc
  | _ :: _, [], h => by cases h
  | e :: es, h1 :: hs, h => by
    obtain ⟨b1, hb⟩ := zz_and h
    obtain ⟨b2, b3⟩ := zz_and hb
    intro c hc
    rcases List.mem_cons.mp hc with hc | hc
    · subst hc
      have := zl_en_ok hB hC b2
      rw [zl_subst_ev (u := fun m => l.getD m 0) (zz_ble b1) hl.2] at this
      exact this
    · exact zk_ens_l hB hC hl b3 c hc
theorem zk_cv3_ok {c : Nat} {HT : List (List zk_H)} {PT : Nat → zz_W → Prop} {SU : Nat → List (Nat × Nat)} {TS : zk_TY} (hTT : zk_TT c HT PT SU TS) {K : List Nat} {B : List (Int × Int)} {C : List zl_E} {F0 F1 : List ((Nat × Nat) × zk_V)} {E : List zk_E1} {i k : Nat} {e : zl_E} {x : zk_Cv} (h : zk_cv3 TS K B C F0 F1 E i k e x = true) {s : Nat → Int} {w w' : zz_W} (hI : zk_I c HT w) (hI' : zk_I c HT w') (hB : zl_in s B) (hC : zk_cs s C) (hF0 : zk_fl s F0 w) (hF1 : zk_fl s F1 w') (hE : zk_eF s E w') (hK : ∀ t ∈ K, PT t w) (h0 : 0 ≤ zl_ev s e) (hR : k = 999 → zk_rR i (zl_ev s e) w w') (hF : k ≠ 999 → zk_rF i k w w') : PT x.1 w' := by
  unfold zk_cv3 at h
  split at h
  · rename_i y hy
    split at h
    · rename_i vs f1 f0 h1 h2 h3
      obtain ⟨ha, hb⟩ := zz_and h
      obtain ⟨a1, ha⟩ := zz_and ha
      obtain ⟨a2, a3⟩ := zz_and ha
      obtain ⟨b1, b2⟩ := zz_and hb
      have a2 := zz_beq a2
      have a3 := zz_beq a3
      have hj : ((zl_ev s e).toNat : Int) = zl_ev s e := by omega
      have hv := zk_esm_ok hE hj h1
      rw [hj] at hv
      rw [zz_beq a1]
      refine hTT.2.2.2.1 _ y hy w w' (zl_ev s e) hI hI' h0 (fun h9 => by rw [a2]; exact hR (by rw [← a3]; exact h9)) (fun h9 => by rw [a2, a3]; exact hF (by rw [← a3]; exact h9)) (fun t ht => hK t (zk_any_beq (List.all_eq_true.mp b1 t ht))) ?_
      exact zk_ens_l hB hC (zk_sl2_cons rfl (zk_sl2_app hv (zk_sl2_app (zk_fsm_ok hF1 h2) (zk_fsm_ok hF0 h3)))) b2
    · cases h
  · cases h
/-- the tokens that a change of (i, k) leaves -/
def zk_off (SU : Nat → List (Nat × Nat)) (K : List Nat) (i k : Nat) : List Nat := K.filter (fun t => !(zk_inM (SU t) i k) && !(zk_inM (SU t) i 999))
/-- the tokens that say nothing of the cell i -/
def zk_ofc (SU : Nat → List (Nat × Nat)) (K : List Nat) (i : Nat) : List Nat := K.filter (fun t => (SU t).all (fun q => !(Nat.beq q.1 i)))
theorem zk_ofc_ok {SU : Nat → List (Nat × Nat)} {K : List Nat} {i t : Nat} (h : t ∈ zk_ofc SU K i) : t ∈ K ∧ ∀ q ∈ SU t, q.1 ≠ i := by
  obtain ⟨h1, h2⟩ := List.mem_filter.mp h
  exact ⟨h1, fun q hq => zk_nbeq (List.all_eq_true.mp h2 q hq)⟩
theorem zk_inM_mem {M : List (Nat × Nat)} {i k : Nat} (h : (i, k) ∈ M) : zk_inM M i k = true := List.any_eq_true.mpr ⟨(i, k), h, by show (Nat.beq i i && Nat.beq k k) = true; rw [Nat.beq_refl, Nat.beq_refl]; rfl⟩
theorem zk_off_ok {SU : Nat → List (Nat × Nat)} {K : List Nat} {i k t : Nat} (h : t ∈ zk_off SU K i k) : t ∈ K ∧ (i, k) ∉ SU t ∧ (i, 999) ∉ SU t := by
  obtain ⟨h1, h2⟩ := List.mem_filter.mp h
  obtain ⟨h3, h4⟩ := zz_and h2
  refine ⟨h1, fun hin => ?_, fun hin => ?_⟩
  · rw [zk_inM_mem hin] at h3
    cases h3
  · rw [zk_inM_mem hin] at h4
    cases h4
/-- a field is set -/
def zk_w1 (HT : List (List zk_H)) (SU : Nat → List (Nat × Nat)) (TS : zk_TY) (X : zk_St) (k n : Nat) (cv : List zk_Cv) (o : Option zk_A) : Option (List (Nat × zk_St)) := match o with
  | some A => cond (cv.all (fun x => zk_cv HT TS X.2.2 X.1.2.2.2.1 X.1.2.2.2.2 X.1.2.2.1 A.2.2.1 X.2.1 x || (zk_cv2 HT TS X.2.2 X.1.2.2.2.1 X.1.2.2.2.2 X.1.2.2.1 A.2.2.1 X.2.1 X.2.1 [] x || (Nat.blt k 998 && zk_cv3 TS X.2.2 X.1.2.2.2.1 X.1.2.2.2.2 X.1.2.2.1 A.2.2.1 X.2.1 (zk_tg1 X.1) k (zl_con 0) x))) && (zk_eW HT X.1.2.2.2.1.length X.2.1 && Nat.beq (zk_h HT (zk_tg1 X.1)).1 3))
    (some [(n, (A, X.2.1, zk_off SU X.2.2 (zk_tg1 X.1) k ++ cv.map (fun x => x.1)))]) none
  | none => none
theorem zk_w1_ok {c : Nat} {HT : List (List zk_H)} {M : zk_M} {w0 : zk_W0} {PT : Nat → zz_W → Prop} {SU : Nat → List (Nat × Nat)} {TS : zk_TY} (hTT : zk_TT c HT PT SU TS) {act : zz_A} {X : zk_St} {k n : Nat} {cv : List zk_Cv} {o : Option zk_A} {R : List (Nat × zk_St)} (h : zk_w1 HT SU TS X k n cv o = some R) (hk : ∀ A, o = some A → zk_SW c HT M w0 act n X.1 A (fun _ w w' => zk_rF (zk_tg1 X.1) k w w')) : zk_R2 PT c HT M w0 act X R := by
  obtain ⟨A0, E, Tk⟩ := X
  unfold zk_w1 at h
  split at h
  · rename_i A
    obtain ⟨hb, h⟩ := zz_cond h
    obtain ⟨b1, hb⟩ := zz_and hb
    obtain ⟨b2, b3⟩ := zz_and hb
    cases h
    obtain ⟨e1, e2⟩ := hk A rfl
    intro K s f hpv hG
    obtain ⟨g1, k1, k2⟩ := hG
    obtain ⟨f', m1, m2, m3, m4⟩ := e2 K s f hpv g1
    have e1 : A0.2.2.2.1 = A.2.2.2.1 := e1
    have m4 : zk_rF (zk_tg1 A0) k f.2.2.2 f'.2.2.2 := m4
    have hk3 : (zk_h HT (zk_tg1 A0)).1 = 3 := zz_beq b3
    have hel : ∀ r, (zk_h HT r).1 < 3 → zz_g f'.2.2.2 r = zz_g f.2.2.2 r := fun r hr => m4.1 r (fun e => by rw [e] at hr; omega)
    have hE' : zk_eF s E f'.2.2.2 := by
      intro y hy
      have h1 := k1 y hy
      have h2 := zk_xe_g (j := zl_ev s y.2.1) (fun r hr => hel r (zk_eW_row b2 y hy r hr))
      rw [h2]
      exact h1
    refine ⟨s, f', (n, (A, E, zk_off SU Tk (zk_tg1 A0) k ++ cv.map (fun x => x.1))), m1, List.mem_cons_self, m2, ⟨m3, hE', fun t ht => ?_⟩, Nat.le_of_eq (congrArg List.length e1), fun _ _ => rfl⟩
    rcases List.mem_append.mp ht with ht | ht
    · obtain ⟨t1, t2, t3⟩ := zk_off_ok ht
      refine hTT.1 t f.2.2.2 f'.2.2.2 g1.2.2.2.2.2.1 m3.2.2.2.2.2.1 (fun q hq h9 => ?_) (fun q hq h9 => ?_) (k2 t t1)
      · by_cases hq1 : q.1 = zk_tg1 A0
        · have hq2 : q.2 ≠ k := fun e => t2 (by rw [← hq1, ← e]; exact hq)
          have := m4.2 q.2 hq2
          rw [← hq1] at this
          exact this
        · unfold zk_fd
          rw [m4.1 q.1 hq1]
      · by_cases hq1 : q.1 = zk_tg1 A0
        · exact absurd (show (zk_tg1 A0, 999) ∈ SU t by rw [← hq1, ← h9]; exact hq) t3
        · exact m4.1 q.1 hq1
    · obtain ⟨y, y1, y2⟩ := List.mem_map.mp ht
      subst y2
      rcases Bool.or_eq_true_iff.mp (List.all_eq_true.mp b1 y y1) with hy | hy
      · refine zk_cv_ok hTT hy m3.2.2.2.2.2.1 g1.2.2.2.1 g1.2.2.2.2.1 g1.2.2.1 m3.2.2.1 hE' k2 (fun r m hr hm _ => ?_)
        unfold zk_el
        rw [hel r (by omega)]
      · rcases Bool.or_eq_true_iff.mp hy with hy | hy
        · refine zk_cv2_ok hTT hy m3.2.2.2.2.2.1 g1.2.2.2.1 g1.2.2.2.2.1 g1.2.2.1 m3.2.2.1 k1 hE' k2 (fun r m hr hm _ => ?_)
          unfold zk_el
          rw [hel r (by omega)]
        · obtain ⟨hk8, hy⟩ := zz_and hy
          have hk8 := zz_blt hk8
          exact zk_cv3_ok hTT hy g1.2.2.2.2.2.1 m3.2.2.2.2.2.1 g1.2.2.2.1 g1.2.2.2.2.1 g1.2.2.1 m3.2.2.1 hE' k2 (by rw [zl_con_ev]; exact Int.le_refl _) (fun h9 => by omega) (fun _ => m4)
  · cases h
/-- a virtual element stays: its place (the parameter: none, or a symbol) is not behind e -/
def zk_vk (B : List (Int × Int)) (C : List zl_E) (e : zl_E) (x : zk_E1) (h1 h2 : List Nat) : Bool :=
  let e' := match h1.headD 0 with
    | 0 => x.2.1
    | k + 1 => match k with
      | 0 => x.2.1
      | m + 1 => zl_sub x.2.1 (zl_mul 1048576 (zl_sym m))
  ((!(Nat.blt x.1 1000000) && Nat.blt x.1 2000000) && !(Nat.beq (h1.headD 0) 0)) && (zl_en B C h1.tail e' && zl_en B C h2 (zl_sub e e'))
theorem zk_vk_ok {s : Nat → Int} {B : List (Int × Int)} {C : List zl_E} (hB : zl_in s B) (hC : zk_cs s C) {e : zl_E} {x : zk_E1} {h1 h2 : List Nat} (h : zk_vk B C e x h1 h2 = true) : (Nat.blt x.1 1000000 = false ∧ Nat.blt x.1 2000000 = true) ∧ zl_ev s x.2.1 % 1048576 ≤ zl_ev s e := by
  unfold zk_vk at h
  obtain ⟨a, h⟩ := zz_and h
  obtain ⟨a, -⟩ := zz_and a
  obtain ⟨a, a2⟩ := zz_and a
  obtain ⟨b, c⟩ := zz_and h
  refine ⟨⟨by cases hb : Nat.blt x.1 1000000 with
    | true => rw [hb] at a; cases a
    | false => rfl, a2⟩, ?_⟩
  have b := zl_en_ok hB hC b
  have c := zl_en_ok hB hC c
  rw [zl_sub_ev] at c
  revert b c
  split
  · intro b c
    omega
  · split
    · intro b c
      omega
    · rw [zl_sub_ev, zl_mul_ev]
      intro b c
      omega
/-- what stays known of a row of which the element at e is set: places that are not e, by hints; virtual ones ahead of it -/
def zk_ekp (B : List (Int × Int)) (C : List zl_E) (i : Nat) (e : zl_E) : List zk_E1 → List (List Nat) → List zk_E1
  | [], _ => []
  | x :: xs, hs => cond (Nat.beq x.1 i && Nat.blt i 1000000) (cond (Nat.beq ((hs.headD []).headD 0) 1 && zl_en B C (hs.headD []).tail (zl_sub (zl_sub x.2.1 e) (zl_con 1))) (x :: zk_ekp B C i e xs hs.tail) (cond (Nat.beq ((hs.headD []).headD 0) 2 && zl_en B C (hs.headD []).tail (zl_sub (zl_sub e x.2.1) (zl_con 1))) (x :: zk_ekp B C i e xs hs.tail) (zk_ekp B C i e xs hs.tail))) (cond ((zk_rws x.1).any (Nat.beq i)) (cond (zk_vk B C e x (hs.headD []) (hs.tail.headD [])) (x :: zk_ekp B C i e xs hs.tail.tail) (zk_ekp B C i e xs hs.tail.tail)) (x :: zk_ekp B C i e xs hs))
theorem zk_ekp_mem {s : Nat → Int} {B : List (Int × Int)} {C : List zl_E} (hB : zl_in s B) (hC : zk_cs s C) {i : Nat} {e : zl_E} {y : zk_E1} : ∀ {E : List zk_E1} {hs : List (List Nat)}, y ∈ zk_ekp B C i e E hs → y ∈ E ∧ (i ∉ zk_rws y.1 ∨ (y.1 = i ∧ Nat.blt i 1000000 = true ∧ zl_ev s y.2.1 ≠ zl_ev s e) ∨ ((Nat.blt y.1 1000000 = false ∧ Nat.blt y.1 2000000 = true) ∧ zl_ev s y.2.1 % 1048576 ≤ zl_ev s e))
  | [], _, h => absurd h List.not_mem_nil
  | x :: xs, hs, h => by
    unfold zk_ekp at h
    have rest : ∀ {hs' : List (List Nat)}, y ∈ zk_ekp B C i e xs hs' → y ∈ x :: xs ∧ (i ∉ zk_rws y.1 ∨ (y.1 = i ∧ Nat.blt i 1000000 = true ∧ zl_ev s y.2.1 ≠ zl_ev s e) ∨ ((Nat.blt y.1 1000000 = false ∧ Nat.blt y.1 2000000 = true) ∧ zl_ev s y.2.1 % 1048576 ≤ zl_ev s e)) := fun h => by
      obtain ⟨a, b⟩ := zk_ekp_mem hB hC h
      exact ⟨List.mem_cons_of_mem _ a, b⟩
    cases h1 : (Nat.beq x.1 i && Nat.blt i 1000000) with
    | false =>
      rw [h1] at h
      cases h2 : (zk_rws x.1).any (Nat.beq i) with
      | false =>
        rw [h2] at h
        rcases List.mem_cons.mp (show y ∈ x :: zk_ekp B C i e xs hs from h) with h | h
        · subst h
          refine ⟨List.mem_cons_self, Or.inl (fun h3 => ?_)⟩
          rw [List.any_eq_true.mpr ⟨i, h3, Nat.beq_refl i⟩] at h2
          cases h2
        · exact rest h
      | true =>
        rw [h2] at h
        cases h3 : zk_vk B C e x (hs.headD []) (hs.tail.headD []) with
        | true =>
          rw [h3] at h
          rcases List.mem_cons.mp (show y ∈ x :: zk_ekp B C i e xs hs.tail.tail from h) with h | h
          · subst h
            exact ⟨List.mem_cons_self, Or.inr (Or.inr (zk_vk_ok hB hC h3))⟩
          · exact rest h
        | false =>
          rw [h3] at h
          exact rest (show y ∈ zk_ekp B C i e xs hs.tail.tail from h)
    | true =>
      rw [h1] at h
      obtain ⟨i1, i2⟩ := zz_and h1
      cases h2 : (Nat.beq ((hs.headD []).headD 0) 1 && zl_en B C (hs.headD []).tail (zl_sub (zl_sub x.2.1 e) (zl_con 1))) with
      | true =>
        rw [h2] at h
        rcases List.mem_cons.mp (show y ∈ x :: zk_ekp B C i e xs hs.tail from h) with h | h
        · subst h
          obtain ⟨-, h3⟩ := zz_and h2
          have h4 := zl_en_ok hB hC h3
          rw [zl_sub_ev, zl_sub_ev, zl_con_ev] at h4
          exact ⟨List.mem_cons_self, Or.inr (Or.inl ⟨zz_beq i1, i2, by omega⟩)⟩
        · exact rest h
      | false =>
        rw [h2] at h
        cases h5 : (Nat.beq ((hs.headD []).headD 0) 2 && zl_en B C (hs.headD []).tail (zl_sub (zl_sub e x.2.1) (zl_con 1))) with
        | true =>
          rw [h5] at h
          rcases List.mem_cons.mp (show y ∈ x :: zk_ekp B C i e xs hs.tail from h) with h | h
          · subst h
            obtain ⟨-, h3⟩ := zz_and h5
            have h4 := zl_en_ok hB hC h3
            rw [zl_sub_ev, zl_sub_ev, zl_con_ev] at h4
            exact ⟨List.mem_cons_self, Or.inr (Or.inl ⟨zz_beq i1, i2, by omega⟩)⟩
          · exact rest h
        | false =>
          rw [h5] at h
          exact rest (show y ∈ zk_ekp B C i e xs hs.tail from h)
def zx_els (E : List zk_E1) (es : List zl_E) : List (Nat × Nat) → Option (List zl_E)
  | [] => some []
  | q :: r => match zk_ek E q.1 (es.getD q.2 (zl_con 0)), zx_els E es r with
    | some v, some l => some (v :: l)
    | _, _ => none
theorem zx_els_ok {s : Nat → Int} {E : List zk_E1} {es : List zl_E} {ins : List Int} {w : zz_W} (hE : zk_eF s E w) (hi : ∀ k, k < es.length → zl_ev s (es.getD k (zl_con 0)) = ins.getD k 0) : ∀ {qs : List (Nat × Nat)} {l : List zl_E}, qs.all (fun q => Nat.blt q.2 es.length) = true → zx_els E es qs = some l → zk_sl2 s l (qs.map (fun q => zk_xe w q.1 (ins.getD q.2 0)))
  | [], l, _, h => by
    cases h
    exact zk_sl2_nil
  | q :: r, l, hb, h => by
    rw [List.all_cons] at hb
    obtain ⟨b1, b2⟩ := zz_and hb
    unfold zx_els at h
    split at h
    · rename_i v l' h1 h2
      cases h
      refine zk_sl2_cons ?_ (zx_els_ok hE hi b2 h2)
      have := (zk_ek_ok h1 hE).2
      show zk_xe w q.1 (ins.getD q.2 0) = zl_ev s v
      rw [← hi q.2 (zz_blt b1)]
      exact this
    · cases h
/-- known elements behind a write, by a law that is shown by hand (its number from 900 on) -/
def zk_cv4 (TS : zk_TY) (K : List Nat) (B : List (Int × Int)) (C : List zl_E) (E : List zk_E1) (i : Nat) (e v : zl_E) (x : zk_Cv) : Option (List zk_E1) := match TS.2.2.2 (x.2.1 - 900) with
  | some y => match zx_els E x.2.2.1 y.2.2.2.1 with
    | some vs => cond ((Nat.beq y.1 i && y.2.1.all (fun t => K.any (Nat.beq t))) && ((Nat.beq x.2.2.1.length y.2.2.1 && y.2.2.2.1.all (fun q => Nat.blt q.2 x.2.2.1.length)) && (zk_ens B C (e :: v :: (x.2.2.1 ++ vs)) y.2.2.2.2.1 x.2.2.2.2.2.2 && y.2.2.2.2.2.all (fun z => Nat.ble (zl_mx z.2.1.2) (e :: v :: (x.2.2.1 ++ vs)).length && Nat.ble (zl_mx z.2.2.2) (e :: v :: (x.2.2.1 ++ vs)).length)))) (some (y.2.2.2.2.2.map (fun z => (z.1, zl_subst (e :: v :: (x.2.2.1 ++ vs)) z.2.1, zl_subst (e :: v :: (x.2.2.1 ++ vs)) z.2.2)))) none
    | none => none
  | none => none
theorem zx_gdm {s : Nat → Int} : ∀ (es : List zl_E) (k : Nat), k < es.length → zl_ev s (es.getD k (zl_con 0)) = (es.map (zl_ev s)).getD k 0
  | [], k, h => absurd h (Nat.not_lt_zero k)
  | e :: es, 0, _ => rfl
  | e :: es, k + 1, h => zx_gdm es k (Nat.lt_of_succ_lt_succ h)
theorem zx_slm {s : Nat → Int} : ∀ (es : List zl_E), zk_sl2 s es (es.map (zl_ev s))
  | [] => zk_sl2_nil
  | _ :: es => zk_sl2_cons rfl (zx_slm es)
theorem zk_cv4_ok {c : Nat} {HT : List (List zk_H)} {PT : Nat → zz_W → Prop} {SU : Nat → List (Nat × Nat)} {TS : zk_TY} (hTT : zk_TT c HT PT SU TS) {K : List Nat} {B : List (Int × Int)} {C : List zl_E} {E R : List zk_E1} {i : Nat} {e v : zl_E} {x : zk_Cv} (h : zk_cv4 TS K B C E i e v x = some R) {s : Nat → Int} {w w' : zz_W} (hI : zk_I c HT w) (hI' : zk_I c HT w') (hB : zl_in s B) (hC : zk_cs s C) (hE : zk_eF s E w) (hK : ∀ t ∈ K, PT t w) (h0 : 0 ≤ zl_ev s e) (hw : zk_rR i (zl_ev s e) w w') (hv : zk_el w' i (zl_ev s e) = zl_ev s v) : zk_eF s R w' := by
  unfold zk_cv4 at h
  split at h
  · rename_i y hy
    split at h
    · rename_i vs hvs
      obtain ⟨hb, h⟩ := zz_cond h
      cases h
      obtain ⟨a, hb⟩ := zz_and hb
      obtain ⟨a1, a2⟩ := zz_and a
      obtain ⟨b, hb⟩ := zz_and hb
      obtain ⟨b1, b2⟩ := zz_and b
      obtain ⟨c1, c2⟩ := zz_and hb
      have hi := zz_beq a1
      subst hi
      have hins : ∀ k, k < x.2.2.1.length → zl_ev s (x.2.2.1.getD k (zl_con 0)) = (x.2.2.1.map (zl_ev s)).getD k 0 := fun k hk => zx_gdm x.2.2.1 k hk
      have hl : zk_sl2 s (e :: v :: (x.2.2.1 ++ vs)) (zx_vv w w' y (zl_ev s e) (x.2.2.1.map (zl_ev s))) := zk_sl2_cons rfl (zk_sl2_cons hv (zk_sl2_app (zx_slm x.2.2.1) (zx_els_ok hE hins b2 hvs)))
      have h1 := hTT.2.2.2.2.2 _ y hy w w' (zl_ev s e) (x.2.2.1.map (zl_ev s)) hI hI' h0 hw (fun t ht => hK t (zk_any_beq (List.all_eq_true.mp a2 t ht))) (by rw [List.length_map]; exact zz_beq b1) (zk_ens_l hB hC hl c1)
      intro z hz
      obtain ⟨z1, z2, z3⟩ := List.mem_map.mp hz
      subst z3
      obtain ⟨d1, d2⟩ := zz_and (List.all_eq_true.mp c2 z1 z2)
      show 0 ≤ zl_ev s (zl_subst _ z1.2.1) ∧ zk_xe w' z1.1 (zl_ev s (zl_subst _ z1.2.1)) = zl_ev s (zl_subst _ z1.2.2)
      rw [zl_subst_ev (u := fun m => (zx_vv w w' y (zl_ev s e) (x.2.2.1.map (zl_ev s))).getD m 0) (zz_ble d1) hl.2, zl_subst_ev (u := fun m => (zx_vv w w' y (zl_ev s e) (x.2.2.1.map (zl_ev s))).getD m 0) (zz_ble d2) hl.2]
      exact h1 z1 z2
    · cases h
  · cases h
/-- those behind a write: all of them -/
def zk_c4s (TS : zk_TY) (K : List Nat) (B : List (Int × Int)) (C : List zl_E) (E : List zk_E1) (i : Nat) (e v : zl_E) : List zk_Cv → Option (List zk_E1)
  | [] => some []
  | x :: xs => cond (Nat.blt x.2.1 900) (zk_c4s TS K B C E i e v xs) (match zk_cv4 TS K B C E i e v x, zk_c4s TS K B C E i e v xs with
    | some a, some b => some (a ++ b)
    | _, _ => none)
theorem zk_c4s_ok {c : Nat} {HT : List (List zk_H)} {PT : Nat → zz_W → Prop} {SU : Nat → List (Nat × Nat)} {TS : zk_TY} (hTT : zk_TT c HT PT SU TS) {K : List Nat} {B : List (Int × Int)} {C : List zl_E} {E : List zk_E1} {i : Nat} {e v : zl_E} {s : Nat → Int} {w w' : zz_W} (hI : zk_I c HT w) (hI' : zk_I c HT w') (hB : zl_in s B) (hC : zk_cs s C) (hE : zk_eF s E w) (hK : ∀ t ∈ K, PT t w) (h0 : 0 ≤ zl_ev s e) (hw : zk_rR i (zl_ev s e) w w') (hv : zk_el w' i (zl_ev s e) = zl_ev s v) : ∀ {xs : List zk_Cv} {R : List zk_E1}, zk_c4s TS K B C E i e v xs = some R → zk_eF s R w'
  | [], R, h => by
    cases h
    intro y hy
    cases hy
  | x :: xs, R, h => by
    unfold zk_c4s at h
    cases hb : Nat.blt x.2.1 900 with
    | true =>
      rw [hb] at h
      exact zk_c4s_ok hTT hI hI' hB hC hE hK h0 hw hv (show zk_c4s TS K B C E i e v xs = some R from h)
    | false =>
      rw [hb] at h
      have h : (match zk_cv4 TS K B C E i e v x, zk_c4s TS K B C E i e v xs with
        | some a, some b => some (a ++ b)
        | _, _ => none) = some R := h
      split at h
      · rename_i a b h1 h2
        cases h
        intro y hy
        rcases List.mem_append.mp hy with hy | hy
        · exact zk_cv4_ok hTT h1 hI hI' hB hC hE hK h0 hw hv y hy
        · exact zk_c4s_ok hTT hI hI' hB hC hE hK h0 hw hv h2 y hy
      · cases h
/-- what is known of rows' elements behind it -/
def zk_wE (X : zk_St) (kn : Bool) (ks : List (List Nat)) : List zk_E1 := cond kn ((zk_tg2 X.1, zk_ix2 X.1, zk_vl X.1) :: zk_ekp X.1.2.2.2.1 X.1.2.2.2.2 (zk_tg2 X.1) (zk_ix2 X.1) X.2.1 ks) (zk_ekp X.1.2.2.2.1 X.1.2.2.2.2 (zk_tg2 X.1) (zk_ix2 X.1) X.2.1 ks)
/-- an element is set: known (kn) or not -/
def zk_w2 (HT : List (List zk_H)) (SU : Nat → List (Nat × Nat)) (TS : zk_TY) (kn : Bool) (X : zk_St) (n : Nat) (cv : List zk_Cv) (ks : List (List Nat)) (o : Option zk_A) : Option (List (Nat × zk_St)) := match o with
  | some A => match cond kn (zk_c4s TS X.2.2 X.1.2.2.2.1 X.1.2.2.2.2 X.2.1 (zk_tg2 X.1) (zk_ix2 X.1) (zk_vl X.1) cv) (some []) with
    | some N => cond (cv.all (fun x => !(Nat.blt x.2.1 900) || ((zk_cv HT TS X.2.2 X.1.2.2.2.1 X.1.2.2.2.2 X.1.2.2.1 A.2.2.1 (zk_wE X kn ks) x && (match x.2.2.1 with
        | e :: _ => zl_nul (zl_sub e (zk_ix2 X.1))
        | [] => false)) || (zk_cv2 HT TS X.2.2 X.1.2.2.2.1 X.1.2.2.2.2 X.1.2.2.1 A.2.2.1 X.2.1 (zk_wE X kn ks) [(zk_tg2 X.1, zk_ix2 X.1)] x || zk_cv3 TS X.2.2 X.1.2.2.2.1 X.1.2.2.2.2 X.1.2.2.1 A.2.2.1 (zk_wE X kn ks) (zk_tg2 X.1) 999 (zk_ix2 X.1) x))) && (Nat.blt (zk_tg2 X.1) 1000000 && zk_eW HT X.1.2.2.2.1.length (N ++ zk_wE X kn ks)))
      (some [(n, (A, N ++ zk_wE X kn ks, zk_ofc SU X.2.2 (zk_tg2 X.1) ++ (cv.filter (fun x => Nat.blt x.2.1 900)).map (fun x => x.1)))]) none
    | none => none
  | none => none
theorem zk_w2_ok {c : Nat} {HT : List (List zk_H)} {M : zk_M} {w0 : zk_W0} {PT : Nat → zz_W → Prop} {SU : Nat → List (Nat × Nat)} {TS : zk_TY} (hTT : zk_TT c HT PT SU TS) {act : zz_A} {kn : Bool} {X : zk_St} {n : Nat} {cv : List zk_Cv} {ks : List (List Nat)} {o : Option zk_A} {R : List (Nat × zk_St)} (h : zk_w2 HT SU TS kn X n cv ks o = some R) (hk : ∀ A, o = some A → zk_SW c HT M w0 act n X.1 A (fun s w w' => zk_rR (zk_tg2 X.1) (zl_ev s (zk_ix2 X.1)) w w' ∧ 0 ≤ zl_ev s (zk_ix2 X.1) ∧ (kn = true → zk_el w' (zk_tg2 X.1) (zl_ev s (zk_ix2 X.1)) = zl_ev s (zk_vl X.1)))) : zk_R2 PT c HT M w0 act X R := by
  obtain ⟨A0, E, Tk⟩ := X
  unfold zk_w2 at h
  split at h
  · rename_i A
    split at h
    rotate_left
    · cases h
    rename_i N hN
    obtain ⟨hb, h⟩ := zz_cond h
    obtain ⟨b1, hb⟩ := zz_and hb
    obtain ⟨b0, -⟩ := zz_and hb
    have b0 : Nat.blt (zk_tg2 A0) 1000000 = true := b0
    have hR := (Option.some.inj h).symm
    subst hR
    obtain ⟨e1, e2⟩ := hk A rfl
    intro K s f hpv hG
    obtain ⟨g1, k1, k2⟩ := hG
    have k1 : zk_eF s E f.2.2.2 := k1
    have k2 : ∀ t ∈ Tk, PT t f.2.2.2 := k2
    obtain ⟨f', m1, m2, m3, m4, m5, m6⟩ := e2 K s f hpv g1
    have e1 : A0.2.2.2.1 = A.2.2.2.1 := e1
    have m4 : zk_rR (zk_tg2 A0) (zl_ev s (zk_ix2 A0)) f.2.2.2 f'.2.2.2 := m4
    have hfil : zk_eF s (zk_ekp A0.2.2.2.1 A0.2.2.2.2 (zk_tg2 A0) (zk_ix2 A0) E ks) f'.2.2.2 := by
      intro y hy
      obtain ⟨y1, y2⟩ := zk_ekp_mem g1.2.2.2.1 g1.2.2.2.2.1 hy
      have h1 := k1 y y1
      rcases y2 with hr | ⟨hr, hi, hne⟩ | ⟨hi, hle⟩
      · have h2 := zk_xe_g (w := f.2.2.2) (w' := f'.2.2.2) (i := y.1) (j := zl_ev s y.2.1) (fun r hr' => m4.1 r (fun e => hr (by rw [← e]; exact hr')))
        exact ⟨h1.1, h2.trans h1.2⟩
      · have h2 := m4.2 (zl_ev s y.2.1) h1.1 hne
        rw [← hr] at h2 hi
        refine ⟨h1.1, ?_⟩
        have h3 := h1.2
        rw [zk_xe_r hi] at h3 ⊢
        exact h2.trans h3
      · exact ⟨h1.1, (zk_xe_p m4 hi hle).trans h1.2⟩
    have hE' : zk_eF s (zk_wE (A0, E, Tk) kn ks) f'.2.2.2 := by
      cases kn with
      | false => exact hfil
      | true =>
        intro y hy
        rcases List.mem_cons.mp hy with ey | hy
        · subst ey
          exact ⟨m5, (zk_xe_r b0).trans (m6 rfl)⟩
        · exact hfil y hy
    have hN' : zk_eF s N f'.2.2.2 := by
      cases kn with
      | false =>
        have hN : some [] = some N := hN
        cases hN
        intro y hy
        cases hy
      | true => exact zk_c4s_ok hTT g1.2.2.2.2.2.1 m3.2.2.2.2.2.1 g1.2.2.2.1 g1.2.2.2.2.1 k1 k2 m5 m4 (m6 rfl) (show zk_c4s TS Tk A0.2.2.2.1 A0.2.2.2.2 E (zk_tg2 A0) (zk_ix2 A0) (zk_vl A0) cv = some N from hN)
    refine ⟨s, f', (n, (A, N ++ zk_wE (A0, E, Tk) kn ks, zk_ofc SU Tk (zk_tg2 A0) ++ (cv.filter (fun x => Nat.blt x.2.1 900)).map (fun x => x.1))), m1, List.mem_cons_self, m2, ⟨m3, fun y hy => (List.mem_append.mp hy).elim (hN' y) (hE' y), fun t ht => ?_⟩, Nat.le_of_eq (congrArg List.length e1), fun _ _ => rfl⟩
    rcases List.mem_append.mp ht with ht | ht
    · obtain ⟨t1, t3⟩ := zk_ofc_ok ht
      refine hTT.1 t f.2.2.2 f'.2.2.2 g1.2.2.2.2.2.1 m3.2.2.2.2.2.1 (fun q hq h9 => ?_) (fun q hq h9 => ?_) (k2 t t1)
      · unfold zk_fd
        rw [m4.1 q.1 (t3 q hq)]
      · exact m4.1 q.1 (t3 q hq)
    · obtain ⟨y, y1, y2⟩ := List.mem_map.mp ht
      subst y2
      obtain ⟨y1, y9⟩ := List.mem_filter.mp y1
      rcases Bool.or_eq_true_iff.mp (List.all_eq_true.mp b1 y y1) with hy | hy
      · rw [show Nat.blt y.2.1 900 = true from y9] at hy
        cases hy
      rcases Bool.or_eq_true_iff.mp hy with hy | hy
      · obtain ⟨y3, y4⟩ := zz_and hy
        refine zk_cv_ok hTT y3 m3.2.2.2.2.2.1 g1.2.2.2.1 g1.2.2.2.2.1 g1.2.2.1 m3.2.2.1 hE' k2 (fun r m hr hm hne => ?_)
        by_cases hr2 : r = zk_tg2 A0
        · subst hr2
          refine m4.2 m hm ?_
          split at y4
          · rename_i e l he
            have h1 := zl_nul_ok (s := s) y4
            rw [zl_sub_ev] at h1
            have h1 : zl_ev s e - zl_ev s (zk_ix2 A0) = 0 := h1
            have := hne e l he
            omega
          · cases y4
        · unfold zk_el
          rw [m4.1 r hr2]
      · rcases Bool.or_eq_true_iff.mp hy with hy | hy
        · refine zk_cv2_ok hTT hy m3.2.2.2.2.2.1 g1.2.2.2.1 g1.2.2.2.2.1 g1.2.2.1 m3.2.2.1 k1 hE' k2 (fun r m hr hm hne => ?_)
          by_cases hr2 : r = zk_tg2 A0
          · subst hr2
            exact m4.2 m hm (hne (zk_tg2 A0, zk_ix2 A0) List.mem_cons_self rfl)
          · unfold zk_el
            rw [m4.1 r hr2]
        · exact zk_cv3_ok hTT hy g1.2.2.2.2.2.1 m3.2.2.2.2.2.1 g1.2.2.2.1 g1.2.2.2.2.1 g1.2.2.1 m3.2.2.1 hE' k2 m5 (fun _ => m4) (fun h9 => absurd rfl h9)
  · cases h
/-- the first digit of a coded place -/
def zl_ld (e : zl_E) : zl_E := (((zl_nv e.1 % 4294967296).toNat, 0), e.2.filter (fun q => !(Nat.beq (q.2.1 % 4294967296) (q.2.2 % 4294967296))))
theorem zl_ld_dt (s : Nat → Int) : ∀ (l : List (Nat × zl_N)), ∃ y : Int, zl_dt s l = zl_dt s (l.filter (fun q => !(Nat.beq (q.2.1 % 4294967296) (q.2.2 % 4294967296)))) + 4294967296 * y
  | [] => ⟨0, rfl⟩
  | q :: l => by
    obtain ⟨y, hy⟩ := zl_ld_dt s l
    have hc : zl_dt s (q :: l) = zl_nv q.2 * s q.1 + zl_dt s l := rfl
    rw [hc]
    cases hb : Nat.beq (q.2.1 % 4294967296) (q.2.2 % 4294967296) with
    | true =>
      rw [List.filter_cons_of_neg (by rw [hb]; decide), hy]
      have h1 := zz_beq hb
      obtain ⟨z, hz⟩ : ∃ z : Int, zl_nv q.2 = 4294967296 * z := ⟨zl_nv q.2 / 4294967296, by rw [zl_nv_eq]; omega⟩
      exact ⟨z * s q.1 + y, by rw [hz, Int.mul_assoc, Int.mul_add]; omega⟩
    | false =>
      rw [List.filter_cons_of_pos (by rw [hb]; rfl), hy]
      refine ⟨y, ?_⟩
      show _ = zl_nv q.2 * s q.1 + zl_dt s _ + 4294967296 * y
      omega
theorem zl_ld_ok {s : Nat → Int} {e : zl_E} (h0 : 0 ≤ zl_ev s (zl_ld e)) (h1 : zl_ev s (zl_ld e) < 4294967296) : zl_ev s e % 4294967296 = zl_ev s (zl_ld e) := by
  obtain ⟨y, hy⟩ := zl_ld_dt s e.2
  have h2 : zl_ev s e = zl_nv e.1 + zl_dt s e.2 := rfl
  have h3 : zl_ev s (zl_ld e) = zl_nv ((zl_nv e.1 % 4294967296).toNat, 0) + zl_dt s (e.2.filter (fun q => !(Nat.beq (q.2.1 % 4294967296) (q.2.2 % 4294967296)))) := rfl
  rw [zl_nv_eq ((zl_nv e.1 % 4294967296).toNat, 0)] at h3
  have h4 : (((zl_nv e.1 % 4294967296).toNat : Nat) : Int) = zl_nv e.1 % 4294967296 := by omega
  have h3 : zl_ev s (zl_ld e) = ((zl_nv e.1 % 4294967296).toNat : Int) - ((0 : Nat) : Int) + zl_dt s (e.2.filter (fun q => !(Nat.beq (q.2.1 % 4294967296) (q.2.2 % 4294967296)))) := h3
  rw [h4] at h3
  generalize zl_dt s (e.2.filter (fun q => !(Nat.beq (q.2.1 % 4294967296) (q.2.2 % 4294967296)))) = D at h3 hy
  generalize zl_dt s e.2 = D2 at h2 hy
  generalize zl_nv e.1 = c at h2 h3
  omega
def zk_kq (B : List (Int × Int)) (C : List zl_E) (i : Nat) (e : zl_E) (u : Nat) (p : zl_E) (h : List Nat) : Bool := cond (zv_LP u i) (zl_en B C h (zl_sub e p)) (cond (zv_LQ u i) (zl_en B C h (zl_sub e (zl_ld p))) (cond (zv_LS u i) (zl_en B C [] (zl_sub e (zl_ld p)) && zl_en B C [] (zl_sub (zl_ld p) e)) (zv_LR u i && zl_en B C h (zl_sub (zl_sub (zl_ld p) e) (zl_con 1)))) && (zl_pos B (zl_ld p) && zl_pos B (zl_sub (zl_con 4294967295) (zl_ld p))))
theorem zk_kq_ok {s : Nat → Int} {B : List (Int × Int)} {C : List zl_E} {i : Nat} {e p : zl_E} {u : Nat} {h : List Nat} {w w' : zz_W} (hb : zk_kq B C i e u p h = true) (hB : zl_in s B) (hC : zk_cs s C) (hw : zk_rL i (zl_ev s e) w w') : zv_H u w' (zl_ev s p) = zv_H u w (zl_ev s p) := by
  unfold zk_kq at hb
  cases hl : zv_LP u i with
  | true =>
    rw [hl] at hb
    have h7 := zl_en_ok hB hC (show zl_en B C h (zl_sub e p) = true from hb)
    rw [zl_sub_ev] at h7
    exact zv_LP_ok hl hw (by omega)
  | false =>
    rw [hl] at hb
    obtain ⟨b1, hb⟩ := zz_and (show (cond (zv_LQ u i) (zl_en B C h (zl_sub e (zl_ld p))) (cond (zv_LS u i) (zl_en B C [] (zl_sub e (zl_ld p)) && zl_en B C [] (zl_sub (zl_ld p) e)) (zv_LR u i && zl_en B C h (zl_sub (zl_sub (zl_ld p) e) (zl_con 1)))) && (zl_pos B (zl_ld p) && zl_pos B (zl_sub (zl_con 4294967295) (zl_ld p)))) = true from hb)
    obtain ⟨b3, b4⟩ := zz_and hb
    have h8 := zl_pos_ok hB b3
    have h9 := zl_pos_ok hB b4
    rw [zl_sub_ev, zl_con_ev] at h9
    have hm := zl_ld_ok h8 (by omega)
    cases hq : zv_LQ u i with
    | true =>
      rw [hq] at b1
      have h7 := zl_en_ok hB hC (show zl_en B C h (zl_sub e (zl_ld p)) = true from b1)
      rw [zl_sub_ev] at h7
      exact zv_LQ_ok hq hw (by rw [hm]; omega)
    | false =>
      rw [hq] at b1
      cases hs : zv_LS u i with
      | true =>
        rw [hs] at b1
        obtain ⟨c1, c2⟩ := zz_and (show (zl_en B C [] (zl_sub e (zl_ld p)) && zl_en B C [] (zl_sub (zl_ld p) e)) = true from b1)
        have h7 := zl_en_ok hB hC c1
        have h6 := zl_en_ok hB hC c2
        rw [zl_sub_ev] at h7 h6
        exact zv_LS_ok hs hw (by rw [hm]; omega)
      | false =>
        rw [hs] at b1
        obtain ⟨c1, c2⟩ := zz_and (show (zv_LR u i && zl_en B C h (zl_sub (zl_sub (zl_ld p) e) (zl_con 1))) = true from b1)
        have h7 := zl_en_ok hB hC c2
        rw [zl_sub_ev, zl_sub_ev, zl_con_ev] at h7
        exact zv_LR_ok c1 hw (by rw [hm]; omega)
/-- what stays known where a row of longs is set: what does not speak of it; functions that speak of it ahead of their place alone -/
def zk_kpL (B : List (Int × Int)) (C : List zl_E) (i : Nat) (e : zl_E) : List zk_E1 → List (List Nat) → List zk_E1
  | [], _ => []
  | x :: r, hs => cond ((zk_rws x.1).all (fun q => !(Nat.beq q i))) (x :: zk_kpL B C i e r hs) (cond (Nat.ble 2000000 x.1 && zk_kq B C i e (x.1 - 2000000) x.2.1 (hs.headD [])) (x :: zk_kpL B C i e r hs.tail) (zk_kpL B C i e r hs.tail))
theorem zk_kpL_ok {s : Nat → Int} {B : List (Int × Int)} {C : List zl_E} {i : Nat} {e : zl_E} {w w' : zz_W} (hB : zl_in s B) (hC : zk_cs s C) (hw : zk_rL i (zl_ev s e) w w') : ∀ {E : List zk_E1} {hs : List (List Nat)}, zk_eF s E w → zk_eF s (zk_kpL B C i e E hs) w'
  | [], _, _ => fun x hx => by cases hx
  | x :: r, hs, hE => by
    have ih : ∀ hs, zk_eF s (zk_kpL B C i e r hs) w' := fun hs => zk_kpL_ok hB hC hw (fun y hy => hE y (List.mem_cons_of_mem _ hy))
    have hx := hE x List.mem_cons_self
    have hc : ∀ {l : List zk_E1}, zk_eF s l w' → zk_xe w' x.1 (zl_ev s x.2.1) = zk_xe w x.1 (zl_ev s x.2.1) → zk_eF s (x :: l) w' := fun hl he y hy => by
      rcases List.mem_cons.mp hy with h1 | h1
      · rw [h1, he]
        exact hx
      · exact hl y h1
    unfold zk_kpL
    cases h1 : (zk_rws x.1).all (fun q => !(Nat.beq q i)) with
    | true =>
      refine hc (ih _) (zk_xe_g (fun q hq => hw.1 q (fun h2 => ?_)))
      have h3 := List.all_eq_true.mp h1 q hq
      rw [h2, Nat.beq_refl] at h3
      cases h3
    | false =>
      cases h2 : (Nat.ble 2000000 x.1 && zk_kq B C i e (x.1 - 2000000) x.2.1 (hs.headD [])) with
      | true =>
        obtain ⟨h5, h6⟩ := zz_and h2
        have h5 := zz_ble h5
        refine hc (ih _) ?_
        have h8 : x.1 = 2000000 + (x.1 - 2000000) := by omega
        rw [h8, zk_xe_h, zk_xe_h]
        exact zk_kq_ok h6 hB hC hw
      | false => exact ih _
/-- an element of a row of longs is set -/
def zk_w4E (X : zk_St) (ks : List (List Nat)) : List zk_E1 := match zv_LF (zk_tg2 X.1), zk_lgk X.1 with
  | some u, true => (2000000 + u, zk_ix2 X.1, zk_vl X.1) :: zk_kpL X.1.2.2.2.1 X.1.2.2.2.2 (zk_tg2 X.1) (zk_ix2 X.1) X.2.1 ks
  | _, _ => zk_kpL X.1.2.2.2.1 X.1.2.2.2.2 (zk_tg2 X.1) (zk_ix2 X.1) X.2.1 ks
def zk_w4 (HT : List (List zk_H)) (SU : Nat → List (Nat × Nat)) (X : zk_St) (n : Nat) (ks : List (List Nat)) (o : Option zk_A) : Option (List (Nat × zk_St)) := match o with
  | some A => some [(n, (A, zk_w4E X ks, zk_ofc SU X.2.2 (zk_tg2 X.1)))]
  | none => none
theorem zk_w4_ok {c : Nat} {HT : List (List zk_H)} {M : zk_M} {w0 : zk_W0} {PT : Nat → zz_W → Prop} {SU : Nat → List (Nat × Nat)} {TS : zk_TY} (hTT : zk_TT c HT PT SU TS) {act : zz_A} {X : zk_St} {n : Nat} {ks : List (List Nat)} {o : Option zk_A} {R : List (Nat × zk_St)} (h : zk_w4 HT SU X n ks o = some R) (hk : ∀ A, o = some A → zk_SW c HT M w0 act n X.1 A (fun s w w' => zk_rL (zk_tg2 X.1) (zl_ev s (zk_ix2 X.1)) w w' ∧ 0 ≤ zl_ev s (zk_ix2 X.1) ∧ (zk_lgk X.1 = true → zk_lel w' (zk_tg2 X.1) (zl_ev s (zk_ix2 X.1)).toNat = zl_ev s (zk_vl X.1)))) : zk_R2 PT c HT M w0 act X R := by
  obtain ⟨A0, E, Tk⟩ := X
  unfold zk_w4 at h
  split at h
  · rename_i A
    cases h
    obtain ⟨e1, e2⟩ := hk A rfl
    intro K s f hpv hG
    obtain ⟨g1, k1, k2⟩ := hG
    obtain ⟨f', m1, m2, m3, m4⟩ := e2 K s f hpv g1
    have e1 : A0.2.2.2.1 = A.2.2.2.1 := e1
    obtain ⟨m4, m5, m6⟩ := m4
    have m4 : zk_rL (zk_tg2 A0) (zl_ev s (zk_ix2 A0)) f.2.2.2 f'.2.2.2 := m4
    have m5 : 0 ≤ zl_ev s (zk_ix2 A0) := m5
    have m6 : zk_lgk A0 = true → zk_lel f'.2.2.2 (zk_tg2 A0) (zl_ev s (zk_ix2 A0)).toNat = zl_ev s (zk_vl A0) := m6
    have hE0 : zk_eF s (zk_kpL A0.2.2.2.1 A0.2.2.2.2 (zk_tg2 A0) (zk_ix2 A0) E ks) f'.2.2.2 := zk_kpL_ok g1.2.2.2.1 g1.2.2.2.2.1 m4 k1
    have hE' : zk_eF s (zk_w4E (A0, E, Tk) ks) f'.2.2.2 := by
      unfold zk_w4E
      split
      · rename_i u hu hl
        have hu : zv_LF (zk_tg2 A0) = some u := hu
        have hl : zk_lgk A0 = true := hl
        intro y hy
        rcases List.mem_cons.mp hy with ey | hy
        · subst ey
          refine ⟨m5, ?_⟩
          show zk_xe f'.2.2.2 (2000000 + u) (zl_ev s (zk_ix2 A0)) = zl_ev s (zk_vl A0)
          rw [zk_xe_h, zv_LF_ok hu]
          exact m6 hl
        · exact hE0 y hy
      · exact hE0
    refine ⟨s, f', (n, (A, zk_w4E (A0, E, Tk) ks, zk_ofc SU Tk (zk_tg2 A0))), m1, List.mem_cons_self, m2, ⟨m3, hE', fun t ht => ?_⟩, Nat.le_of_eq (congrArg List.length e1), fun _ _ => rfl⟩
    obtain ⟨t1, t3⟩ := zk_ofc_ok ht
    refine hTT.1 t f.2.2.2 f'.2.2.2 g1.2.2.2.2.2.1 m3.2.2.2.2.2.1 (fun q hq h9 => ?_) (fun q hq h9 => ?_) (k2 t t1)
    · unfold zk_fd
      rw [m4.1 q.1 (t3 q hq)]
    · exact m4.1 q.1 (t3 q hq)
  · cases h
/-! EDGES of states -/
def zk_eeq (t : List zl_E) (D E : List zk_E1) : Bool := D.all (fun x => Nat.ble (zl_mx x.2.1.2) t.length && (Nat.ble (zl_mx x.2.2.2) t.length && (match zk_ek E x.1 (zl_subst t x.2.1) with
  | some v => zl_nul (zl_sub (zl_subst t x.2.2) v)
  | none => false)))
theorem zk_eeq_ok {s : Nat → Int} {t : List zl_E} {D E : List zk_E1} {w : zz_W} (h : zk_eeq t D E = true) (hE : zk_eF s E w) : zk_eF (zk_u s t) D w := by
  intro x hx
  have h1 := List.all_eq_true.mp h x hx
  obtain ⟨b1, hb⟩ := zz_and h1
  obtain ⟨b2, b3⟩ := zz_and hb
  split at b3
  · rename_i v hv
    have h2 := zk_ek_ok hv hE
    have h3 := zl_nul_ok (s := s) b3
    rw [zl_sub_ev] at h3
    rw [zl_subst_ev (u := zk_u s t) (zz_ble b2) zk_u_at] at h3
    rw [zl_subst_ev (u := zk_u s t) (zz_ble b1) zk_u_at] at h2
    refine ⟨h2.1, ?_⟩
    rw [h2.2]
    omega
  · cases b3
def zk_keq (HT : List (List zk_H)) (TS : zk_TY) (X : zk_St) (D : List Nat) (cv : List zk_Cv) : Bool := cv.all (fun x => zk_cv HT TS X.2.2 X.1.2.2.2.1 X.1.2.2.2.2 X.1.2.2.1 X.1.2.2.1 X.2.1 x || zk_cv2 HT TS X.2.2 X.1.2.2.2.1 X.1.2.2.2.2 X.1.2.2.1 X.1.2.2.1 X.2.1 X.2.1 [] x) && D.all (fun t => X.2.2.any (Nat.beq t) || cv.any (fun x => Nat.beq t x.1))
theorem zk_keq_ok {c : Nat} {HT : List (List zk_H)} {PT : Nat → zz_W → Prop} {SU : Nat → List (Nat × Nat)} {TS : zk_TY} (hTT : zk_TT c HT PT SU TS) {I : zz_W → Prop} (hI : ∀ w, I w → zk_I c HT w) {X : zk_St} {D : List Nat} {cv : List zk_Cv} (h : zk_keq HT TS X D cv = true) {s : Nat → Int} {f : zz_F} (hG : zk_G2 PT I s X f) : ∀ t ∈ D, PT t f.2.2.2 := by
  obtain ⟨b1, b2⟩ := zz_and h
  obtain ⟨g1, k1, k2⟩ := hG
  intro t ht
  rcases Bool.or_eq_true_iff.mp (List.all_eq_true.mp b2 t ht) with h1 | h1
  · exact k2 t (zk_any_beq h1)
  · obtain ⟨x, x1, x2⟩ := List.any_eq_true.mp h1
    rw [zz_beq x2]
    rcases Bool.or_eq_true_iff.mp (List.all_eq_true.mp b1 x x1) with hx | hx
    · exact zk_cv_ok hTT hx (hI _ g1.2.2.2.2.2) g1.2.2.2.1 g1.2.2.2.2.1 g1.2.2.1 g1.2.2.1 k1 k2 (fun _ _ _ _ _ => rfl)
    · exact zk_cv2_ok hTT hx (hI _ g1.2.2.2.2.2) g1.2.2.2.1 g1.2.2.2.2.1 g1.2.2.1 g1.2.2.1 k1 k1 k2 (fun _ _ _ _ _ => rfl)
def zk_edg2 (HT : List (List zk_H)) (TS : zk_TY) (X D : zk_St) (h : zk_Eh) (cv : List zk_Cv) : Bool := zk_edge X.1 D.1 h && (zk_eeq h.1 D.2.1 X.2.1 && zk_keq HT TS X D.2.2 cv)
theorem zk_edg2_ok {c : Nat} {HT : List (List zk_H)} {PT : Nat → zz_W → Prop} {SU : Nat → List (Nat × Nat)} {TS : zk_TY} (hTT : zk_TT c HT PT SU TS) {I : zz_W → Prop} (hI : ∀ w, I w → zk_I c HT w) {X D : zk_St} {h : zk_Eh} {cv : List zk_Cv} (he : zk_edg2 HT TS X D h cv = true) {s : Nat → Int} {f : zz_F} (hG : zk_G2 PT I s X f) : zk_G2 PT I (zk_u s h.1) D f ∧ D.1.2.2.2.1.length = h.1.length := by
  obtain ⟨b1, hb⟩ := zz_and he
  obtain ⟨b2, b3⟩ := zz_and hb
  obtain ⟨e1, e2⟩ := zk_edge_ok b1 hG.1
  exact ⟨⟨e1, zk_eeq_ok b2 hG.2.1, zk_keq_ok hTT hI b3 hG⟩, e2⟩
end
end
section
/-! DIGITS of coded places; what a call leaves: places ahead of those that may change -/
noncomputable section
/-- a sum of numbers that are not below 0: its lowest digit (by 2^32), and the rest -/
def zl_nng (e : zl_E) : Bool := Nat.ble e.1.2 e.1.1 && e.2.all (fun q => Nat.ble q.2.2 q.2.1)
def zl_lo (e : zl_E) : zl_E := ((Nat.mod (Nat.sub e.1.1 e.1.2) 4294967296, 0), zl_mp (fun a => (Nat.mod (Nat.sub a.1 a.2) 4294967296, 0)) e.2)
def zl_hi (e : zl_E) : zl_E := ((Nat.div (Nat.sub e.1.1 e.1.2) 4294967296, 0), zl_mp (fun a => (Nat.div (Nat.sub a.1 a.2) 4294967296, 0)) e.2)
theorem zl_lh_nv {a : zl_N} (h : Nat.ble a.2 a.1 = true) : zl_nv a = zl_nv (Nat.mod (Nat.sub a.1 a.2) 4294967296, 0) + 4294967296 * zl_nv (Nat.div (Nat.sub a.1 a.2) 4294967296, 0) := by
  have h1 := zz_ble h
  rw [zl_nv_eq, zl_nv_eq, zl_nv_eq]
  show (a.1 : Int) - (a.2 : Int) = ((((a.1 - a.2) % 4294967296 : Nat) : Int) - ((0 : Nat) : Int)) + 4294967296 * ((((a.1 - a.2) / 4294967296 : Nat) : Int) - ((0 : Nat) : Int))
  omega
theorem zl_lh_dt (s : Nat → Int) : ∀ (l : List (Nat × zl_N)), l.all (fun q => Nat.ble q.2.2 q.2.1) = true → zl_dt s l = zl_dt s (zl_mp (fun a => (Nat.mod (Nat.sub a.1 a.2) 4294967296, 0)) l) + 4294967296 * zl_dt s (zl_mp (fun a => (Nat.div (Nat.sub a.1 a.2) 4294967296, 0)) l)
  | [], _ => by
    show (0 : Int) = 0 + 4294967296 * 0
    omega
  | q :: l, h => by
    obtain ⟨h1, h2⟩ := zz_and (show (Nat.ble q.2.2 q.2.1 && l.all (fun q => Nat.ble q.2.2 q.2.1)) = true from h)
    have h3 := zl_lh_dt s l h2
    have h4 := zl_lh_nv h1
    show zl_nv q.2 * s q.1 + zl_dt s l = (zl_nv (Nat.mod (Nat.sub q.2.1 q.2.2) 4294967296, 0) * s q.1 + zl_dt s (zl_mp (fun a => (Nat.mod (Nat.sub a.1 a.2) 4294967296, 0)) l)) + 4294967296 * (zl_nv (Nat.div (Nat.sub q.2.1 q.2.2) 4294967296, 0) * s q.1 + zl_dt s (zl_mp (fun a => (Nat.div (Nat.sub a.1 a.2) 4294967296, 0)) l))
    rw [h3, h4, Int.add_mul, Int.mul_assoc]
    omega
theorem zl_lh_ev {s : Nat → Int} {e : zl_E} (h : zl_nng e = true) : zl_ev s e = zl_ev s (zl_lo e) + 4294967296 * zl_ev s (zl_hi e) := by
  obtain ⟨h1, h2⟩ := zz_and h
  unfold zl_ev
  show zl_nv e.1 + zl_dt s e.2 = (zl_nv (Nat.mod (Nat.sub e.1.1 e.1.2) 4294967296, 0) + zl_dt s (zl_mp (fun a => (Nat.mod (Nat.sub a.1 a.2) 4294967296, 0)) e.2)) + 4294967296 * (zl_nv (Nat.div (Nat.sub e.1.1 e.1.2) 4294967296, 0) + zl_dt s (zl_mp (fun a => (Nat.div (Nat.sub a.1 a.2) 4294967296, 0)) e.2))
  rw [zl_lh_nv h1, zl_lh_dt s e.2 h2]
  omega
def zl_dig (B : List (Int × Int)) (C : List zl_E) : Nat → zl_E → Option zl_E
  | 0, e => cond (zl_nng e && (zl_gq B C (zl_lo e) && zl_gq B C (zl_sub (zl_con 4294967295) (zl_lo e)))) (some (zl_lo e)) none
  | i + 1, e => cond (zl_nng e && (zl_gq B C (zl_lo e) && zl_gq B C (zl_sub (zl_con 4294967295) (zl_lo e)))) (zl_dig B C i (zl_hi e)) none
theorem zl_dig_ok {s : Nat → Int} {B : List (Int × Int)} {C : List zl_E} (hB : zl_in s B) (hC : ∀ c ∈ C, 0 ≤ zl_ev s c) : ∀ {i : Nat} {e d : zl_E}, zl_dig B C i e = some d → zv_dg i (zl_ev s e) = zl_ev s d
  | 0, e, d, h => by
    unfold zl_dig at h
    obtain ⟨hb, h⟩ := zz_cond h
    cases h
    obtain ⟨b1, hb⟩ := zz_and hb
    obtain ⟨b2, b3⟩ := zz_and hb
    have h2 := zl_gq_ok hB hC b2
    have h3 := zl_gq_ok hB hC b3
    rw [zl_sub_ev, zl_con_ev] at h3
    rw [zl_lh_ev b1]
    show (zl_ev s (zl_lo e) + 4294967296 * zl_ev s (zl_hi e)) % 4294967296 = _
    omega
  | i + 1, e, d, h => by
    unfold zl_dig at h
    obtain ⟨hb, h⟩ := zz_cond h
    obtain ⟨b1, hb⟩ := zz_and hb
    obtain ⟨b2, b3⟩ := zz_and hb
    have h2 := zl_gq_ok hB hC b2
    have h3 := zl_gq_ok hB hC b3
    rw [zl_sub_ev, zl_con_ev] at h3
    have h4 := zl_dig_ok hB hC h
    rw [← h4, zl_lh_ev b1]
    show zv_dg i ((zl_ev s (zl_lo e) + 4294967296 * zl_ev s (zl_hi e)) / 4294967296) = _
    rw [show (zl_ev s (zl_lo e) + 4294967296 * zl_ev s (zl_hi e)) / 4294967296 = zl_ev s (zl_hi e) by omega]
def zl_digs (B : List (Int × Int)) (C : List zl_E) : Nat → zl_E → Option (List zl_E)
  | 0, _ => some []
  | n + 1, e => cond (zl_nng e && (zl_gq B C (zl_lo e) && zl_gq B C (zl_sub (zl_con 4294967295) (zl_lo e)))) (match zl_digs B C n (zl_hi e) with
    | some l => some (zl_lo e :: l)
    | none => none) none
theorem zl_digs_ok {s : Nat → Int} {B : List (Int × Int)} {C : List zl_E} (hB : zl_in s B) (hC : ∀ c ∈ C, 0 ≤ zl_ev s c) : ∀ {n : Nat} {e : zl_E} {l : List zl_E}, zl_digs B C n e = some l → ∀ i, i < n → zv_dg i (zl_ev s e) = zl_ev s (l.getD i (zl_con 0))
  | 0, _, _, _, _, hi => absurd hi (Nat.not_lt_zero _)
  | n + 1, e, l, h, i, hi => by
    unfold zl_digs at h
    obtain ⟨hb, h⟩ := zz_cond h
    obtain ⟨b1, hb⟩ := zz_and hb
    obtain ⟨b2, b3⟩ := zz_and hb
    have h2 := zl_gq_ok hB hC b2
    have h3 := zl_gq_ok hB hC b3
    rw [zl_sub_ev, zl_con_ev] at h3
    split at h
    · rename_i l' hl
      cases h
      rw [zl_lh_ev b1]
      cases i with
      | zero =>
        show (zl_ev s (zl_lo e) + 4294967296 * zl_ev s (zl_hi e)) % 4294967296 = zl_ev s (zl_lo e)
        omega
      | succ i =>
        have h4 := zl_digs_ok hB hC hl i (by omega)
        show zv_dg i ((zl_ev s (zl_lo e) + 4294967296 * zl_ev s (zl_hi e)) / 4294967296) = zl_ev s (l'.getD i (zl_con 0))
        rw [show (zl_ev s (zl_lo e) + 4294967296 * zl_ev s (zl_hi e)) / 4294967296 = zl_ev s (zl_hi e) by omega]
        exact h4
    · cases h
/-- the places from lo up to e of row r are left by a call (N: what it may change, t: its symbols) -/
def zk_bel (N : zk_M) (B : List (Int × Int)) (C : List zl_E) (t : List zl_E) (r : Nat) (lo e : zl_E) : Bool := !(zk_inM N.1 r 999) && N.2.all (fun p => Nat.ble (zl_mx p.2.2) t.length && ((!(Nat.beq p.1 r) || (zl_gq B C (zl_sub (zl_subst t p.2) e) || zl_gq B C (zl_sub (zl_sub lo (zl_con 1)) (zl_subst t p.2)))) && (!(Nat.beq p.1 (r + 10000000)) || zl_gq B C (zl_sub (zl_subst t p.2) e))))
theorem zk_nbq {a b : Nat} (h : (!(Nat.beq a b)) = true) : a ≠ b := by
  intro e
  rw [e, Nat.beq_refl] at h
  cases h
theorem zk_bel_ok {c : Nat} {HT : List (List zk_H)} {N : zk_M} {B : List (Int × Int)} {C : List zl_E} {t : List zl_E} {r : Nat} {lo e : zl_E} {s : Nat → Int} {w w' : zz_W} (hB : zl_in s B) (hC : ∀ c ∈ C, 0 ≤ zl_ev s c) (h : zk_bel N B C t r lo e = true) (hJ : zk_J c HT N (w, N.2.map (fun p => (p.1, zl_ev (zk_u s t) p.2))) w') (hr : r < w.1) (h3 : (zz_g w r).1 ≠ 3) {q : Int} (hq : 0 ≤ q) (hq1 : zl_ev s lo ≤ q) (hq2 : q < zl_ev s e) : zk_el w' r q = zk_el w r q := by
  obtain ⟨h1, h2⟩ := zz_and h
  have h9 : (r, 999) ∉ N.1 := fun hin => by
    rw [zk_inM_mem hin] at h1
    cases h1
  refine (hJ.2.1.2 r h9 hr h3).2 q hq ⟨fun hm => ?_, fun x hm => ?_⟩
  · obtain ⟨p, p1, p2⟩ := List.mem_map.mp hm
    have e1 : p.1 = r := congrArg Prod.fst p2
    have e2 : zl_ev (zk_u s t) p.2 = q := congrArg Prod.snd p2
    obtain ⟨b1, b2⟩ := zz_and (List.all_eq_true.mp h2 p p1)
    obtain ⟨b2, -⟩ := zz_and b2
    rcases Bool.or_eq_true_iff.mp b2 with b2 | b2
    · exact zk_nbq b2 e1
    · rcases Bool.or_eq_true_iff.mp b2 with b2 | b2
      · have := zl_gq_ok hB hC b2
        rw [zl_sub_ev, zl_subst_ev (u := zk_u s t) (zz_ble b1) zk_u_at] at this
        omega
      · have := zl_gq_ok hB hC b2
        rw [zl_sub_ev, zl_sub_ev, zl_con_ev, zl_subst_ev (u := zk_u s t) (zz_ble b1) zk_u_at] at this
        omega
  · obtain ⟨p, p1, p2⟩ := List.mem_map.mp hm
    have e1 : p.1 = r + 10000000 := congrArg Prod.fst p2
    have e2 : zl_ev (zk_u s t) p.2 = x := congrArg Prod.snd p2
    obtain ⟨b1, b2⟩ := zz_and (List.all_eq_true.mp h2 p p1)
    obtain ⟨-, b2⟩ := zz_and b2
    rcases Bool.or_eq_true_iff.mp b2 with b2 | b2
    · exact absurd e1 (zk_nbq b2)
    · have := zl_gq_ok hB hC b2
      rw [zl_sub_ev, zl_subst_ev (u := zk_u s t) (zz_ble b1) zk_u_at] at this
      omega
def zk_kc (N : zk_M) (i : Nat) : Bool := Nat.blt i 171 || (Nat.blt i 1000000 && N.2.any (fun p => Nat.beq p.1 (i + 10000000)))
theorem zk_kc_b {N : zk_M} {i : Nat} (h : zk_kc N i = true) : Nat.blt i 1000000 = true := by
  unfold zk_kc at h
  rcases Bool.or_eq_true_iff.mp h with h | h
  · exact Nat.ble_eq.mpr (by have := zz_blt h; omega)
  · exact (zz_and h).1
/-- an element that is known stays so over a call that may change its rows at other places -/
def zk_kep (N : zk_M) (B : List (Int × Int)) (C : List zl_E) (t : List zl_E) (x : zk_E1) : Bool :=
  cond (zk_kc N x.1) (zk_bel N B C t x.1 x.2.1 (zl_add x.2.1 (zl_con 1)))
    (!(Nat.blt x.1 2000000) && (zk_rws x.1).all (fun r => (!(zk_inM N.1 r 999) && !(zk_inM N.1 r 998)) || (zv_AP (x.1 - 2000000)).any (fun q => Nat.beq q.1 r && (match zl_dig B C q.2.2.1 x.2.1, zl_dig B C q.2.2.2 x.2.1 with
      | some d0, some d1 => zk_bel N B C t r (zl_mul (Int.ofNat q.2.1) d0) (zl_mul (Int.ofNat q.2.1) d1)
      | _, _ => false))))
theorem zk_kep_ok {c : Nat} {HT : List (List zk_H)} {N : zk_M} {B : List (Int × Int)} {C : List zl_E} {t : List zl_E} {x : zk_E1} {s : Nat → Int} {w w' : zz_W} (hB : zl_in s B) (hC : ∀ c ∈ C, 0 ≤ zl_ev s c) (h : zk_kep N B C t x = true) (hI : zk_I c HT w) (hJ : zk_J c HT N (w, N.2.map (fun p => (p.1, zl_ev (zk_u s t) p.2))) w') (h3 : ∀ r ∈ zk_rws x.1, (zk_h HT r).1 < 3) (hx : 0 ≤ zl_ev s x.2.1) : zk_xe w' x.1 (zl_ev s x.2.1) = zk_xe w x.1 (zl_ev s x.2.1) := by
  unfold zk_kep at h
  cases hb7 : zk_kc N x.1 with
  | true =>
    rw [hb7] at h
    have hb : Nat.blt x.1 1000000 = true := zk_kc_b hb7
    obtain ⟨i1, i2, -⟩ := hI.2.2.2 x.1 (by have := h3 x.1 (by rw [zk_rws_i1 hb]; exact List.mem_cons_self); omega)
    have h4 := h3 x.1 (by rw [zk_rws_i1 hb]; exact List.mem_cons_self)
    rw [zk_xe_r hb, zk_xe_r hb]
    exact zk_bel_ok hB hC h hJ i1 (by rw [i2]; omega) hx (Int.le_refl _) (by rw [zl_add_ev, zl_con_ev]; omega)
  | false =>
    rw [hb7] at h
    obtain ⟨h1, h2⟩ := zz_and (show (!(Nat.blt x.1 2000000) && (zk_rws x.1).all _) = true from h)
    have hb2 : Nat.blt x.1 2000000 = false := by
      cases hb2 : Nat.blt x.1 2000000 with
      | false => rfl
      | true =>
        rw [hb2] at h1
        cases h1
    have hb : Nat.blt x.1 1000000 = false := by
      cases hb : Nat.blt x.1 1000000 with
      | false => rfl
      | true =>
        have h9 : Nat.blt x.1 2000000 = true := Nat.ble_eq.mpr (by have := zz_blt hb; omega)
        rw [h9] at hb2
        cases hb2
    rw [zk_xe_i3 hb hb2, zk_xe_i3 hb hb2]
    refine zv_AP_ok (fun r hr => ?_)
    rw [← zk_rws_i3 hb hb2] at hr
    have h5 := h3 r hr
    obtain ⟨i1, i2, -⟩ := hI.2.2.2 r (by omega)
    rcases Bool.or_eq_true_iff.mp (List.all_eq_true.mp h2 r hr) with h6 | h6
    · obtain ⟨c1, c2⟩ := zz_and h6
      refine Or.inl ((hJ.2.1.2 r (fun hin => ?_) i1 (by rw [i2]; omega)).1 (fun hin => ?_))
      · rw [zk_inM_mem hin] at c1
        cases c1
      · rw [zk_inM_mem hin] at c2
        cases c2
    · obtain ⟨q, q1, q2⟩ := List.any_eq_true.mp h6
      obtain ⟨q2, q3⟩ := zz_and q2
      refine Or.inr ⟨q, q1, zz_beq q2, fun p hp0 hp1 hp2 => ?_⟩
      split at q3
      · rename_i d0 d1 hd0 hd1
        rw [zl_dig_ok hB hC hd0] at hp1
        rw [zl_dig_ok hB hC hd1] at hp2
        exact zk_bel_ok hB hC q3 hJ i1 (by rw [i2]; omega) hp0 (by rw [zl_mul_ev]; exact hp1) (by rw [zl_mul_ev]; exact hp2)
      · cases q3
end
end
