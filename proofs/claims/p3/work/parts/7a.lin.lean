/-! LINEAR SUMS over symbols: a constant, and a coefficient for each symbol in order; bounds of symbols; what follows from what, by multipliers that are handed in -/
abbrev zl_E : Type := Int × List Int
def zl_dt (s : Nat → Int) : Nat → List Int → Int
  | _, [] => 0
  | k, c :: r => c * s k + zl_dt s (k + 1) r
def zl_ev (s : Nat → Int) (e : zl_E) : Int := e.1 + zl_dt s 0 e.2
/-- nothing -/
def zl_z (c : Int) : Bool := match c with
  | .ofNat n => Nat.beq n 0
  | .negSucc _ => false
theorem zl_z_ok {c : Int} (h : zl_z c = true) : c = 0 := by
  unfold zl_z at h
  split at h
  · rename_i n
    have h1 : n = 0 := Nat.eq_of_beq_eq_true h
    subst h1
    rfl
  · cases h
def zl_va : List Int → List Int → List Int
  | [], b => b
  | x :: a, [] => x :: a
  | x :: a, y :: b => Int.add x y :: zl_va a b
theorem zl_va_dt (s : Nat → Int) : ∀ (a b : List Int) (k : Nat), zl_dt s k (zl_va a b) = zl_dt s k a + zl_dt s k b
  | [], b, k => by
    show zl_dt s k b = 0 + zl_dt s k b
    omega
  | x :: a, [], k => by
    show zl_dt s k (x :: a) = zl_dt s k (x :: a) + 0
    omega
  | x :: a, y :: b, k => by
    show (x + y) * s k + zl_dt s (k + 1) (zl_va a b) = (x * s k + zl_dt s (k + 1) a) + (y * s k + zl_dt s (k + 1) b)
    rw [zl_va_dt s a b (k + 1), Int.add_mul]
    omega
def zl_vs (m : Int) : List Int → List Int
  | [] => []
  | c :: r => Int.mul m c :: zl_vs m r
theorem zl_vs_dt (s : Nat → Int) (m : Int) : ∀ (a : List Int) (k : Nat), zl_dt s k (zl_vs m a) = m * zl_dt s k a
  | [], k => by
    show (0 : Int) = m * 0
    rw [Int.mul_zero]
  | c :: r, k => by
    show m * c * s k + zl_dt s (k + 1) (zl_vs m r) = m * (c * s k + zl_dt s (k + 1) r)
    rw [zl_vs_dt s m r (k + 1), Int.mul_add, Int.mul_assoc]
def zl_add (a b : zl_E) : zl_E := (a.1 + b.1, zl_va a.2 b.2)
def zl_mul (m : Int) (a : zl_E) : zl_E := (m * a.1, zl_vs m a.2)
def zl_sub (a b : zl_E) : zl_E := zl_add a (zl_mul (-1) b)
def zl_con (c : Int) : zl_E := (c, [])
def zl_un : Nat → List Int
  | 0 => [1]
  | k + 1 => 0 :: zl_un k
def zl_sym (k : Nat) : zl_E := (0, zl_un k)
theorem zl_add_ev (s : Nat → Int) (a b : zl_E) : zl_ev s (zl_add a b) = zl_ev s a + zl_ev s b := by
  show a.1 + b.1 + zl_dt s 0 (zl_va a.2 b.2) = (a.1 + zl_dt s 0 a.2) + (b.1 + zl_dt s 0 b.2)
  rw [zl_va_dt]
  omega
theorem zl_mul_ev (s : Nat → Int) (m : Int) (a : zl_E) : zl_ev s (zl_mul m a) = m * zl_ev s a := by
  show m * a.1 + zl_dt s 0 (zl_vs m a.2) = m * (a.1 + zl_dt s 0 a.2)
  rw [zl_vs_dt, Int.mul_add]
theorem zl_sub_ev (s : Nat → Int) (a b : zl_E) : zl_ev s (zl_sub a b) = zl_ev s a - zl_ev s b := by
  unfold zl_sub
  rw [zl_add_ev, zl_mul_ev]
  omega
theorem zl_con_ev (s : Nat → Int) (c : Int) : zl_ev s (zl_con c) = c := by
  show c + 0 = c
  omega
theorem zl_un_dt (s : Nat → Int) : ∀ (k j : Nat), zl_dt s j (zl_un k) = s (j + k)
  | 0, j => by
    show 1 * s j + 0 = s (j + 0)
    rw [Int.one_mul, Int.add_zero, Nat.add_zero]
  | k + 1, j => by
    show 0 * s j + zl_dt s (j + 1) (zl_un k) = s (j + (k + 1))
    rw [zl_un_dt s k (j + 1), Int.zero_mul, Int.zero_add]
    congr 1
    omega
theorem zl_sym_ev (s : Nat → Int) (k : Nat) : zl_ev s (zl_sym k) = s k := by
  show 0 + zl_dt s 0 (zl_un k) = s k
  rw [zl_un_dt, Nat.zero_add, Int.zero_add]
/-- the symbols are within their bounds -/
def zl_in (s : Nat → Int) (S : List (Int × Int)) : Prop := ∀ (k : Nat) (q : Int × Int), S[k]? = some q → q.1 ≤ s k ∧ s k ≤ q.2
/-- the least value that the bounds allow -/
def zl_lb : List Int → List (Int × Int) → Option Int
  | [], _ => some 0
  | c :: r, [] => if c = 0 then zl_lb r [] else none
  | c :: r, q :: t => cond (zl_z c) (zl_lb r t) (match zl_lb r t with
    | some v => some (v + (if 0 ≤ c then c * q.1 else c * q.2))
    | none => none)
theorem zl_lb_ok (s : Nat → Int) : ∀ (a : List Int) (S : List (Int × Int)) (k : Nat) (v : Int), (∀ (j : Nat) (q : Int × Int), S[j]? = some q → q.1 ≤ s (k + j) ∧ s (k + j) ≤ q.2) → zl_lb a S = some v → v ≤ zl_dt s k a
  | [], S, k, v, _, h => by
    have h : some (0 : Int) = some v := by
      cases S <;> exact h
    cases h
    exact Int.le_refl _
  | c :: r, [], k, v, hS, h => by
    have h : (if c = 0 then zl_lb r [] else none) = some v := h
    split at h
    · rename_i hc
      subst hc
      have h1 := zl_lb_ok s r [] (k + 1) v (fun j q hq => by cases hq) h
      show v ≤ 0 * s k + zl_dt s (k + 1) r
      omega
    · cases h
  | c :: r, q :: t, k, v, hS, h => by
    have h : cond (zl_z c) (zl_lb r t) (match zl_lb r t with | some v => some (v + (if 0 ≤ c then c * q.1 else c * q.2)) | none => none) = some v := h
    cases hz : zl_z c with
    | true =>
      rw [hz] at h
      have h : zl_lb r t = some v := h
      have h1 := zl_lb_ok s r t (k + 1) v (fun j q' hq => by
        have := hS (j + 1) q' hq
        rw [show k + 1 + j = k + (j + 1) by omega]
        exact this) h
      show v ≤ c * s k + zl_dt s (k + 1) r
      rw [zl_z_ok hz]
      omega
    | false =>
      rw [hz] at h
      have h : (match zl_lb r t with | some v => some (v + (if 0 ≤ c then c * q.1 else c * q.2)) | none => none) = some v := h
      split at h
      · rename_i u hu
        cases h
        have h1 := zl_lb_ok s r t (k + 1) u (fun j q' hq => by
          have := hS (j + 1) q' hq
          rw [show k + 1 + j = k + (j + 1) by omega]
          exact this) hu
        have h2 := hS 0 q rfl
        rw [Nat.add_zero] at h2
        show u + (if 0 ≤ c then c * q.1 else c * q.2) ≤ c * s k + zl_dt s (k + 1) r
        have h3 : (if 0 ≤ c then c * q.1 else c * q.2) ≤ c * s k := by
          split
          · rename_i hc
            exact Int.mul_le_mul_of_nonneg_left h2.1 hc
          · rename_i hc
            exact Int.mul_le_mul_of_nonpos_left (by omega) h2.2
        omega
      · cases h
/-- a sum of given ones, each so many times -/
def zl_cmb : List Nat → List zl_E → zl_E
  | h :: hs, c :: cs => cond (Nat.beq h 0) (zl_cmb hs cs) (zl_add (zl_mul (Int.ofNat h) c) (zl_cmb hs cs))
  | _, _ => zl_con 0
theorem zl_cmb_ok (s : Nat → Int) : ∀ (h : List Nat) (C : List zl_E), (∀ c ∈ C, 0 ≤ zl_ev s c) → 0 ≤ zl_ev s (zl_cmb h C)
  | [], C, _ => by
    show 0 ≤ zl_ev s (zl_con 0)
    rw [zl_con_ev]
    exact Int.le_refl _
  | h :: hs, [], _ => by
    show 0 ≤ zl_ev s (zl_con 0)
    rw [zl_con_ev]
    exact Int.le_refl _
  | h :: hs, c :: cs, hC => by
    have h1 := hC c List.mem_cons_self
    have h2 := zl_cmb_ok s hs cs (fun x hx => hC x (List.mem_cons_of_mem _ hx))
    show 0 ≤ zl_ev s (cond (Nat.beq h 0) (zl_cmb hs cs) (zl_add (zl_mul (Int.ofNat h) c) (zl_cmb hs cs)))
    cases Nat.beq h 0 with
    | true => exact h2
    | false =>
      show 0 ≤ zl_ev s (zl_add (zl_mul (Int.ofNat h) c) (zl_cmb hs cs))
      rw [zl_add_ev, zl_mul_ev]
      have h3 : 0 ≤ Int.ofNat h * zl_ev s c := Int.mul_nonneg (Int.natCast_nonneg h) h1
      omega
def zl_pos (S : List (Int × Int)) (d : zl_E) : Bool := match zl_lb d.2 S with
  | some v => decide (0 ≤ d.1 + v)
  | none => false
theorem zl_pos_ok {s : Nat → Int} {S : List (Int × Int)} {d : zl_E} (hS : zl_in s S) (h : zl_pos S d = true) : 0 ≤ zl_ev s d := by
  unfold zl_pos at h
  split at h
  · rename_i v hv
    have h1 := zl_lb_ok s d.2 S 0 v (fun j q hq => by rw [Nat.zero_add]; exact hS j q hq) hv
    have h2 : 0 ≤ d.1 + v := of_decide_eq_true h
    show 0 ≤ d.1 + zl_dt s 0 d.2
    omega
  · cases h
/-- e is not below 0, by bounds and given sums -/
def zl_en (S : List (Int × Int)) (C : List zl_E) (h : List Nat) (e : zl_E) : Bool := zl_pos S (zl_sub e (zl_cmb h C))
theorem zl_en_ok {s : Nat → Int} {S : List (Int × Int)} {C : List zl_E} {h : List Nat} {e : zl_E} (hS : zl_in s S) (hC : ∀ c ∈ C, 0 ≤ zl_ev s c) (he : zl_en S C h e = true) : 0 ≤ zl_ev s e := by
  have h1 := zl_pos_ok hS he
  rw [zl_sub_ev] at h1
  have h2 := zl_cmb_ok s h C hC
  omega
/-- one symbol more -/
theorem zl_in_snoc {s : Nat → Int} {S : List (Int × Int)} {lo hi : Int} (h : zl_in s S) (h1 : lo ≤ s S.length) (h2 : s S.length ≤ hi) : zl_in s (S ++ [(lo, hi)]) := by
  intro k q hq
  by_cases hk : k < S.length
  · rw [List.getElem?_append_left hk] at hq
    exact h k q hq
  · by_cases he : k = S.length
    · subst he
      rw [List.getElem?_append_right (Nat.le_refl _), Nat.sub_self] at hq
      cases hq
      exact ⟨h1, h2⟩
    · rw [List.getElem?_append_right (by omega), List.getElem?_eq_none (by simp; omega)] at hq
      cases hq
/-- a sum has no symbol from n on -/
def zl_lt (n : Nat) (e : zl_E) : Prop := e.2.length ≤ n
theorem zl_dt_eq {s t : Nat → Int} : ∀ (a : List Int) (k : Nat), (∀ j, k ≤ j → j < k + a.length → s j = t j) → zl_dt s k a = zl_dt t k a
  | [], _, _ => rfl
  | c :: r, k, h => by
    show c * s k + zl_dt s (k + 1) r = c * t k + zl_dt t (k + 1) r
    have hl : (c :: r).length = r.length + 1 := rfl
    rw [h k (Nat.le_refl _) (by rw [hl]; omega), zl_dt_eq r (k + 1) (fun j h1 h2 => h j (by omega) (by rw [hl]; omega))]
theorem zl_ev_eq {s t : Nat → Int} {n : Nat} {e : zl_E} (he : zl_lt n e) (h : ∀ j, j < n → s j = t j) : zl_ev s e = zl_ev t e := by
  unfold zl_ev
  rw [zl_dt_eq e.2 0 (fun j _ h2 => h j (Nat.lt_of_lt_of_le (by omega) he))]
/-- symbols put in for symbols -/
def zl_sb : List zl_E → List Int → zl_E
  | q :: t, c :: r => cond (zl_z c) (zl_sb t r) (zl_add (zl_mul c q) (zl_sb t r))
  | _, _ => zl_con 0
def zl_subst (t : List zl_E) (e : zl_E) : zl_E := zl_add (zl_con e.1) (zl_sb t e.2)
theorem zl_sb_ev (s u : Nat → Int) : ∀ (t : List zl_E) (a : List Int) (k : Nat), a.length ≤ t.length → (∀ (j : Nat) (q : zl_E), t[j]? = some q → u (k + j) = zl_ev s q) → zl_ev s (zl_sb t a) = zl_dt u k a
  | t, [], k, _, _ => by
    have : zl_sb t [] = zl_con 0 := by cases t <;> rfl
    rw [this, zl_con_ev]
    rfl
  | [], c :: r, k, h, _ => absurd h (by simp)
  | q :: t, c :: r, k, h, hu => by
    have hr := zl_sb_ev s u t r (k + 1) (by simpa using h) (fun j q' hq => by
      have := hu (j + 1) q' hq
      rw [show k + 1 + j = k + (j + 1) by omega]
      exact this)
    show zl_ev s (cond (zl_z c) (zl_sb t r) (zl_add (zl_mul c q) (zl_sb t r))) = c * u k + zl_dt u (k + 1) r
    cases hz : zl_z c with
    | true =>
      show zl_ev s (zl_sb t r) = _
      rw [hr, zl_z_ok hz]
      omega
    | false =>
      show zl_ev s (zl_add (zl_mul c q) (zl_sb t r)) = c * u k + zl_dt u (k + 1) r
      rw [zl_add_ev, zl_mul_ev, hr]
      have h0 := hu 0 q rfl
      rw [Nat.add_zero] at h0
      rw [h0]
theorem zl_subst_ev {s u : Nat → Int} {t : List zl_E} {e : zl_E} (h : e.2.length ≤ t.length) (hu : ∀ (j : Nat) (q : zl_E), t[j]? = some q → u j = zl_ev s q) : zl_ev s (zl_subst t e) = zl_ev u e := by
  unfold zl_subst
  rw [zl_add_ev, zl_con_ev, zl_sb_ev s u t e.2 0 h (fun j q hq => by rw [Nat.zero_add]; exact hu j q hq)]
  rfl
