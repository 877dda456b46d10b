/-! RUNS WHOSE LONG CALLS ARE KNOWN: what a call gives, looked up -/
def zz_eqV (a b : Value) : Bool := match a, b with
  | .ref x, .ref y => Nat.beq x y
  | .int x, .int y => Nat.beq (zz_nI x) (zz_nI y)
  | .null, .null => true
  | _, _ => false
theorem zz_eqV_ok {a b : Value} (h : zz_eqV a b = true) : a = b := by
  unfold zz_eqV at h
  split at h
  · rw [Nat.eq_of_beq_eq_true h]
  · rename_i x y
    have e := Nat.eq_of_beq_eq_true h
    rw [← zz_nI_of x, ← zz_nI_of y, e]
  · rfl
  · cases h
def zz_eqA : List Value → List Value → Bool
  | [], [] => true
  | a :: r, b :: t => zz_eqV a b && zz_eqA r t
  | _, _ => false
theorem zz_eqA_ok : ∀ {a b : List Value}, zz_eqA a b = true → a = b
  | [], [], _ => rfl
  | [], _ :: _, h => by cases h
  | _ :: _, [], h => by cases h
  | a :: r, b :: t, h => by
    obtain ⟨h1, h2⟩ := zz_and (show (zz_eqV a b && zz_eqA r t) = true from h)
    rw [zz_eqV_ok h1, zz_eqA_ok h2]
/-- a run that gives rv and the world w -/
def zz_endv (o : Option (List Value × zz_W)) (rv : List Value) (w : zz_W) : Bool := match o with
  | some q => zz_eqA q.1 rv && zz_eqW q.2 w
  | none => false
theorem zz_endv_ok {o : Option (List Value × zz_W)} {rv : List Value} {w : zz_W} (h : zz_endv o rv w = true) : o = some (rv, w) := by
  unfold zz_endv at h
  split at h
  · rename_i q
    obtain ⟨q1, q2⟩ := q
    obtain ⟨h1, h2⟩ := zz_and h
    have e1 : q1 = rv := zz_eqA_ok h1
    have e2 : q2 = w := zz_eqW_ok h2
    rw [e1, e2]
  · cases h
/-- calls that are known: method, arguments, world; what it gives, the world behind it -/
abbrev zz_Me : Type := Nat × List Value × zz_W × List Value × zz_W
def zz_memo (M : List zz_Me) (K : zz_K) : zz_K := fun y as w => M.foldr (fun e o => cond (Nat.beq y e.1 && (zz_eqA as e.2.1 && zz_eqW w e.2.2.1)) (some (e.2.2.2.1, e.2.2.2.2)) o) (K y as w)
theorem zz_memo_eq {K : zz_K} : ∀ {M : List zz_Me}, (∀ e ∈ M, K e.1 e.2.1 e.2.2.1 = some (e.2.2.2.1, e.2.2.2.2)) → zz_memo M K = K
  | [], _ => rfl
  | e :: r, h => by
    have ih := zz_memo_eq (M := r) (fun x hx => h x (List.mem_cons_of_mem _ hx))
    funext y as w
    have h1 : zz_memo (e :: r) K y as w = cond (Nat.beq y e.1 && (zz_eqA as e.2.1 && zz_eqW w e.2.2.1)) (some (e.2.2.2.1, e.2.2.2.2)) (zz_memo r K y as w) := rfl
    rw [h1, ih]
    cases hc : (Nat.beq y e.1 && (zz_eqA as e.2.1 && zz_eqW w e.2.2.1)) with
    | false => rfl
    | true =>
      obtain ⟨a1, hc⟩ := zz_and hc
      obtain ⟨a2, a3⟩ := zz_and hc
      rw [Nat.eq_of_beq_eq_true a1, zz_eqA_ok a2, zz_eqW_ok a3, h e List.mem_cons_self]
      rfl
theorem zz_cl_memo {P : Nat → zz_T} {ml : Nat → Nat} {d y : Nat} {as rv : List Value} {w w' : zz_W} {M : List zz_Me} (h : ∀ e ∈ M, zz_cl P ml d e.1 e.2.1 e.2.2.1 = some (e.2.2.2.1, e.2.2.2.2)) (hr : zz_endv (zz_rn (P y) (ml y) (zz_memo M (zz_cl P ml d)) as w) rv w' = true) : zz_cl P ml (d + 1) y as w = some (rv, w') := by
  rw [zz_memo_eq h] at hr
  exact zz_endv_ok hr
