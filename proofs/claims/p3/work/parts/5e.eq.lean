/-! WORLDS WRITTEN DOWN: rows by their places that are not 0; two worlds alike -/
/-- the row with the numbers q.2 at the places q.1, w bits each, 0 elsewhere -/
def zz_sp (w : Nat) (l : List (Nat × Nat)) : Nat := match l with
  | [] => 0
  | q :: r => (q.2 <<< (w * q.1)) + zz_sp w r
def zz_ch0 : List zz_C := [zz_c0, zz_c0, zz_c0, zz_c0, zz_c0, zz_c0, zz_c0, zz_c0, zz_c0, zz_c0, zz_c0, zz_c0, zz_c0, zz_c0, zz_c0, zz_c0]
def zz_eqC (a b : zz_C) : Bool := Nat.beq a.1 b.1 && (Nat.beq a.2.1 b.2.1 && (Nat.beq a.2.2.1 b.2.2.1 && Nat.beq a.2.2.2 b.2.2.2))
def zz_eqR : List zz_C → List zz_C → Bool
  | [], [] => true
  | a :: r, b :: t => zz_eqC a b && zz_eqR r t
  | _, _ => false
def zz_eqL : List (List zz_C) → List (List zz_C) → Bool
  | [], [] => true
  | a :: r, b :: t => zz_eqR a b && zz_eqL r t
  | _, _ => false
def zz_eqW (a b : zz_W) : Bool := Nat.beq a.1 b.1 && (Nat.beq a.2.1 b.2.1 && zz_eqL a.2.2 b.2.2)
theorem zz_eqC_ok {a b : zz_C} (h : zz_eqC a b = true) : a = b := by
  unfold zz_eqC at h
  obtain ⟨h1, h⟩ := zz_and h
  obtain ⟨h2, h⟩ := zz_and h
  obtain ⟨h3, h4⟩ := zz_and h
  obtain ⟨a1, a2, a3, a4⟩ := a
  obtain ⟨b1, b2, b3, b4⟩ := b
  have e1 : a1 = b1 := Nat.eq_of_beq_eq_true h1
  have e2 : a2 = b2 := Nat.eq_of_beq_eq_true h2
  have e3 : a3 = b3 := Nat.eq_of_beq_eq_true h3
  have e4 : a4 = b4 := Nat.eq_of_beq_eq_true h4
  rw [e1, e2, e3, e4]
theorem zz_eqR_ok : ∀ {a b : List zz_C}, zz_eqR a b = true → a = b
  | [], [], _ => rfl
  | [], _ :: _, h => by cases h
  | _ :: _, [], h => by cases h
  | a :: r, b :: t, h => by
    obtain ⟨h1, h2⟩ := zz_and (show (zz_eqC a b && zz_eqR r t) = true from h)
    rw [zz_eqC_ok h1, zz_eqR_ok h2]
theorem zz_eqL_ok : ∀ {a b : List (List zz_C)}, zz_eqL a b = true → a = b
  | [], [], _ => rfl
  | [], _ :: _, h => by cases h
  | _ :: _, [], h => by cases h
  | a :: r, b :: t, h => by
    obtain ⟨h1, h2⟩ := zz_and (show (zz_eqR a b && zz_eqL r t) = true from h)
    rw [zz_eqR_ok h1, zz_eqL_ok h2]
theorem zz_eqW_ok {a b : zz_W} (h : zz_eqW a b = true) : a = b := by
  unfold zz_eqW at h
  obtain ⟨h1, h⟩ := zz_and h
  obtain ⟨h2, h3⟩ := zz_and h
  obtain ⟨a1, a2, a3⟩ := a
  obtain ⟨b1, b2, b3⟩ := b
  have e1 : a1 = b1 := Nat.eq_of_beq_eq_true h1
  have e2 : a2 = b2 := Nat.eq_of_beq_eq_true h2
  have e3 : a3 = b3 := zz_eqL_ok h3
  rw [e1, e2, e3]
/-- a run that gives nothing and the world w -/
def zz_end0 (o : Option (List Value × zz_W)) (w : zz_W) : Bool := match o with
  | some q => match q.1 with
    | [] => zz_eqW q.2 w
    | _ => false
  | none => false
theorem zz_end0_ok {o : Option (List Value × zz_W)} {w : zz_W} (h : zz_end0 o w = true) : o = some ([], w) := by
  unfold zz_end0 at h
  split at h
  · rename_i q
    obtain ⟨q1, q2⟩ := q
    split at h
    · rename_i e
      have e : q1 = [] := e
      have h : q2 = w := zz_eqW_ok h
      rw [e, h]
    · cases h
  · cases h
