/-! WHAT STANDS THERE AT THE START: texts, constant rows, classes of arrays, out of the words of the premise and of the tables -/
def zz_sl (l : List Cond) (p n : Nat) : List Cond := (l.drop p).take n
theorem zz_sl_in {l : List Cond} {p n : Nat} {w : Cond} (h : w ∈ zz_sl l p n) : w ∈ l := List.mem_of_mem_drop (List.mem_of_mem_take h)
/-- the words of a text -/
def zz_wt (tm : Term) (q : Nat × Nat) : List Cond := Cond.exactly tm "java/lang/String" :: Cond.eq (.field tm "java/lang/String" "coder" "B") (.int 0) :: Cond.arrayOf (.field tm "java/lang/String" "value" "[B") .byte :: Cond.eq (.length (.field tm "java/lang/String" "value" "[B")) (.int (Int32.ofNat q.1)) :: (List.range q.1).map (fun j => Cond.eq (.elem (.field tm "java/lang/String" "value" "[B") (.int (Int32.ofNat j))) (.int (Int32.ofNat (zz_at 8 q.2 j))))
/-- the words of a constant row of ints -/
def zz_wr (tm : Term) (q : Nat × Nat) : List Cond := Cond.arrayOf tm .int :: Cond.eq (.length tm) (.int (Int32.ofNat q.1)) :: (List.range q.1).map (fun j => Cond.eq (.elem tm (.int (Int32.ofNat j))) (.int (Int32.ofNat (zz_at 32 q.2 j))))
/-- of bytes -/
def zz_wrB (tm : Term) (q : Nat × Nat) : List Cond := Cond.arrayOf tm .byte :: Cond.eq (.length tm) (.int (Int32.ofNat q.1)) :: (List.range q.1).map (fun j => Cond.eq (.elem tm (.int (Int32.ofNat j))) (.int (Int32.ofNat (zz_at 32 q.2 j))))
section ZST
variable {args : Array Value} {s : State} {A : Nat → Prop}
theorem zz_tx {tm : Term} {q : Nat × Nat} (hN : q.1 < 2 ^ 31) (h : ∀ w ∈ zz_wt tm q, w.before args s = true) (hA : ∀ a : Nat, a < s.heap.size → ¬ A a) : ∃ a t : Nat, tm.eval args s none [] s = some (.ref a) ∧ va_O "java/lang/String" a A s s.heap ∧ va_OF "java/lang/String" "coder" "B" (.int 0) a A s s.heap ∧ va_OF "java/lang/String" "value" "[B" (.ref t) a A s s.heap ∧ va_T .byte t q.1 (fun j => .int (Int32.ofNat (zz_at 8 q.2 j))) A s s.heap := by
  unfold zz_wt at h
  rw [List.forall_mem_cons, List.forall_mem_cons, List.forall_mem_cons, List.forall_mem_cons] at h
  obtain ⟨h1, h2, h3, h4, h5⟩ := h
  obtain ⟨a, c, cA, kA, q1, q2, q3, q4, q5, q6, -⟩ := Cond.exactly_spec (args := args) (first := s) (o := none) (s := s) (idx := []) (t := tm) (cls := "java/lang/String") h1
  obtain ⟨t, ht, hT⟩ := va_Tof (f := fun j => .int (Int32.ofNat (zz_at 8 q.2 j))) (A := A) hN h3 (va_eqt h4) (fun j hj => va_eqt (h5 _ (List.mem_map.mpr ⟨j, List.mem_range.mpr hj, rfl⟩))) hA
  exact ⟨a, t, q1, ⟨cA, q3, q5, by rw [q6]; exact q2, hA a (Array.getElem?_eq_some_iff.mp q3).1⟩, vk_OFof q1 (va_eqt h2) hA, vk_OFof q1 ht hA, hT⟩
theorem zz_rx {tm : Term} {q : Nat × Nat} (hN : q.1 < 2 ^ 31) (h : ∀ w ∈ zz_wr tm q, w.before args s = true) (hA : ∀ a : Nat, a < s.heap.size → ¬ A a) : ∃ t : Nat, tm.eval args s none [] s = some (.ref t) ∧ va_T .int t q.1 (fun j => .int (Int32.ofNat (zz_at 32 q.2 j))) A s s.heap := by
  unfold zz_wr at h
  rw [List.forall_mem_cons, List.forall_mem_cons] at h
  obtain ⟨h3, h4, h5⟩ := h
  exact va_Tof (f := fun j => .int (Int32.ofNat (zz_at 32 q.2 j))) (A := A) hN h3 (va_eqt h4) (fun j hj => va_eqt (h5 _ (List.mem_map.mpr ⟨j, List.mem_range.mpr hj, rfl⟩))) hA
theorem zz_rxB {tm : Term} {q : Nat × Nat} (hN : q.1 < 2 ^ 31) (h : ∀ w ∈ zz_wrB tm q, w.before args s = true) (hA : ∀ a : Nat, a < s.heap.size → ¬ A a) : ∃ t : Nat, tm.eval args s none [] s = some (.ref t) ∧ va_T .byte t q.1 (fun j => .int (Int32.ofNat (zz_at 32 q.2 j))) A s s.heap := by
  unfold zz_wrB at h
  rw [List.forall_mem_cons, List.forall_mem_cons] at h
  obtain ⟨h3, h4, h5⟩ := h
  exact va_Tof (f := fun j => .int (Int32.ofNat (zz_at 32 q.2 j))) (A := A) hN h3 (va_eqt h4) (fun j hj => va_eqt (h5 _ (List.mem_map.mpr ⟨j, List.mem_range.mpr hj, rfl⟩))) hA
/-- a static that is null or a thing -/
theorem zz_ox {C n d : String} (h : (Cond.isRef (.static C n d)).before args s = true) : ∃ k : Nat, (Term.static C n d).eval args s none [] s = some (if k = 0 then .null else .ref (k - 1)) := by
  cases hv : (Term.static C n d).eval args s none [] s with
  | none => simp [Cond.before, Cond.holds, Cond.value, hv] at h
  | some w =>
    simp only [Cond.before, Cond.holds, Cond.value, hv] at h
    cases w with
    | null => exact ⟨0, rfl⟩
    | ref t => exact ⟨t + 1, rfl⟩
    | _ => simp at h
theorem zz_arI (h : (Cond.arrayClass .int).before args s = true) : ∃ cA : ClassId, ArrOfT s cA .int ∧ va_RA s cA .int := by
  obtain ⟨c, k, comp, h1, h2, h3⟩ := Cond.arrayClass_spec h
  exact ⟨c, fun n z => ⟨fun k h => (by cases h), k, h2, comp, h3⟩, h1⟩
theorem zz_arB (h : (Cond.arrayClass .byte).before args s = true) : ∃ cA : ClassId, ArrOfT s cA .byte ∧ va_RA s cA .byte := by
  obtain ⟨c, k, comp, h1, h2, h3⟩ := Cond.arrayClass_spec h
  exact ⟨c, fun n z => ⟨fun k h => (by cases h), k, h2, comp, h3⟩, h1⟩
theorem zz_arZ (h : (Cond.arrayClass .boolean).before args s = true) : ∃ cA : ClassId, ArrOfT s cA .boolean ∧ va_RA s cA .boolean := by
  obtain ⟨c, k, comp, h1, h2, h3⟩ := Cond.arrayClass_spec h
  exact ⟨c, fun n z => ⟨fun k h => (by cases h), k, h2, comp, h3⟩, h1⟩
theorem zz_arL (h : (Cond.arrayClass .long).before args s = true) : ∃ cA : ClassId, ArrOfT s cA .long ∧ va_RA s cA .long := by
  obtain ⟨c, k, comp, h1, h2, h3⟩ := Cond.arrayClass_spec h
  exact ⟨c, fun n z => ⟨fun k h => (by cases h), k, h2, comp, h3⟩, h1⟩
theorem zz_arO {C : String} (h : (Cond.arrayOver (.object C)).before args s = true) : ∃ cA : ClassId, ArrOfT s cA (.object C) ∧ va_RA s cA (.object C) := by
  obtain ⟨comp, c, k, h1, -, h3, h4, h5⟩ := Cond.arrayOver_spec h
  exact ⟨c, fun n z => ⟨fun k h => (by cases h), k, h3, comp, h4⟩, k, comp, h3, h4, h1, h5⟩
end ZST
