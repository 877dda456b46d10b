/-! ABSTRACT FRAMES, on: constants, locals, copies, branches, switches -/
noncomputable section
/-- an instruction takes a frame of A to one of the frames R -/
def zk_R (I : zz_W → Prop) (act : zz_A) (A : zk_A) (R : List (Nat × zk_A)) : Prop :=
  ∀ (K : zz_K) (s : Nat → Int) (f : zz_F), zk_G I s A f → ∃ (s' : Nat → Int) (f' : zz_F) (q : Nat × zk_A), act K f = some f' ∧ q ∈ R ∧ f'.1 = q.1 ∧ zk_G I s' q.2 f' ∧ A.2.2.2.1.length ≤ q.2.2.2.2.1.length ∧ ∀ j, j < A.2.2.2.1.length → s' j = s j
theorem zk_S_R {I : zz_W → Prop} {act : zz_A} {n : Nat} {A A' : zk_A} (h : zk_S I act n A A') : zk_R I act A [(n, A')] := by
  intro K s f hG
  obtain ⟨s', f', e1, e2, e3, e4⟩ := h.2 K s f hG
  exact ⟨s', f', (n, A'), e1, List.mem_cons_self, e2, e3, h.1, e4⟩
/-- nothing but operands changes -/
theorem zk_S_st {I : zz_W → Prop} {act : zz_A} {n : Nat} {L : List (Nat × zk_V)} {T T' : List zk_V} {F : List ((Nat × Nat) × zk_V)} {B : List (Int × Int)} {C : List zl_E} (h : ∀ (K : zz_K) (s : Nat → Int) (p : Nat) (lv : List (Nat × Value)) (st : List Value) (w : zz_W), zk_lc s L lv → zk_st s T st → ∃ st', act K (p, lv, st, w) = some (n, lv, st', w) ∧ zk_st s T' st') : zk_S I act n (L, T, F, B, C) (L, T', F, B, C) := by
  refine ⟨Nat.le_refl _, fun K s f hG => ?_⟩
  obtain ⟨p, lv, st, w⟩ := f
  obtain ⟨g1, g2, g3, g4, g5, g6⟩ := hG
  obtain ⟨st', e1, e2⟩ := h K s p lv st w g1 g2
  exact ⟨s, _, e1, rfl, ⟨g1, e2, g3, g4, g5, g6⟩, fun _ _ => rfl⟩
def zk_push (A : zk_A) (a : zk_V) : zk_A := (A.1, a :: A.2.1, A.2.2.1, A.2.2.2.1, A.2.2.2.2)
theorem zt_cI_ok {I : zz_W → Prop} {A : zk_A} {n : Nat} {v : Int32} : zk_S I (za_const (.int v) n) n A (zk_push A (0, 0, zl_con v.toInt)) :=
  zk_S_st (fun K s p lv st w _ h => ⟨.int v :: st, rfl, zk_v_int (zl_con_ev s _).symm, h⟩)
theorem zt_cL_ok {I : zz_W → Prop} {A : zk_A} {n : Nat} {v : Int64} : zk_S I (za_const (.long v) n) n A (zk_push A (1, 1, zl_con v.toInt)) :=
  zk_S_st (fun K s p lv st w _ h => ⟨.long v :: st, rfl, zk_v_lv (zl_con_ev s _).symm, h⟩)
theorem zt_cR_ok {I : zz_W → Prop} {A : zk_A} {n k : Nat} : zk_S I (za_const (.ref k) n) n A (zk_push A (2, k, zl_con 0)) :=
  zk_S_st (fun K s p lv st w _ h => ⟨.ref k :: st, rfl, zk_v_ref, h⟩)
theorem zt_cN_ok {I : zz_W → Prop} {A : zk_A} {n : Nat} : zk_S I (za_const .null n) n A (zk_push A (3, 0, zl_con 0)) :=
  zk_S_st (fun K s p lv st w _ h => ⟨.null :: st, rfl, zk_v_null, h⟩)
/-- the local at i -/
def zk_lk (L : List (Nat × zk_V)) (i : Nat) : Option zk_V := match L with
  | [] => none
  | q :: r => cond (Nat.beq q.1 i) (some q.2) (zk_lk r i)
theorem zk_lk_mem {i : Nat} {a : zk_V} : ∀ {L : List (Nat × zk_V)}, zk_lk L i = some a → (i, a) ∈ L
  | [], h => by cases h
  | q :: r, h => by
    unfold zk_lk at h
    cases hb : Nat.beq q.1 i with
    | true =>
      rw [hb] at h
      cases h
      rw [← zz_beq hb]
      exact List.mem_cons_self
    | false =>
      rw [hb] at h
      exact List.mem_cons_of_mem _ (zk_lk_mem h)
def zt_iload (i : Nat) (A : zk_A) : Option zk_A := match zk_lk A.1 i with
  | some (0, k, e) => some (zk_push A (0, k, e))
  | _ => none
theorem zt_iload_ok {I : zz_W → Prop} {A A' : zk_A} {i n : Nat} (h : zt_iload i A = some A') : zk_S I (za_iload i n) n A A' := by
  unfold zt_iload at h
  split at h
  · rename_i k e hk
    cases h
    refine zk_S_st (fun K s p lv st w hL hT => ?_)
    obtain ⟨v, e1, e2⟩ := hL _ (zk_lk_mem hk)
    obtain ⟨x, e3, e4⟩ := e2.1 rfl
    subst e3
    refine ⟨.int x :: st, ?_, e2, hT⟩
    have e1 : zz_lg lv i = some (.int x) := e1
    show (match zz_lg lv i with | some (.int v) => some ((n, lv, .int v :: st, w) : zz_F) | _ => none) = _
    rw [e1]
  · cases h
def zt_lload (i : Nat) (A : zk_A) : Option zk_A := match zk_lk A.1 i with
  | some (1, k, e) => some (zk_push A (1, k, e))
  | _ => none
theorem zt_lload_ok {I : zz_W → Prop} {A A' : zk_A} {i n : Nat} (h : zt_lload i A = some A') : zk_S I (za_lload i n) n A A' := by
  unfold zt_lload at h
  split at h
  · rename_i k e hk
    cases h
    refine zk_S_st (fun K s p lv st w hL hT => ?_)
    obtain ⟨v, e1, e2⟩ := hL _ (zk_lk_mem hk)
    obtain ⟨x, e3, -⟩ := e2.2.1 rfl
    subst e3
    refine ⟨.long x :: st, ?_, e2, hT⟩
    have e1 : zz_lg lv i = some (.long x) := e1
    show (match zz_lg lv i with | some (.long v) => some ((n, lv, .long v :: st, w) : zz_F) | _ => none) = _
    rw [e1]
  · cases h
def zt_aload (i : Nat) (A : zk_A) : Option zk_A := match zk_lk A.1 i with
  | some (2, k, e) => some (zk_push A (2, k, e))
  | some (3, k, e) => some (zk_push A (3, k, e))
  | _ => none
theorem zt_aload_ok {I : zz_W → Prop} {A A' : zk_A} {i n : Nat} (h : zt_aload i A = some A') : zk_S I (za_aload i n) n A A' := by
  unfold zt_aload at h
  split at h
  · rename_i k e hk
    cases h
    refine zk_S_st (fun K s p lv st w hL hT => ?_)
    obtain ⟨v, e1, e2⟩ := hL _ (zk_lk_mem hk)
    have e3 : v = .ref k := e2.2.2.1 rfl
    subst e3
    refine ⟨.ref k :: st, ?_, e2, hT⟩
    have e1 : zz_lg lv i = some (.ref k) := e1
    show (match zz_lg lv i with | some (.ref v) => some ((n, lv, .ref v :: st, w) : zz_F) | some .null => some (n, lv, .null :: st, w) | _ => none) = _
    rw [e1]
  · rename_i k e hk
    cases h
    refine zk_S_st (fun K s p lv st w hL hT => ?_)
    obtain ⟨v, e1, e2⟩ := hL _ (zk_lk_mem hk)
    have e3 : v = .null := e2.2.2.2 rfl
    subst e3
    refine ⟨.null :: st, ?_, e2, hT⟩
    have e1 : zz_lg lv i = some .null := e1
    show (match zz_lg lv i with | some (.ref v) => some ((n, lv, .ref v :: st, w) : zz_F) | some .null => some (n, lv, .null :: st, w) | _ => none) = _
    rw [e1]
  · cases h
/-- whether a value is one that a long's second place isn't -/
def zk_c1 (t : Nat) : Bool := Nat.beq t 0 || (Nat.beq t 2 || Nat.beq t 3)
theorem zk_c1_ok {s : Nat → Int} {a : zk_V} {v : Value} (h : zk_c1 a.1 = true) (hv : zk_v s a v) : v.category = 1 := by
  unfold zk_c1 at h
  rcases Bool.or_eq_true_iff.mp h with h | h
  · obtain ⟨x, e, -⟩ := hv.1 (zz_beq h)
    rw [e]; rfl
  · rcases Bool.or_eq_true_iff.mp h with h | h
    · rw [hv.2.2.1 (zz_beq h)]; rfl
    · rw [hv.2.2.2 (zz_beq h)]; rfl
/-- the locals that a store to i leaves -/
def zk_kp (two : Bool) (i : Nat) (q : Nat × zk_V) : Bool := !(Nat.beq q.1 i) && (!(two && Nat.beq q.1 (i + 1)) && (!(Nat.beq (q.1 + 1) i) || zk_c1 q.2.1))
theorem zk_lg_kp {two : Bool} {i k : Nat} {v : Value} (h2 : zz_lk two i (k, v) = true) : ∀ {l : List (Nat × Value)}, zz_lg l k = some v → zz_lg (l.filter (zz_lk two i)) k = some v
  | [], h => by cases h
  | q :: r, h => by
    unfold zz_lg at h
    split at h
    · rename_i hq
      cases h
      have hk : q.1 = k := by simpa using hq
      have hq2 : q = (k, q.2) := by rw [← hk]
      rw [List.filter_cons_of_pos (by rw [hq2]; exact h2)]
      unfold zz_lg
      rw [if_pos hq]
    · rename_i hq
      have ih := zk_lg_kp h2 h
      by_cases hp : zz_lk two i q = true
      · rw [List.filter_cons_of_pos hp]
        unfold zz_lg
        rw [if_neg hq]
        exact ih
      · rw [List.filter_cons_of_neg hp]
        exact ih
theorem zk_nbeq {a b : Nat} (h : (!(Nat.beq a b)) = true) : a ≠ b := by
  intro e
  subst e
  rw [Nat.beq_refl] at h
  cases h
theorem zk_lc_kp {s : Nat → Int} {two : Bool} {i : Nat} {L : List (Nat × zk_V)} {lv : List (Nat × Value)} {a : zk_V} {v : Value} (h : zk_lc s L lv) (ha : zk_v s a v) : zk_lc s ((i, a) :: L.filter (zk_kp two i)) ((i, v) :: lv.filter (zz_lk two i)) := by
  intro q hq
  rcases List.mem_cons.mp hq with e | hq
  · subst e
    exact ⟨v, by unfold zz_lg; rw [if_pos (by simp)], ha⟩
  · obtain ⟨hq1, hq2⟩ := List.mem_filter.mp hq
    obtain ⟨u, e1, e2⟩ := h q hq1
    unfold zk_kp at hq2
    obtain ⟨c1, hq2⟩ := zz_and hq2
    obtain ⟨c2, c3⟩ := zz_and hq2
    have n1 := zk_nbeq c1
    refine ⟨u, ?_, e2⟩
    unfold zz_lg
    rw [if_neg (by simpa using fun e => n1 e.symm)]
    refine zk_lg_kp ?_ e1
    unfold zz_lk
    have b1 : (q.1 == i) = false := by simpa using n1
    have b2 : (two && (q.1 == i + 1)) = false := by
      cases two with
      | false => rfl
      | true =>
        have : (!(Nat.beq q.1 (i + 1))) = true := c2
        have := zk_nbeq this
        simpa using this
    have b3 : (q.1 + 1 == i && u.category == 2) = false := by
      rcases Bool.or_eq_true_iff.mp c3 with c3 | c3
      · have := zk_nbeq c3
        have : (q.1 + 1 == i) = false := by simpa using this
        rw [this]
        rfl
      · have := zk_c1_ok c3 e2
        rw [this]
        simp
    show (!(q.1 == i) && (!(two && (q.1 == i + 1)) && !(q.1 + 1 == i && u.category == 2))) = true
    rw [b1, b2, b3]
    rfl
def zk_store (two : Bool) (i : Nat) (A : zk_A) : Option zk_A := match A.2.1 with
  | a :: T => some ((i, a) :: A.1.filter (zk_kp two i), T, A.2.2.1, A.2.2.2.1, A.2.2.2.2)
  | _ => none
def zt_istore (i : Nat) (A : zk_A) : Option zk_A := match A.2.1 with
  | (0, _, _) :: _ => zk_store false i A
  | _ => none
theorem zt_istore_ok {I : zz_W → Prop} {A A' : zk_A} {i n : Nat} (h : zt_istore i A = some A') : zk_S I (za_istore i n) n A A' := by
  obtain ⟨L, T, F, B, C⟩ := A
  unfold zt_istore at h
  split at h
  · rename_i k e r hT
    have hT : T = (0, k, e) :: r := hT
    subst hT
    cases h
    refine ⟨Nat.le_refl _, fun K s f hG => ?_⟩
    obtain ⟨p, lv, st, w⟩ := f
    obtain ⟨g1, g2, g3, g4, g5, g6⟩ := hG
    obtain ⟨x, st2, q4, q5, q6⟩ := zk_st_int g2 rfl
    have q4 : st = .int x :: st2 := q4
    subst q4
    exact ⟨s, (n, (i, .int x) :: lv.filter (zz_lk false i), st2, w), zz_lf_eq false i lv _, rfl, ⟨zk_lc_kp g1 (zk_v_int q5), q6, g3, g4, g5, g6⟩, fun _ _ => rfl⟩
  · cases h
def zt_lstore (i : Nat) (A : zk_A) : Option zk_A := match A.2.1 with
  | (1, _, _) :: _ => zk_store true i A
  | _ => none
theorem zt_lstore_ok {I : zz_W → Prop} {A A' : zk_A} {i n : Nat} (h : zt_lstore i A = some A') : zk_S I (za_lstore i n) n A A' := by
  obtain ⟨L, T, F, B, C⟩ := A
  unfold zt_lstore at h
  split at h
  · rename_i k e r hT
    have hT : T = (1, k, e) :: r := hT
    subst hT
    cases h
    refine ⟨Nat.le_refl _, fun K s f hG => ?_⟩
    obtain ⟨p, lv, st, w⟩ := f
    obtain ⟨g1, g2, g3, g4, g5, g6⟩ := hG
    obtain ⟨v, st2, q4, q5, q6⟩ := zk_st_cons g2
    obtain ⟨x, e3, -⟩ := q5.2.1 rfl
    subst e3
    have q4 : st = .long x :: st2 := q4
    subst q4
    exact ⟨s, (n, (i, .long x) :: lv.filter (zz_lk true i), st2, w), zz_lf_eq true i lv _, rfl, ⟨zk_lc_kp g1 q5, q6, g3, g4, g5, g6⟩, fun _ _ => rfl⟩
  · cases h
def zt_astore (i : Nat) (A : zk_A) : Option zk_A := match A.2.1 with
  | (2, _, _) :: _ => zk_store false i A
  | (3, _, _) :: _ => zk_store false i A
  | _ => none
theorem zt_astore_ok {I : zz_W → Prop} {A A' : zk_A} {i n : Nat} (h : zt_astore i A = some A') : zk_S I (za_astore i n) n A A' := by
  obtain ⟨L, T, F, B, C⟩ := A
  unfold zt_astore at h
  split at h
  · rename_i k e r hT
    have hT : T = (2, k, e) :: r := hT
    subst hT
    cases h
    refine ⟨Nat.le_refl _, fun K s f hG => ?_⟩
    obtain ⟨p, lv, st, w⟩ := f
    obtain ⟨g1, g2, g3, g4, g5, g6⟩ := hG
    obtain ⟨v, st2, q4, q5, q6⟩ := zk_st_cons g2
    have e3 : v = .ref k := q5.2.2.1 rfl
    subst e3
    have q4 : st = .ref k :: st2 := q4
    subst q4
    exact ⟨s, (n, (i, .ref k) :: lv.filter (zz_lk false i), st2, w), zz_lf_eq false i lv _, rfl, ⟨zk_lc_kp g1 q5, q6, g3, g4, g5, g6⟩, fun _ _ => rfl⟩
  · rename_i k e r hT
    have hT : T = (3, k, e) :: r := hT
    subst hT
    cases h
    refine ⟨Nat.le_refl _, fun K s f hG => ?_⟩
    obtain ⟨p, lv, st, w⟩ := f
    obtain ⟨g1, g2, g3, g4, g5, g6⟩ := hG
    obtain ⟨v, st2, q4, q5, q6⟩ := zk_st_cons g2
    have e3 : v = .null := q5.2.2.2 rfl
    subst e3
    have q4 : st = .null :: st2 := q4
    subst q4
    exact ⟨s, (n, (i, .null) :: lv.filter (zz_lk false i), st2, w), zz_lf_eq false i lv _, rfl, ⟨zk_lc_kp g1 q5, q6, g3, g4, g5, g6⟩, fun _ _ => rfl⟩
  · cases h
def zt_iinc (i : Nat) (c : Int) (A : zk_A) : Option zk_A := match zk_lk A.1 i with
  | some (0, _, e) => match zk_lin A A.2.1 (zl_add e (zl_con c)) with
    | some A1 => zk_store false i A1
    | none => none
  | _ => none
theorem zt_iinc_ok {I : zz_W → Prop} {A A' : zk_A} {i n : Nat} {v : Int32} (h : zt_iinc i v.toInt A = some A') : zk_S I (za_iinc i v n) n A A' := by
  unfold zt_iinc at h
  split at h
  · rename_i k e hk
    split at h
    · rename_i A1 hA
      refine ⟨?_, fun K s f hG => ?_⟩
      · have h1 := zk_lin_len hA
        unfold zk_store at h
        split at h
        · cases h
          exact h1
        · cases h
      · obtain ⟨p, lv, st, w⟩ := f
        obtain ⟨g1, g2, g3, g4, g5, g6⟩ := hG
        obtain ⟨u, e1, e2⟩ := g1 _ (zk_lk_mem hk)
        obtain ⟨x, e3, e4⟩ := e2.1 rfl
        subst e3
        obtain ⟨-, s', hg, hs⟩ := zk_lin_ok (I := I) (x := x + v) (n := n) (w := w) (lv := lv) hA g1 g2 g3 g4 g5 g6 (fun a b => by
          rw [zl_add_ev, zl_con_ev] at a b ⊢
          rw [Int32.toInt_add, e4, zk_bmod a b])
        unfold zk_store at h
        split at h
        · rename_i a T hT
          cases h
          obtain ⟨j1, j2, j3, j4, j5, j6⟩ := hg
          rw [hT] at j2
          have e1 : zz_lg lv i = some (.int x) := e1
          refine ⟨s', (n, (i, .int (x + v)) :: lv.filter (zz_lk false i), st, w), ?_, rfl, ⟨zk_lc_kp j1 j2.1, j2.2, j3, j4, j5, j6⟩, hs⟩
          show (match zz_lg lv i with | some (.int x) => zz_fI (x + v) (fun z => zz_lf false i lv (fun l => some ((n, (i, .int z) :: l, st, w) : zz_F))) | _ => none) = _
          rw [e1]
          show zz_fI (x + v) (fun z => zz_lf false i lv (fun l => some ((n, (i, .int z) :: l, st, w) : zz_F))) = _
          rw [zz_fI_eq, zz_lf_eq]
        · cases h
    · cases h
  · cases h
def zt_dup (A : zk_A) : Option zk_A := match A.2.1 with
  | a :: T => cond (zk_c1 a.1) (some (A.1, a :: a :: T, A.2.2.1, A.2.2.2.1, A.2.2.2.2)) none
  | _ => none
theorem zt_dup_ok {I : zz_W → Prop} {A A' : zk_A} {n : Nat} (h : zt_dup A = some A') : zk_S I (za_dup n) n A A' := by
  obtain ⟨L, T, F, B, C⟩ := A
  unfold zt_dup at h
  split at h
  · rename_i a r hT
    have hT : T = a :: r := hT
    subst hT
    obtain ⟨hc, h⟩ := zz_cond h
    cases h
    refine zk_S_st (fun K s p lv st w hL hT => ?_)
    obtain ⟨v, st2, q4, q5, q6⟩ := zk_st_cons hT
    subst q4
    exact ⟨v :: v :: st2, if_pos (zk_c1_ok hc q5), q5, q5, q6⟩
  · cases h
def zt_dup_x1 (A : zk_A) : Option zk_A := match A.2.1 with
  | a :: b :: T => cond (zk_c1 a.1 && zk_c1 b.1) (some (A.1, a :: b :: a :: T, A.2.2.1, A.2.2.2.1, A.2.2.2.2)) none
  | _ => none
theorem zt_dup_x1_ok {I : zz_W → Prop} {A A' : zk_A} {n : Nat} (h : zt_dup_x1 A = some A') : zk_S I (za_dup_x1 n) n A A' := by
  obtain ⟨L, T, F, B, C⟩ := A
  unfold zt_dup_x1 at h
  split at h
  · rename_i a b r hT
    have hT : T = a :: b :: r := hT
    subst hT
    obtain ⟨hc, h⟩ := zz_cond h
    obtain ⟨c1, c2⟩ := zz_and hc
    cases h
    refine zk_S_st (fun K s p lv st w hL hT => ?_)
    obtain ⟨v, st2, q4, q5, q6⟩ := zk_st_cons hT
    obtain ⟨u, st3, q7, q8, q9⟩ := zk_st_cons q6
    subst q4
    subst q7
    exact ⟨v :: u :: v :: st3, if_pos ⟨zk_c1_ok c1 q5, zk_c1_ok c2 q8⟩, q5, q8, q5, q9⟩
  · cases h
def zt_dup2 (A : zk_A) : Option zk_A := match A.2.1 with
  | a :: b :: T => cond (zk_c1 a.1 && zk_c1 b.1) (some (A.1, a :: b :: a :: b :: T, A.2.2.1, A.2.2.2.1, A.2.2.2.2)) none
  | _ => none
theorem zt_dup2_ok {I : zz_W → Prop} {A A' : zk_A} {n : Nat} (h : zt_dup2 A = some A') : zk_S I (za_dup2_11 n) n A A' := by
  obtain ⟨L, T, F, B, C⟩ := A
  unfold zt_dup2 at h
  split at h
  · rename_i a b r hT
    have hT : T = a :: b :: r := hT
    subst hT
    obtain ⟨hc, h⟩ := zz_cond h
    obtain ⟨c1, c2⟩ := zz_and hc
    cases h
    refine zk_S_st (fun K s p lv st w hL hT => ?_)
    obtain ⟨v, st2, q4, q5, q6⟩ := zk_st_cons hT
    obtain ⟨u, st3, q7, q8, q9⟩ := zk_st_cons q6
    subst q4
    subst q7
    exact ⟨v :: u :: v :: u :: st3, if_pos ⟨zk_c1_ok c1 q5, zk_c1_ok c2 q8⟩, q5, q8, q5, q8, q9⟩
  · cases h
def zt_pop (A : zk_A) : Option zk_A := match A.2.1 with
  | a :: T => cond (zk_c1 a.1) (some (A.1, T, A.2.2.1, A.2.2.2.1, A.2.2.2.2)) none
  | _ => none
theorem zt_pop_ok {I : zz_W → Prop} {A A' : zk_A} {n : Nat} (h : zt_pop A = some A') : zk_S I (za_pop n) n A A' := by
  obtain ⟨L, T, F, B, C⟩ := A
  unfold zt_pop at h
  split at h
  · rename_i a r hT
    have hT : T = a :: r := hT
    subst hT
    obtain ⟨hc, h⟩ := zz_cond h
    cases h
    refine zk_S_st (fun K s p lv st w hL hT => ?_)
    obtain ⟨v, st2, q4, q5, q6⟩ := zk_st_cons hT
    subst q4
    exact ⟨st2, if_pos (zk_c1_ok hc q5), q6⟩
  · cases h
theorem zt_goto_ok {I : zz_W → Prop} {A : zk_A} {n : Nat} : zk_S I (za_goto n) n A A :=
  zk_S_st (fun K s p lv st w _ h => ⟨st, rfl, h⟩)
/-- with sums that are not below 0 besides; none if one of them can't be -/
def zk_and (A : zk_A) (T : List zk_V) (hs : List Nat) (cs : List zl_E) : List zk_A :=
  cond (cs.any (fun c => zl_en A.2.2.2.1 A.2.2.2.2 hs (zl_sub (zl_con (-1)) c))) [] [(A.1, T, A.2.2.1, A.2.2.2.1, cs ++ A.2.2.2.2)]
theorem zk_and_ok {I : zz_W → Prop} {A : zk_A} {T : List zk_V} {hs : List Nat} {cs : List zl_E} {s : Nat → Int} {n : Nat} {lv : List (Nat × Value)} {r : List Value} {w : zz_W} (h1 : zk_lc s A.1 lv) (h2 : zk_st s T r) (h3 : zk_fl s A.2.2.1 w) (h4 : zl_in s A.2.2.2.1) (h5 : zk_cs s A.2.2.2.2) (h6 : I w) (hc : zk_cs s cs) : ∃ A' ∈ zk_and A T hs cs, zk_G I s A' (n, lv, r, w) ∧ A.2.2.2.1.length ≤ A'.2.2.2.1.length := by
  unfold zk_and
  cases hb : cs.any (fun c => zl_en A.2.2.2.1 A.2.2.2.2 hs (zl_sub (zl_con (-1)) c)) with
  | true =>
    obtain ⟨c, c1, c2⟩ := List.any_eq_true.mp hb
    have h7 := zl_en_ok h4 h5 c2
    rw [zl_sub_ev, zl_con_ev] at h7
    have h8 := hc c c1
    omega
  | false =>
    refine ⟨_, List.mem_cons_self, ⟨h1, h2, h3, h4, fun c hc' => ?_, h6⟩, Nat.le_refl _⟩
    rcases List.mem_append.mp hc' with h | h
    · exact hc c h
    · exact h5 c h
/-- of two that are not the same the one that can't be less is more -/
def zk_ne (A : zk_A) (hs : List Nat) (e1 e2 : zl_E) : List zl_E :=
  cond (zl_en A.2.2.2.1 A.2.2.2.2 hs (zl_sub e1 e2)) [zl_sub (zl_sub e1 e2) (zl_con 1)] (cond (zl_en A.2.2.2.1 A.2.2.2.2 hs (zl_sub e2 e1)) [zl_sub (zl_sub e2 e1) (zl_con 1)] [])
theorem zk_ne_ok {A : zk_A} {hs : List Nat} {e1 e2 : zl_E} {s : Nat → Int} (h4 : zl_in s A.2.2.2.1) (h5 : zk_cs s A.2.2.2.2) (h : zl_ev s e1 ≠ zl_ev s e2) : zk_cs s (zk_ne A hs e1 e2) := by
  unfold zk_ne
  intro c hc
  cases hb : zl_en A.2.2.2.1 A.2.2.2.2 hs (zl_sub e1 e2) with
  | true =>
    rw [hb] at hc
    have hc : c ∈ [zl_sub (zl_sub e1 e2) (zl_con 1)] := hc
    rw [List.mem_singleton.mp hc]
    have h7 := zl_en_ok h4 h5 hb
    rw [zl_sub_ev] at h7
    rw [zl_sub_ev, zl_sub_ev, zl_con_ev]
    omega
  | false =>
    rw [hb] at hc
    cases hb2 : zl_en A.2.2.2.1 A.2.2.2.2 hs (zl_sub e2 e1) with
    | true =>
      rw [hb2] at hc
      have hc : c ∈ [zl_sub (zl_sub e2 e1) (zl_con 1)] := hc
      rw [List.mem_singleton.mp hc]
      have h7 := zl_en_ok h4 h5 hb2
      rw [zl_sub_ev] at h7
      rw [zl_sub_ev, zl_sub_ev, zl_con_ev]
      omega
    | false =>
      rw [hb2] at hc
      cases hc
/-- what holds where e1 stands to e2 so: 0 same, 1 not, 2 less, 3 not less, 4 more, 5 not more -/
def zk_rel (A : zk_A) (hs : List Nat) (c : Nat) (e1 e2 : zl_E) : List zl_E := match c with
  | 0 => [zl_sub e1 e2, zl_sub e2 e1]
  | 1 => zk_ne A hs e1 e2
  | 2 => [zl_sub (zl_sub e2 e1) (zl_con 1)]
  | 3 => [zl_sub e1 e2]
  | 4 => [zl_sub (zl_sub e1 e2) (zl_con 1)]
  | _ => [zl_sub e2 e1]
def zk_holds (c : Nat) (a b : Int) : Prop := match c with
  | 0 => a = b
  | 1 => a ≠ b
  | 2 => a < b
  | 3 => b ≤ a
  | 4 => b < a
  | _ => a ≤ b
theorem zk_rel_ok {A : zk_A} {hs : List Nat} {c : Nat} {e1 e2 : zl_E} {s : Nat → Int} (h4 : zl_in s A.2.2.2.1) (h5 : zk_cs s A.2.2.2.2) (h : zk_holds c (zl_ev s e1) (zl_ev s e2)) : zk_cs s (zk_rel A hs c e1 e2) := by
  unfold zk_rel
  unfold zk_holds at h
  split
  · intro q hq
    have h : zl_ev s e1 = zl_ev s e2 := h
    rcases List.mem_cons.mp hq with e | hq
    · rw [e, zl_sub_ev]; omega
    · rw [List.mem_singleton.mp hq, zl_sub_ev]; omega
  · exact zk_ne_ok h4 h5 h
  · intro q hq
    have h : zl_ev s e1 < zl_ev s e2 := h
    rw [List.mem_singleton.mp hq, zl_sub_ev, zl_sub_ev, zl_con_ev]
    omega
  · intro q hq
    have h : zl_ev s e2 ≤ zl_ev s e1 := h
    rw [List.mem_singleton.mp hq, zl_sub_ev]
    omega
  · intro q hq
    have h : zl_ev s e2 < zl_ev s e1 := h
    rw [List.mem_singleton.mp hq, zl_sub_ev, zl_sub_ev, zl_con_ev]
    omega
  · rename_i c0 c1 c2 c3 c4
    intro q hq
    have h : zl_ev s e1 ≤ zl_ev s e2 := by
      split at h
      · exact absurd rfl c0
      · exact absurd rfl c1
      · exact absurd rfl c2
      · exact absurd rfl c3
      · exact absurd rfl c4
      · exact h
    rw [List.mem_singleton.mp hq, zl_sub_ev]
    omega
def zk_not (c : Nat) : Nat := match c with
  | 0 => 1
  | 1 => 0
  | 2 => 3
  | 3 => 2
  | 4 => 5
  | _ => 4
/-- a branch on two ints, or on one and 0: where it goes, with what is known there -/
def zk_br (A : zk_A) (T : List zk_V) (hs : List Nat) (c t n : Nat) (e1 e2 : zl_E) : List (Nat × zk_A) :=
  (zk_and A T hs (zk_rel A hs c e1 e2)).map (fun B => (t, B)) ++ (zk_and A T hs (zk_rel A hs (zk_not c) e1 e2)).map (fun B => (n, B))
def zt_icmp (hs : List Nat) (c t n : Nat) (A : zk_A) : Option (List (Nat × zk_A)) := match A.2.1 with
  | (0, _, e2) :: (0, _, e1) :: T => some (zk_br A T hs c t n e1 e2)
  | _ => none
def zt_if (hs : List Nat) (c t n : Nat) (A : zk_A) : Option (List (Nat × zk_A)) := match A.2.1 with
  | (0, _, e1) :: T => some (zk_br A T hs c t n e1 (zl_con 0))
  | _ => none
theorem zt_icmp_ok {I : zz_W → Prop} {A : zk_A} {R : List (Nat × zk_A)} {hs : List Nat} {c t n : Nat} {act : zz_A} (ha : ∀ (K : zz_K) (p : Nat) (lv : List (Nat × Value)) (x y : Int32) (r : List Value) (w : zz_W), (zk_holds c x.toInt y.toInt ∧ act K (p, lv, .int y :: .int x :: r, w) = some (t, lv, r, w)) ∨ (zk_holds (zk_not c) x.toInt y.toInt ∧ act K (p, lv, .int y :: .int x :: r, w) = some (n, lv, r, w))) (h : zt_icmp hs c t n A = some R) : zk_R I act A R := by
  obtain ⟨L, T, F, B, C⟩ := A
  unfold zt_icmp at h
  split at h
  · rename_i k2 e2 k1 e1 r hT
    have hT : T = (0, k2, e2) :: (0, k1, e1) :: r := hT
    subst hT
    cases h
    intro K s f hG
    obtain ⟨p, lv, st, w⟩ := f
    obtain ⟨g1, g2, g3, g4, g5, g6⟩ := hG
    obtain ⟨y, st1, q1, q2, q3⟩ := zk_st_int g2 rfl
    obtain ⟨x, st2, q4, q5, q6⟩ := zk_st_int q3 rfl
    have hst : st = .int y :: .int x :: st2 := by rw [← q4]; exact q1
    subst hst
    rcases ha K p lv x y st2 w with ⟨h1, h2⟩ | ⟨h1, h2⟩
    · rw [q5, q2] at h1
      obtain ⟨A', m1, m2, m3⟩ := zk_and_ok (I := I) (A := (L, (0, k2, e2) :: (0, k1, e1) :: r, F, B, C)) (T := r) (hs := hs) (n := t) (w := w) g1 q6 g3 g4 g5 g6 (zk_rel_ok (A := (L, (0, k2, e2) :: (0, k1, e1) :: r, F, B, C)) (hs := hs) g4 g5 h1)
      exact ⟨s, _, (t, A'), h2, List.mem_append_left _ (List.mem_map.mpr ⟨A', m1, rfl⟩), rfl, m2, m3, fun _ _ => rfl⟩
    · rw [q5, q2] at h1
      obtain ⟨A', m1, m2, m3⟩ := zk_and_ok (I := I) (A := (L, (0, k2, e2) :: (0, k1, e1) :: r, F, B, C)) (T := r) (hs := hs) (n := n) (w := w) g1 q6 g3 g4 g5 g6 (zk_rel_ok (A := (L, (0, k2, e2) :: (0, k1, e1) :: r, F, B, C)) (hs := hs) g4 g5 h1)
      exact ⟨s, _, (n, A'), h2, List.mem_append_right _ (List.mem_map.mpr ⟨A', m1, rfl⟩), rfl, m2, m3, fun _ _ => rfl⟩
  · cases h
theorem zt_if_ok {I : zz_W → Prop} {A : zk_A} {R : List (Nat × zk_A)} {hs : List Nat} {c t n : Nat} {act : zz_A} (ha : ∀ (K : zz_K) (p : Nat) (lv : List (Nat × Value)) (x : Int32) (r : List Value) (w : zz_W), (zk_holds c x.toInt 0 ∧ act K (p, lv, .int x :: r, w) = some (t, lv, r, w)) ∨ (zk_holds (zk_not c) x.toInt 0 ∧ act K (p, lv, .int x :: r, w) = some (n, lv, r, w))) (h : zt_if hs c t n A = some R) : zk_R I act A R := by
  obtain ⟨L, T, F, B, C⟩ := A
  unfold zt_if at h
  split at h
  · rename_i k1 e1 r hT
    have hT : T = (0, k1, e1) :: r := hT
    subst hT
    cases h
    intro K s f hG
    obtain ⟨p, lv, st, w⟩ := f
    obtain ⟨g1, g2, g3, g4, g5, g6⟩ := hG
    obtain ⟨x, st2, q4, q5, q6⟩ := zk_st_int g2 rfl
    have q4 : st = .int x :: st2 := q4
    subst q4
    have z : zl_ev s (zl_con 0) = 0 := zl_con_ev s 0
    rcases ha K p lv x st2 w with ⟨h1, h2⟩ | ⟨h1, h2⟩
    · rw [q5, ← z] at h1
      obtain ⟨A', m1, m2, m3⟩ := zk_and_ok (I := I) (A := (L, (0, k1, e1) :: r, F, B, C)) (T := r) (hs := hs) (n := t) (w := w) g1 q6 g3 g4 g5 g6 (zk_rel_ok (A := (L, (0, k1, e1) :: r, F, B, C)) (hs := hs) g4 g5 h1)
      exact ⟨s, _, (t, A'), h2, List.mem_append_left _ (List.mem_map.mpr ⟨A', m1, rfl⟩), rfl, m2, m3, fun _ _ => rfl⟩
    · rw [q5, ← z] at h1
      obtain ⟨A', m1, m2, m3⟩ := zk_and_ok (I := I) (A := (L, (0, k1, e1) :: r, F, B, C)) (T := r) (hs := hs) (n := n) (w := w) g1 q6 g3 g4 g5 g6 (zk_rel_ok (A := (L, (0, k1, e1) :: r, F, B, C)) (hs := hs) g4 g5 h1)
      exact ⟨s, _, (n, A'), h2, List.mem_append_right _ (List.mem_map.mpr ⟨A', m1, rfl⟩), rfl, m2, m3, fun _ _ => rfl⟩
  · cases h
end
