/-! ABSTRACT FRAMES, on: cells. What is known of each cell all the time (zk_H): its kind, class or elements, length; bounds of ints; references that stay -/
noncomputable section
/-- kind, class or element, length, bounds of elements, fields (of a row of ints: closer bounds by the rest of the place, none or as many as the stride): (0, _, bounds) an int, (1, ..) a long, (2, number, ..) a reference that stays, (3, ..) any reference -/
abbrev zk_H : Type := Nat × Nat × Nat × Int × Int × List (Nat × Nat × Int × Int)
def zk_h0 : zk_H := (9, 0, 0, 0, 0, [])
def zk_h (HT : List (List zk_H)) (i : Nat) : zk_H := (HT.getD (i / 16) []).getD (i % 16) zk_h0
def zk_Hok (H : zk_H) (c : zz_C) : Prop :=
  c.1 = H.1 ∧ c.2.1 = H.2.1 ∧ c.2.2.1 = H.2.2.1 ∧
  (H.1 = 0 → ∀ j, j < H.2.2.1 → (H.2.2.2.1 ≤ (Int32.ofNat (zz_at 32 c.2.2.2 j)).toInt ∧ (Int32.ofNat (zz_at 32 c.2.2.2 j)).toInt ≤ H.2.2.2.2.1) ∧ ∀ q : Nat × Nat × Int × Int, H.2.2.2.2.2[j % H.2.2.2.2.2.length]? = some q → q.2.2.1 ≤ (Int32.ofNat (zz_at 32 c.2.2.2 j)).toInt ∧ (Int32.ofNat (zz_at 32 c.2.2.2 j)).toInt ≤ q.2.2.2) ∧
  (H.1 = 2 → ∀ (k : Nat) (q : Nat × Nat × Int × Int), H.2.2.2.2.2[k]? = some q → zz_at 32 c.2.2.2 k = q.2.1) ∧
  (H.1 = 3 → ∀ (k : Nat) (q : Nat × Nat × Int × Int), H.2.2.2.2.2[k]? = some q → (q.1 = 0 → q.2.2.1 ≤ (Int32.ofNat (zz_at 64 c.2.2.2 k)).toInt ∧ (Int32.ofNat (zz_at 64 c.2.2.2 k)).toInt ≤ q.2.2.2) ∧ (q.1 = 2 → zz_at 64 c.2.2.2 k = q.2.1)) ∧
  (H.1 = 1 → ∀ (k : Nat) (q : Nat × Nat × Int × Int), H.2.2.2.2.2[k]? = some q → zz_at 64 c.2.2.2 k = q.2.1)
/-- so many chunks -/
def zk_sh (c : Nat) (w : zz_W) : Prop := w.2.2.length = c ∧ ∀ i, i < c → (w.2.2.getD i []).length = 16
def zk_I (c : Nat) (HT : List (List zk_H)) (w : zz_W) : Prop := zk_sh c w ∧ w.1 ≤ 16 * c ∧ w.1 ≤ 1000000 ∧ ∀ i, (zk_h HT i).1 ≠ 9 → i < w.1 ∧ zk_Hok (zk_h HT i) (zz_g w i)
/-- the element at j of row i -/
def zk_el (w : zz_W) (i : Nat) (j : Int) : Int := (Int32.ofNat (zz_at 32 (zz_g w i).2.2.2 j.toNat)).toInt
/-- what may change: fields, rows (i, 999), rows at some places alone (i, 998); these places -/
abbrev zk_M : Type := List (Nat × Nat) × List (Nat × zl_E)
/-- the world at the start, and the places as numbers -/
abbrev zk_W0 : Type := zz_W × List (Nat × Int)
def zk_pv (s : Nat → Int) (P : List (Nat × zl_E)) (V : List (Nat × Int)) : Prop := ∀ p ∈ P, (p.1, zl_ev s p.2) ∈ V
/-- place m of row i is none of those that may change: (i, x) the place x, (i + 10000000, x) all places from x on -/
def zk_fre (V : List (Nat × Int)) (i : Nat) (m : Int) : Prop := (i, m) ∉ V ∧ ∀ x, (i + 10000000, x) ∈ V → m < x
/-- all else is as in w0 -/
def zk_sm (M : zk_M) (w0 : zk_W0) (w : zz_W) : Prop := (∀ i k, k < 998 → (i, k) ∉ M.1 → i < w0.1.1 → (zz_g w0.1 i).1 = 3 → zk_fd w (i, k) = zk_fd w0.1 (i, k)) ∧ ∀ i, (i, 999) ∉ M.1 → i < w0.1.1 → (zz_g w0.1 i).1 ≠ 3 → ((i, 998) ∉ M.1 → zz_g w i = zz_g w0.1 i) ∧ ∀ m, 0 ≤ m → zk_fre w0.2 i m → zk_el w i m = zk_el w0.1 i m
/-- kind, class or element, length -/
def zk_k3 (c : zz_C) : Nat × Nat × Nat := (c.1, c.2.1, c.2.2.1)
theorem zk_k3_1 {c d : zz_C} (h : zk_k3 c = zk_k3 d) : c.1 = d.1 := congrArg (fun q => q.1) h
theorem zk_k3_2 {c d : zz_C} (h : zk_k3 c = zk_k3 d) : c.2.1 = d.2.1 := congrArg (fun q => q.2.1) h
theorem zk_k3_3 {c d : zz_C} (h : zk_k3 c = zk_k3 d) : c.2.2.1 = d.2.2.1 := congrArg (fun q => q.2.2) h
theorem zk_k3_of {a b n N : Nat} {c : zz_C} (h1 : c.1 = a) (h2 : c.2.1 = b) (h3 : c.2.2.1 = n) : zk_k3 (a, b, n, N) = zk_k3 c := by
  show (a, b, n) = (c.1, c.2.1, c.2.2.1)
  rw [h1, h2, h3]
def zk_J (c : Nat) (HT : List (List zk_H)) (M : zk_M) (w0 : zk_W0) (w : zz_W) : Prop := zk_I c HT w ∧ zk_sm M w0 w ∧ w0.1.1 ≤ w.1 ∧ (w.1 = w0.1.1 ∧ w.2.1 = w0.1.2.1) ∧ ∀ i, i < w0.1.1 → zk_k3 (zz_g w i) = zk_k3 (zz_g w0.1 i)
theorem zk_up_st {β : Sort _} {c : Nat} {w : zz_W} {i : Nat} {x : zz_C} {bad : β} {k : zz_W → β} (h : zk_sh c w) (hi : i < 16 * c) : zz_st w i x bad k = k (zz_up w i x) := by
  unfold zz_st zz_up
  have h1 : i / 16 < c := by omega
  rw [zz_ls_eq, if_pos (by rw [h.2 _ h1]; omega), zz_ls_eq, if_pos (by rw [h.1]; exact h1)]
theorem zk_up_sh {c : Nat} {w : zz_W} {i : Nat} {x : zz_C} (h : zk_sh c w) : zk_sh c (zz_up w i x) := by
  refine ⟨?_, fun j hj => ?_⟩
  · show (w.2.2.set _ _).length = c
    rw [List.length_set]
    exact h.1
  · show ((w.2.2.set (i / 16) ((w.2.2.getD (i / 16) []).set (i % 16) x)).getD j []).length = 16
    rw [List.getD_eq_getElem?_getD]
    by_cases e : i / 16 = j
    · subst e
      rw [List.getElem?_set_self (by rw [h.1]; exact hj)]
      show ((w.2.2.getD (i / 16) []).set (i % 16) x).length = 16
      rw [List.length_set]
      exact h.2 _ hj
    · rw [List.getElem?_set_ne e, ← List.getD_eq_getElem?_getD]
      exact h.2 j hj
theorem zk_up_g {c : Nat} {w : zz_W} {i : Nat} {x : zz_C} (h : zk_sh c w) (hi : i < 16 * c) (j : Nat) : zz_g (zz_up w i x) j = if j = i then x else zz_g w j := by
  obtain ⟨w', e1, -, -, e4⟩ := zz_st_ok (w := w) (i := i) (c := x) (k := fun w' => some w') (b := zz_up w i x) (zk_up_st h hi)
  cases e1
  exact e4 j
/-- the world with another content of a cell: what must be shown of the content -/
theorem zk_I_up {c : Nat} {HT : List (List zk_H)} {w : zz_W} {i : Nat} {x : zz_C} (h : zk_I c HT w) (hi : i < w.1) (hx : (zk_h HT i).1 ≠ 9 → zk_Hok (zk_h HT i) x) : zk_I c HT (zz_up w i x) := by
  obtain ⟨h1, h2, h3, h4⟩ := h
  refine ⟨zk_up_sh h1, h2, h3, fun j hj => ⟨(h4 j hj).1, ?_⟩⟩
  rw [zk_up_g h1 (by omega)]
  by_cases e : j = i
  · subst e
    rw [if_pos rfl]
    exact hx hj
  · rw [if_neg e]
    exact (h4 j hj).2
/-- the field's spec -/
def zk_fs (HT : List (List zk_H)) (ci i k : Nat) : Option (Nat × Nat × Int × Int) :=
  cond (Nat.beq (zk_h HT i).1 3 && (Nat.beq (zk_h HT i).2.1 ci && Nat.blt k (zk_h HT i).2.2.1)) ((zk_h HT i).2.2.2.2.2)[k]? none
theorem zk_fs_ok {c : Nat} {HT : List (List zk_H)} {ci i k : Nat} {q : Nat × Nat × Int × Int} {w : zz_W} (h : zk_fs HT ci i k = some q) (hI : zk_I c HT w) : i < w.1 ∧ (zk_h HT i).1 = 3 ∧ (zz_g w i) = (3, ci, (zk_h HT i).2.2.1, (zz_g w i).2.2.2) ∧ k < (zk_h HT i).2.2.1 ∧ (zk_h HT i).2.2.2.2.2[k]? = some q ∧ zz_io w i ci k = true ∧ (q.1 = 0 → q.2.2.1 ≤ (Int32.ofNat (zk_fd w (i, k))).toInt ∧ (Int32.ofNat (zk_fd w (i, k))).toInt ≤ q.2.2.2) ∧ (q.1 = 2 → zk_fd w (i, k) = q.2.1) := by
  unfold zk_fs at h
  obtain ⟨hb, h⟩ := zz_cond h
  obtain ⟨b1, hb⟩ := zz_and hb
  obtain ⟨b2, b3⟩ := zz_and hb
  have e1 := zz_beq b1
  have e2 := zz_beq b2
  have e3 := zz_blt b3
  obtain ⟨hi, g1, g2, g3, -, -, g6, -⟩ := hI.2.2.2 i (by omega)
  have g6 := g6 e1 k q h
  have hw : zz_io w i ci k = true := by
    unfold zz_io
    rw [g1, g2, g3, e1, e2]
    have a1 : Nat.blt i w.1 = true := Nat.ble_eq.mpr hi
    have a2 : Nat.blt i 1000000 = true := Nat.ble_eq.mpr (by have := hI.2.2.1; omega)
    rw [a1, a2, b3, Nat.beq_refl ci]
    rfl
  refine ⟨hi, e1, ?_, e3, h, hw, g6.1, g6.2⟩
  rw [← e2, ← g3, ← g2]
  have : (zz_g w i).1 = 3 := by rw [g1, e1]
  rw [← this]
/-- the field, if it is followed -/
def zk_fk (F : List ((Nat × Nat) × zk_V)) (i k : Nat) : Option zk_V := match F with
  | [] => none
  | q :: r => cond (Nat.beq q.1.1 i && Nat.beq q.1.2 k) (some q.2) (zk_fk r i k)
theorem zk_fk_mem {i k : Nat} {a : zk_V} : ∀ {F : List ((Nat × Nat) × zk_V)}, zk_fk F i k = some a → ((i, k), a) ∈ F
  | [], h => by cases h
  | q :: r, h => by
    unfold zk_fk at h
    cases hb : (Nat.beq q.1.1 i && Nat.beq q.1.2 k) with
    | true =>
      rw [hb] at h
      cases h
      obtain ⟨b1, b2⟩ := zz_and hb
      rw [← zz_beq b1, ← zz_beq b2]
      exact List.mem_cons_self
    | false =>
      rw [hb] at h
      exact List.mem_cons_of_mem _ (zk_fk_mem h)
/-- the int of a field: as it is followed, or any within its bounds, which is followed then -/
def zt_getI (HT : List (List zk_H)) (ci k : Nat) (A : zk_A) : Option zk_A := match A.2.1 with
  | (2, i, _) :: T => match zk_fs HT ci i k with
    | some (0, _, lo, hi) => match zk_fk A.2.2.1 i k with
      | some (0, b, e) => some (A.1, (0, b, e) :: T, A.2.2.1, A.2.2.2.1, A.2.2.2.2)
      | some _ => none
      | none => match zk_new A T lo hi with
        | some B => some (B.1, B.2.1, ((i, k), (0, 0, zl_sym A.2.2.2.1.length)) :: B.2.2.1, B.2.2.2.1, B.2.2.2.2)
        | none => none
    | _ => none
  | _ => none
theorem zt_getI_ok {c : Nat} {HT : List (List zk_H)} {I : zz_W → Prop} (hI : ∀ w, I w → zk_I c HT w) {A A' : zk_A} {ci k n : Nat} (h : zt_getI HT ci k A = some A') : zk_S I (za_getI ci k n) n A A' := by
  obtain ⟨L, T0, F, B, C⟩ := A
  unfold zt_getI at h
  split at h
  · rename_i i e0 T hT
    have hT : T0 = (2, i, e0) :: T := hT
    subst hT
    split at h
    · rename_i c0 lo hi hfs
      split at h
      · rename_i b e hfk
        cases h
        refine ⟨Nat.le_refl _, fun K s f hG => ?_⟩
        obtain ⟨p, lv, st, w⟩ := f
        obtain ⟨g1, g2, g3, g4, g5, g6⟩ := hG
        obtain ⟨v, st2, q4, q5, q6⟩ := zk_st_cons g2
        have e3 : v = .ref i := q5.2.2.1 rfl
        subst e3
        have q4 : st = .ref i :: st2 := q4
        subst q4
        obtain ⟨o1, o2, o3, o4, o5, o6, o7, o8⟩ := zk_fs_ok hfs (hI _ g6)
        have hn := (g3 _ (zk_fk_mem hfk)).1 rfl
        refine ⟨s, (n, lv, .int (Int32.ofNat (zk_fd w (i, k))) :: st2, w), ?_, rfl, ⟨g1, ⟨zk_v_int hn, q6⟩, g3, g4, g5, g6⟩, fun _ _ => rfl⟩
        show cond (zz_io w i ci k) (zz_fN (zz_at 64 (zz_g w i).2.2.2 k) (fun v => some ((n, lv, .int (Int32.ofNat v) :: st2, w) : zz_F))) none = _
        rw [o6, zz_fN_eq]
        rfl
      · cases h
      · rename_i hfk
        split at h
        · rename_i A1 hA1
          cases h
          have hl := zk_new_len hA1
          refine ⟨hl, fun K s f hG => ?_⟩
          obtain ⟨p, lv, st, w⟩ := f
          obtain ⟨g1, g2, g3, g4, g5, g6⟩ := hG
          obtain ⟨v, st2, q4, q5, q6⟩ := zk_st_cons g2
          have e3 : v = .ref i := q5.2.2.1 rfl
          subst e3
          have q4 : st = .ref i :: st2 := q4
          subst q4
          obtain ⟨o1, o2, o3, o4, o5, o6, o7, o8⟩ := zk_fs_ok hfs (hI _ g6)
          have o7 := o7 rfl
          obtain ⟨-, s', hg, hs⟩ := zk_new_ok (I := I) (x := Int32.ofNat (zk_fd w (i, k))) (n := n) (w := w) (lv := lv) hA1 g1 q6 g3 g4 g5 g6 o7.1 o7.2
          obtain ⟨j1, j2, j3, j4, j5, j6⟩ := hg
          have hsym : (Int32.ofNat (zk_fd w (i, k))).toInt = zl_ev s' (zl_sym B.length) := by
            obtain ⟨-, hA1⟩ := zz_cond hA1
            cases hA1
            obtain ⟨x, x1, x2⟩ := j2.1.1 rfl
            cases x1
            exact x2
          refine ⟨s', (n, lv, .int (Int32.ofNat (zk_fd w (i, k))) :: st2, w), ?_, rfl, ⟨j1, j2, fun q hq => ?_, j4, j5, j6⟩, hs⟩
          · show cond (zz_io w i ci k) (zz_fN (zz_at 64 (zz_g w i).2.2.2 k) (fun v => some ((n, lv, .int (Int32.ofNat v) :: st2, w) : zz_F))) none = _
            rw [o6, zz_fN_eq]
            rfl
          · rcases List.mem_cons.mp hq with e | hq
            · subst e
              exact ⟨fun _ => hsym, fun h => absurd (show (0 : Nat) = 2 from h) (by decide), fun h => absurd (show (0 : Nat) = 3 from h) (by decide)⟩
            · exact j3 q hq
        · cases h
    · cases h
  · cases h
/-- a reference in a field -/
def zt_getA (HT : List (List zk_H)) (ci k : Nat) (A : zk_A) : Option zk_A := match A.2.1 with
  | (2, i, _) :: T => match zk_fs HT ci i k with
    | some (2, m + 1, _) => some (A.1, (2, m, zl_con 0) :: T, A.2.2.1, A.2.2.2.1, A.2.2.2.2)
    | some (2, 0, _) => some (A.1, (3, 0, zl_con 0) :: T, A.2.2.1, A.2.2.2.1, A.2.2.2.2)
    | some (3, _, _) => match zk_fk A.2.2.1 i k with
      | some (2, b, e) => some (A.1, (2, b, e) :: T, A.2.2.1, A.2.2.2.1, A.2.2.2.2)
      | some (3, b, e) => some (A.1, (3, b, e) :: T, A.2.2.1, A.2.2.2.1, A.2.2.2.2)
      | _ => none
    | _ => none
  | _ => none
theorem zk_getA_ref {w : zz_W} {i ci k n p b : Nat} {lv : List (Nat × Value)} {st : List Value} {K : zz_K} (o6 : zz_io w i ci k = true) (hn : zk_fd w (i, k) = b + 1) : za_getA ci k n K (p, lv, .ref i :: st, w) = some (n, lv, .ref b :: st, w) := by
  show cond (zz_io w i ci k) (Nat.casesOn (motive := fun _ => Option zz_F) (zk_fd w (i, k)) (some (n, lv, .null :: st, w)) (fun v => some (n, lv, .ref v :: st, w))) none = _
  rw [o6, hn]
  rfl
theorem zk_getA_null {w : zz_W} {i ci k n p : Nat} {lv : List (Nat × Value)} {st : List Value} {K : zz_K} (o6 : zz_io w i ci k = true) (hn : zk_fd w (i, k) = 0) : za_getA ci k n K (p, lv, .ref i :: st, w) = some (n, lv, .null :: st, w) := by
  show cond (zz_io w i ci k) (Nat.casesOn (motive := fun _ => Option zz_F) (zk_fd w (i, k)) (some (n, lv, .null :: st, w)) (fun v => some (n, lv, .ref v :: st, w))) none = _
  rw [o6, hn]
  rfl
theorem zt_getA_ok {c : Nat} {HT : List (List zk_H)} {I : zz_W → Prop} (hI : ∀ w, I w → zk_I c HT w) {A A' : zk_A} {ci k n : Nat} (h : zt_getA HT ci k A = some A') : zk_S I (za_getA ci k n) n A A' := by
  obtain ⟨L, T0, F, B, C⟩ := A
  unfold zt_getA at h
  split at h
  · rename_i i e0 T hT
    have hT : T0 = (2, i, e0) :: T := hT
    subst hT
    have key : ∀ (a : zk_V), (∀ (s : Nat → Int) (w : zz_W), zk_fl s F w → I w → ∃ v, zk_v s a v ∧ ∀ (K : zz_K) (p : Nat) (lv : List (Nat × Value)) (st : List Value), za_getA ci k n K (p, lv, .ref i :: st, w) = some (n, lv, v :: st, w)) → zk_S I (za_getA ci k n) n (L, (2, i, e0) :: T, F, B, C) (L, a :: T, F, B, C) := by
      intro a ha
      refine ⟨Nat.le_refl _, fun K s f hG => ?_⟩
      obtain ⟨p, lv, st, w⟩ := f
      obtain ⟨g1, g2, g3, g4, g5, g6⟩ := hG
      obtain ⟨v, st2, q4, q5, q6⟩ := zk_st_cons g2
      have e3 : v = .ref i := q5.2.2.1 rfl
      subst e3
      have q4 : st = .ref i :: st2 := q4
      subst q4
      obtain ⟨u, u1, u2⟩ := ha s w g3 g6
      exact ⟨s, _, u2 K p lv st2, rfl, ⟨g1, ⟨u1, q6⟩, g3, g4, g5, g6⟩, fun _ _ => rfl⟩
    split at h
    · rename_i m r hfs
      cases h
      refine key _ (fun s w _ hJ => ?_)
      obtain ⟨o1, o2, o3, o4, o5, o6, o7, o8⟩ := zk_fs_ok hfs (hI _ hJ)
      exact ⟨.ref m, zk_v_ref, fun K p lv st => zk_getA_ref o6 (o8 rfl)⟩
    · rename_i r hfs
      cases h
      refine key _ (fun s w _ hJ => ?_)
      obtain ⟨o1, o2, o3, o4, o5, o6, o7, o8⟩ := zk_fs_ok hfs (hI _ hJ)
      exact ⟨.null, zk_v_null, fun K p lv st => zk_getA_null o6 (o8 rfl)⟩
    · rename_i c1 r hfs
      split at h
      · rename_i b e hfk
        cases h
        refine key _ (fun s w hF hJ => ?_)
        obtain ⟨o1, o2, o3, o4, o5, o6, o7, o8⟩ := zk_fs_ok hfs (hI _ hJ)
        exact ⟨.ref b, zk_v_ref, fun K p lv st => zk_getA_ref o6 ((hF _ (zk_fk_mem hfk)).2.1 rfl)⟩
      · rename_i b e hfk
        cases h
        refine key _ (fun s w hF hJ => ?_)
        obtain ⟨o1, o2, o3, o4, o5, o6, o7, o8⟩ := zk_fs_ok hfs (hI _ hJ)
        exact ⟨.null, zk_v_null, fun K p lv st => zk_getA_null o6 ((hF _ (zk_fk_mem hfk)).2.2 rfl)⟩
      · cases h
    · cases h
  · cases h
end
