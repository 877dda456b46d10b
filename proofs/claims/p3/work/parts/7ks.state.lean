/-! STATES: abstract frames, elements of rows that are known, and laws of the world that hold (tokens) -/
noncomputable section
/-- an element that is known: row, place, value -/
abbrev zk_E1 : Type := Nat × zl_E × zl_E
abbrev zk_St : Type := zk_A × List zk_E1 × List Nat
def zk_eF (s : Nat → Int) (E : List zk_E1) (w : zz_W) : Prop := ∀ x ∈ E, 0 ≤ zl_ev s x.2.1 ∧ zk_xe w x.1 (zl_ev s x.2.1) = zl_ev s x.2.2
def zk_eW (HT : List (List zk_H)) (n : Nat) (E : List zk_E1) : Bool := E.all (fun x => (zk_rws x.1).all (fun r => Nat.blt (zk_h HT r).1 3) && (Nat.ble (zl_mx x.2.1.2) n && Nat.ble (zl_mx x.2.2.2) n))
theorem zk_eW_eq {HT : List (List zk_H)} {n : Nat} {E : List zk_E1} {s t : Nat → Int} {w : zz_W} (h : zk_eW HT n E = true) (hs : ∀ j, j < n → t j = s j) (hE : zk_eF s E w) : zk_eF t E w := by
  intro x hx
  have h1 := List.all_eq_true.mp h x hx
  obtain ⟨-, h2⟩ := zz_and h1
  obtain ⟨h3, h4⟩ := zz_and h2
  have e1 : zl_ev t x.2.1 = zl_ev s x.2.1 := zl_ev_eq (n := n) (zz_ble h3) hs
  have e2 : zl_ev t x.2.2 = zl_ev s x.2.2 := zl_ev_eq (n := n) (zz_ble h4) hs
  have := hE x hx
  rw [e1, e2]
  exact this
theorem zk_eW_row {HT : List (List zk_H)} {n : Nat} {E : List zk_E1} (h : zk_eW HT n E = true) : ∀ x ∈ E, ∀ r ∈ zk_rws x.1, (zk_h HT r).1 < 3 := by
  intro x hx r hr
  exact zz_blt (List.all_eq_true.mp (zz_and (List.all_eq_true.mp h x hx)).1 r hr)
/-- what a state says of a frame -/
def zk_G2 (PT : Nat → zz_W → Prop) (I : zz_W → Prop) (s : Nat → Int) (X : zk_St) (f : zz_F) : Prop := zk_G I s X.1 f ∧ zk_eF s X.2.1 f.2.2.2 ∧ ∀ t ∈ X.2.2, PT t f.2.2.2
/-- an instruction takes a frame of X to one of the states R -/
def zk_R2 (PT : Nat → zz_W → Prop) (c : Nat) (HT : List (List zk_H)) (M : zk_M) (w0 : zk_W0) (act : zz_A) (X : zk_St) (R : List (Nat × zk_St)) : Prop :=
  ∀ (K : zz_K) (s : Nat → Int) (f : zz_F), zk_pv s M.2 w0.2 → zk_G2 PT (zk_J c HT M w0) s X f → ∃ (s' : Nat → Int) (f' : zz_F) (q : Nat × zk_St), act K f = some f' ∧ q ∈ R ∧ f'.1 = q.1 ∧ zk_G2 PT (zk_J c HT M w0) s' q.2 f' ∧ X.1.2.2.2.1.length ≤ q.2.1.2.2.2.1.length ∧ ∀ j, j < X.1.2.2.2.1.length → s' j = s j
/-- instructions that leave the world as it is -/
def zk_pu (HT : List (List zk_H)) (X : zk_St) (o : Option (List (Nat × zk_A))) : Option (List (Nat × zk_St)) := match o with
  | some R => cond (zk_eW HT X.1.2.2.2.1.length X.2.1) (some (R.map (fun q => (q.1, q.2, X.2.1, X.2.2)))) none
  | none => none
theorem zk_pu_ok {c : Nat} {HT : List (List zk_H)} {M : zk_M} {w0 : zk_W0} {PT : Nat → zz_W → Prop} {act : zz_A} {X : zk_St} {o : Option (List (Nat × zk_A))} {R : List (Nat × zk_St)} (h : zk_pu HT X o = some R) (hk : ∀ (I : zz_W → Prop), (∀ w, I w → zk_I c HT w) → ∀ R', o = some R' → zk_R I act X.1 R') : zk_R2 PT c HT M w0 act X R := by
  obtain ⟨A, E, T⟩ := X
  unfold zk_pu at h
  split at h
  · rename_i R'
    obtain ⟨hw, h⟩ := zz_cond h
    cases h
    intro K s f hpv hG
    obtain ⟨g1, g2, g3⟩ := hG
    have g1 : zk_G (zk_J c HT M w0) s A f := g1
    obtain ⟨a1, a2, a3, a4, a5, a6⟩ := g1
    have hr := hk (fun w => zk_J c HT M w0 w ∧ (zk_eF s E w ∧ ∀ t ∈ T, PT t w)) (fun w hw => hw.1.1) R' rfl
    obtain ⟨s', f', q, m1, m2, m3, m4, m5, m6⟩ := hr K s f ⟨a1, a2, a3, a4, a5, a6, g2, g3⟩
    obtain ⟨b1, b2, b3, b4, b5, b6, b7, b8⟩ := m4
    exact ⟨s', f', (q.1, q.2, E, T), m1, List.mem_map.mpr ⟨q, m2, rfl⟩, m3, ⟨⟨b1, b2, b3, b4, b5, b6⟩, zk_eW_eq hw m6 b7, b8⟩, m5, m6⟩
  · cases h
/-- the element, if it is known -/
def zk_ek (E : List zk_E1) (i : Nat) (e : zl_E) : Option zl_E := match E with
  | [] => none
  | x :: r => cond (Nat.beq x.1 i && zl_nul (zl_sub x.2.1 e)) (some x.2.2) (zk_ek r i e)
theorem zk_ek_ok {s : Nat → Int} {w : zz_W} {i : Nat} {e v : zl_E} : ∀ {E : List zk_E1}, zk_ek E i e = some v → zk_eF s E w → 0 ≤ zl_ev s e ∧ zk_xe w i (zl_ev s e) = zl_ev s v
  | [], h, _ => by cases h
  | x :: r, h, hE => by
    unfold zk_ek at h
    cases hb : (Nat.beq x.1 i && zl_nul (zl_sub x.2.1 e)) with
    | true =>
      rw [hb] at h
      have h : x.2.2 = v := Option.some.inj h
      obtain ⟨b1, b2⟩ := zz_and hb
      have h1 := zl_nul_ok (s := s) b2
      rw [zl_sub_ev] at h1
      have h2 := hE x List.mem_cons_self
      have h3 : zl_ev s x.2.1 = zl_ev s e := by omega
      rw [zz_beq b1, h, h3] at h2
      exact h2
    | false =>
      rw [hb] at h
      exact zk_ek_ok h (fun y hy => hE y (List.mem_cons_of_mem _ hy))
def zt_ald2 (HT : List (List zk_H)) (h1 h2 : List Nat) (t n : Nat) (X : zk_St) : Option (List (Nat × zk_St)) := match X.1.2.1 with
  | (0, _, e) :: (2, i, _) :: T => match zk_rs HT 0 t i with
    | some (len, lo, hi) => cond ((zk_ix X.1 h1 h2 e len && Nat.blt i 1000000) && (zk_eW HT X.1.2.2.2.1.length X.2.1 && Nat.ble (zl_mx e.2) X.1.2.2.2.1.length)) (match zk_ek X.2.1 i e with
      | some v => some [(n, ((X.1.1, (0, 0, v) :: T, X.1.2.2.1, X.1.2.2.2.1, X.1.2.2.2.2), X.2.1, X.2.2))]
      | none => match zk_new X.1 T (zk_sb (zk_h HT i).2.2.2.2.2 lo hi e).1 (zk_sb (zk_h HT i).2.2.2.2.2 lo hi e).2 with
        | some A => some [(n, (A, (i, e, zl_sym X.1.2.2.2.1.length) :: X.2.1, X.2.2))]
        | none => none) none
    | none => none
  | _ => none
theorem zt_ald2_ok {c : Nat} {HT : List (List zk_H)} {M : zk_M} {w0 : zk_W0} {PT : Nat → zz_W → Prop} {X : zk_St} {R : List (Nat × zk_St)} {h1 h2 : List Nat} {t n : Nat} (h : zt_ald2 HT h1 h2 t n X = some R) : zk_R2 PT c HT M w0 (za_aldI t n) X R := by
  obtain ⟨⟨L, T0, F, B, C⟩, E, Tk⟩ := X
  unfold zt_ald2 at h
  split at h
  · rename_i d1 e i e0 T hT
    have hT : T0 = (0, d1, e) :: (2, i, e0) :: T := hT
    subst hT
    split at h
    · rename_i len lo hi hrs
      obtain ⟨hb, h⟩ := zz_cond h
      obtain ⟨b1, hb⟩ := zz_and hb
      obtain ⟨b1, b0⟩ := zz_and b1
      obtain ⟨b2, b3⟩ := zz_and hb
      intro K s f hpv hG
      obtain ⟨⟨g1, g2, g3, g4, g5, g6⟩, k1, k2⟩ := hG
      obtain ⟨p, lv, st, w⟩ := f
      obtain ⟨j, st1, q1, q2, q3⟩ := zk_st_int g2 rfl
      obtain ⟨v, st2, q4, q5, q6⟩ := zk_st_cons q3
      have e3 : v = .ref i := q5.2.2.1 rfl
      subst e3
      have hst : st = .int j :: .ref i :: st2 := by rw [← q4]; exact q1
      subst hst
      have q2 : j.toInt = zl_ev s e := q2
      have hj := zk_ix_ok b1 g4 g5 q2
      have hj0 : 0 ≤ zl_ev s e := zl_en_ok g4 g5 (zz_and b1).1
      have hjn := zk_nI (x := j) (by omega)
      obtain ⟨o1, o2, o3, o4, o5, o6⟩ := zk_rs_ok hrs (by decide) g6.1
      have o5 := o5 rfl _ hj
      have o5 := zk_sb_r (j := zz_nI j) (s := s) (e := e) (by omega) o5.1 o5.2
      have hel : (Int32.ofNat (zz_at 32 (zz_g w i).2.2.2 (zz_nI j))).toInt = zk_el w i (zl_ev s e) := by
        unfold zk_el
        rw [show (zl_ev s e).toNat = zz_nI j by omega]
      have hact : za_aldI t n K (p, lv, .int j :: .ref i :: st2, w) = some (n, lv, .int (Int32.ofNat (zz_at 32 (zz_g w i).2.2.2 (zz_nI j))) :: st2, w) := by
        show cond (zz_ir w i 0 t (zz_nI j)) (zz_fN (zz_at 32 (zz_g w i).2.2.2 (zz_nI j)) (fun v => some ((n, lv, .int (Int32.ofNat v) :: st2, w) : zz_F))) none = _
        rw [o6 _ hj, zz_fN_eq]
        rfl
      split at h
      · rename_i x hx
        have h : [(n, (((L, (0, 0, x) :: T, F, B, C), E, Tk) : zk_St))] = R := Option.some.inj h
        subst h
        have hx := (zk_ek_ok hx k1).2
        rw [zk_xe_r b0] at hx
        exact ⟨s, _, (n, ((L, (0, 0, x) :: T, F, B, C), E, Tk)), hact, List.mem_cons_self, rfl, ⟨⟨g1, ⟨zk_v_int (by rw [hel, hx]), q6⟩, g3, g4, g5, g6⟩, k1, k2⟩, Nat.le_refl _, fun _ _ => rfl⟩
      · split at h
        · rename_i A' hA
          have h : [(n, ((A', (i, e, zl_sym B.length) :: E, Tk) : zk_St))] = R := Option.some.inj h
          subst h
          obtain ⟨hl, s', hg, hs⟩ := zk_new_ok (I := zk_J c HT M w0) (x := Int32.ofNat (zz_at 32 (zz_g w i).2.2.2 (zz_nI j))) (n := n) (w := w) (lv := lv) hA g1 q6 g3 g4 g5 g6 o5.1 o5.2
          have hsym : (Int32.ofNat (zz_at 32 (zz_g w i).2.2.2 (zz_nI j))).toInt = zl_ev s' (zl_sym B.length) := by
            obtain ⟨-, hA⟩ := zz_cond hA
            cases hA
            obtain ⟨x, x1, x2⟩ := hg.2.1.1.1 rfl
            cases x1
            exact x2
          have hee : zl_ev s' e = zl_ev s e := zl_ev_eq (n := B.length) (zz_ble b3) hs
          refine ⟨s', _, (n, (A', (i, e, zl_sym B.length) :: E, Tk)), hact, List.mem_cons_self, rfl, ⟨hg, fun y hy => ?_, k2⟩, hl, hs⟩
          rcases List.mem_cons.mp hy with ey | hy
          · subst ey
            show 0 ≤ zl_ev s' e ∧ zk_xe w i (zl_ev s' e) = zl_ev s' (zl_sym B.length)
            rw [zk_xe_r b0, hee, ← hsym, hel]
            exact ⟨hj0, rfl⟩
          · exact zk_eW_eq b2 hs k1 y hy
        · cases h
    · cases h
  · cases h
/-- an element of a row of longs is looked at, its value is named -/
def zt_ald3 (HT : List (List zk_H)) (h1 h2 : List Nat) (t n : Nat) (X : zk_St) : Option (List (Nat × zk_St)) := match X.1.2.1 with
  | (0, _, e) :: (2, i, _) :: T => match zk_rs HT 1 t i, zv_LF i with
    | some (len, _, _), some u => cond ((zk_ix X.1 h1 h2 e len && zk_wf X.1.2.2.2.1.length X.1.1 T X.1.2.2.1 X.1.2.2.2.2) && ((zk_eW HT X.1.2.2.2.1.length X.2.1 && Nat.blt (zk_h HT i).1 3) && Nat.ble (zl_mx e.2) X.1.2.2.2.1.length)) (match zk_ek X.2.1 (2000000 + u) e with
      | some v => some [(n, ((X.1.1, (1, 1, v) :: T, X.1.2.2.1, X.1.2.2.2.1, X.1.2.2.2.2), X.2.1, X.2.2))]
      | none => some [(n, ((X.1.1, (1, 1, zl_sym X.1.2.2.2.1.length) :: T, X.1.2.2.1, X.1.2.2.2.1 ++ [(-9223372036854775808, 9223372036854775807)], X.1.2.2.2.2), (2000000 + u, e, zl_sym X.1.2.2.2.1.length) :: X.2.1, X.2.2))]) none
    | _, _ => none
  | _ => none
theorem zt_ald3_ok {c : Nat} {HT : List (List zk_H)} {M : zk_M} {w0 : zk_W0} {PT : Nat → zz_W → Prop} {X : zk_St} {R : List (Nat × zk_St)} {h1 h2 : List Nat} {t n : Nat} (h : zt_ald3 HT h1 h2 t n X = some R) : zk_R2 PT c HT M w0 (za_aldL t n) X R := by
  obtain ⟨⟨L, T0, F, B, C⟩, E, Tk⟩ := X
  unfold zt_ald3 at h
  split at h
  · rename_i d1 e i e0 T hT
    have hT : T0 = (0, d1, e) :: (2, i, e0) :: T := hT
    subst hT
    split at h
    · rename_i len lo hi u hrs hu
      obtain ⟨hb, h⟩ := zz_cond h
      obtain ⟨b1, hb⟩ := zz_and hb
      obtain ⟨b1, b0⟩ := zz_and b1
      obtain ⟨b2, b3⟩ := zz_and hb
      obtain ⟨b2, b4⟩ := zz_and b2
      intro K s f hpv hG
      obtain ⟨⟨g1, g2, g3, g4, g5, g6⟩, k1, k2⟩ := hG
      obtain ⟨p, lv, st, w⟩ := f
      obtain ⟨j, st1, q1, q2, q3⟩ := zk_st_int g2 rfl
      obtain ⟨v, st2, q4, q5, q6⟩ := zk_st_cons q3
      have e3 : v = .ref i := q5.2.2.1 rfl
      subst e3
      have hst : st = .int j :: .ref i :: st2 := by rw [← q4]; exact q1
      subst hst
      have q2 : j.toInt = zl_ev s e := q2
      have hj := zk_ix_ok b1 g4 g5 q2
      have hj0 : 0 ≤ zl_ev s e := zl_en_ok g4 g5 (zz_and b1).1
      have hjn := zk_nI (x := j) (by omega)
      obtain ⟨o1, o2, o3, o4, o5, o6⟩ := zk_rs_ok hrs (by decide) g6.1
      generalize hx : Int64.ofNat (zz_at 64 (zz_g w i).2.2.2 (zz_nI j)) = x
      have hel : x.toInt = zk_xe w (2000000 + u) (zl_ev s e) := by
        rw [zk_xe_h, zv_LF_ok hu]
        unfold zk_lel
        rw [show (zl_ev s e).toNat = zz_nI j by omega, hx]
      have hact : za_aldL t n K (p, lv, .int j :: .ref i :: st2, w) = some (n, lv, .long x :: st2, w) := by
        show cond (zz_ir w i 1 t (zz_nI j)) (zz_fN (zz_at 64 (zz_g w i).2.2.2 (zz_nI j)) (fun v => some ((n, lv, .long (Int64.ofNat v) :: st2, w) : zz_F))) none = _
        rw [o6 _ hj, zz_fN_eq, hx]
        rfl
      split at h
      · rename_i v hv
        have h : [(n, (((L, (1, 1, v) :: T, F, B, C), E, Tk) : zk_St))] = R := Option.some.inj h
        subst h
        have hv := (zk_ek_ok hv k1).2
        exact ⟨s, _, (n, ((L, (1, 1, v) :: T, F, B, C), E, Tk)), hact, List.mem_cons_self, rfl, ⟨⟨g1, ⟨zk_v_lv (by rw [hel, hv]), q6⟩, g3, g4, g5, g6⟩, k1, k2⟩, Nat.le_refl _, fun _ _ => rfl⟩
      · have h : [(n, (((L, (1, 1, zl_sym B.length) :: T, F, B ++ [(-9223372036854775808, 9223372036854775807)], C), (2000000 + u, e, zl_sym B.length) :: E, Tk) : zk_St))] = R := Option.some.inj h
        subst h
        have hag : ∀ j, j < B.length → (fun j => if j = B.length then x.toInt else s j) j = s j := fun j hj => if_neg (by omega)
        generalize hs' : (fun j => if j = B.length then x.toInt else s j) = s' at hag
        have hsB : s' B.length = x.toInt := by rw [← hs']; exact if_pos rfl
        obtain ⟨m1, m2, m3, m4⟩ := zk_wf_ok b0 hag g1 q6 g3 g5
        have hee : zl_ev s' e = zl_ev s e := zl_ev_eq (n := B.length) (zz_ble b3) hag
        have hlo := Int64.le_toInt x
        have hhi := Int64.toInt_lt x
        refine ⟨s', _, (n, ((L, (1, 1, zl_sym B.length) :: T, F, B ++ [(-9223372036854775808, 9223372036854775807)], C), (2000000 + u, e, zl_sym B.length) :: E, Tk)), hact, List.mem_cons_self, rfl, ⟨⟨m1, ⟨zk_v_lv (by rw [zl_sym_ev, hsB]), m2⟩, m3, zl_in_snoc (fun k q hk => ?_) ?_ ?_, m4, g6⟩, fun y hy => ?_, k2⟩, by show B.length ≤ (B ++ [_]).length; simp, hag⟩
        · have hk' : k < B.length := (List.getElem?_eq_some_iff.mp hk).1
          rw [hag k hk']
          exact g4 k q hk
        · rw [hsB]
          omega
        · rw [hsB]
          omega
        · rcases List.mem_cons.mp hy with ey | hy
          · subst ey
            show 0 ≤ zl_ev s' e ∧ zk_xe w (2000000 + u) (zl_ev s' e) = zl_ev s' (zl_sym B.length)
            rw [hee, zl_sym_ev, hsB, hel]
            exact ⟨hj0, rfl⟩
          · exact zk_eW_eq b2 hag k1 y hy
    · cases h
  · cases h
/-! TOKENS: laws of rows, element by element: rows, fields, cases (sums over: place, the rows' elements there, the fields) -/
abbrev zk_Sp : Type := List Nat × List (Nat × Nat) × List (List zl_E)
/-- the numbers that the sums speak of -/
def zk_al (w : zz_W) (rows : List Nat) (fields : List (Nat × Nat)) (j : Nat) : List Int := (j : Int) :: (rows.map (fun r => zk_el w r (j : Int)) ++ fields.map (fun q => (Int32.ofNat (zk_fd w q)).toInt))
def zk_P (HT : List (List zk_H)) (p : zk_Sp) (w : zz_W) : Prop := ∀ j : Nat, (∀ r ∈ p.1, j < (zk_h HT r).2.2.1) → ∃ d ∈ p.2.2, zk_cs (fun m => (zk_al w p.1 p.2.1 j).getD m 0) d
/-- laws of two places: the rows of the first place, 99999, the rows of the second -/
def zk_sp2 : List Nat → List Nat × List Nat
  | [] => ([], [])
  | r :: rs => cond (Nat.beq r 99999) ([], rs) (r :: (zk_sp2 rs).1, (zk_sp2 rs).2)
def zk_a1 (w : zz_W) (rows : List Nat) (j : Nat) : List Int := (j : Int) :: rows.map (fun r => zk_el w r (j : Int))
def zk_al2 (w : zz_W) (A B : List Nat) (fields : List (Nat × Nat)) (k j : Nat) : List Int := zk_a1 w A k ++ (zk_a1 w B j ++ fields.map (fun q => (Int32.ofNat (zk_fd w q)).toInt))
def zk_P2 (HT : List (List zk_H)) (p : zk_Sp) (w : zz_W) : Prop := ∀ k j : Nat, (∀ r ∈ (zk_sp2 p.1).1, k < (zk_h HT r).2.2.1) → (∀ r ∈ (zk_sp2 p.1).2, j < (zk_h HT r).2.2.1) → ∃ d ∈ p.2.2, zk_cs (fun m => (zk_al2 w (zk_sp2 p.1).1 (zk_sp2 p.1).2 p.2.1 k j).getD m 0) d
/-- LAWS OF WORLDS, shown by hand: tokens that are wanted; how many inputs; rows, each with the input that is its place; fields; cases: bounds of new numbers, sums, elements, tokens. Sums are over: inputs, the rows' elements, the fields, the new numbers -/
abbrev zx_Ca : Type := List (Int × Int) × List zl_E × List zk_E1 × List Nat
abbrev zx_L : Type := List Nat × Nat × List (Nat × Nat) × List (Nat × Nat) × List zx_Ca
def zx_vl (w : zz_W) (x : zx_L) (ins : List Int) : List Int := ins ++ (x.2.2.1.map (fun q => zk_xe w q.1 (ins.getD q.2 0)) ++ x.2.2.2.1.map (fun q => (Int32.ofNat (zk_fd w q)).toInt))
def zx_Lok (c : Nat) (HT : List (List zk_H)) (PT : Nat → zz_W → Prop) (x : zx_L) : Prop := ∀ w, zk_I c HT w → (∀ t ∈ x.1, PT t w) → ∀ ins : List Int, ins.length = x.2.1 → (∀ q ∈ x.2.2.1, 0 ≤ ins.getD q.2 0 ∧ (q.1 < 1000000 → ins.getD q.2 0 < ((zk_h HT q.1).2.2.1 : Int))) →
  ∃ d ∈ x.2.2.2.2, ∃ nw : List Int, nw.length = d.1.length ∧ (∀ (k : Nat) (q : Int × Int), d.1[k]? = some q → q.1 ≤ nw.getD k 0 ∧ nw.getD k 0 ≤ q.2) ∧ zk_cs (fun m => (zx_vl w x ins ++ nw).getD m 0) d.2.1 ∧ zk_eF (fun m => (zx_vl w x ins ++ nw).getD m 0) d.2.2.1 w ∧ ∀ t ∈ d.2.2.2, PT t w
/-- laws of writes: the token behind it; cell and field (999: an element of a row); tokens ahead; rows (elements at the place, behind); fields (behind, then ahead); sums over: place, elements, fields behind, fields ahead -/
abbrev zx_W : Type := Nat × (Nat × Nat) × List Nat × List Nat × List (Nat × Nat) × List zl_E
def zx_wl (w w' : zz_W) (y : zx_W) (j : Int) : List Int := j :: (y.2.2.2.1.map (fun r => zk_el w' r j) ++ (y.2.2.2.2.1.map (fun q => (Int32.ofNat (zk_fd w' q)).toInt) ++ y.2.2.2.2.1.map (fun q => (Int32.ofNat (zk_fd w q)).toInt)))
def zx_Wok (c : Nat) (HT : List (List zk_H)) (PT : Nat → zz_W → Prop) (y : zx_W) : Prop := ∀ w w' (j : Int), zk_I c HT w → zk_I c HT w' → 0 ≤ j → (y.2.1.2 = 999 → zk_rR y.2.1.1 j w w') → (y.2.1.2 ≠ 999 → zk_rF y.2.1.1 y.2.1.2 w w') → (∀ t ∈ y.2.2.1, PT t w) → zk_cs (fun m => (zx_wl w w' y j).getD m 0) y.2.2.2.2.2 → PT y.1 w'
/-- laws of writes that give known elements (virtual ones, functions by hand): the row; tokens ahead; how many inputs; rows, each with the input that is its place (ahead); sums; elements behind. Sums are over: place, the value behind, inputs, the rows' values ahead -/
abbrev zx_V : Type := Nat × List Nat × Nat × List (Nat × Nat) × List zl_E × List zk_E1
def zx_vv (w w' : zz_W) (y : zx_V) (j : Int) (ins : List Int) : List Int := j :: zk_el w' y.1 j :: (ins ++ y.2.2.2.1.map (fun q => zk_xe w q.1 (ins.getD q.2 0)))
def zx_Vok (c : Nat) (HT : List (List zk_H)) (PT : Nat → zz_W → Prop) (y : zx_V) : Prop := ∀ w w' (j : Int) (ins : List Int), zk_I c HT w → zk_I c HT w' → 0 ≤ j → zk_rR y.1 j w w' → (∀ t ∈ y.2.1, PT t w) → ins.length = y.2.2.1 → zk_cs (fun m => (zx_vv w w' y j ins).getD m 0) y.2.2.2.2.1 → zk_eF (fun m => (zx_vv w w' y j ins).getD m 0) y.2.2.2.2.2 w'
/-- laws of rows, of writes, of worlds, of writes again -/
abbrev zk_TY : Type := (Nat → Option zk_Sp) × (Nat → Option zx_W) × (Nat → Option zx_L) × (Nat → Option zx_V)
/-- what tokens are: they speak of the fields and rows (i, 999) that SU lists; some are laws of rows -/
def zk_TT (c : Nat) (HT : List (List zk_H)) (PT : Nat → zz_W → Prop) (SU : Nat → List (Nat × Nat)) (TS : zk_TY) : Prop :=
  (∀ t w w', zk_I c HT w → zk_I c HT w' → (∀ q ∈ SU t, q.2 ≠ 999 → zk_fd w' q = zk_fd w q) → (∀ q ∈ SU t, q.2 = 999 → zz_g w' q.1 = zz_g w q.1) → PT t w → PT t w') ∧ (∀ t p, t < 1000 → TS.1 t = some p → ∀ w, PT t w ↔ zk_P HT p w) ∧ (∀ t p, TS.1 (1000 + t) = some p → ∀ w, PT t w ↔ zk_P2 HT p w) ∧ (∀ j y, TS.2.1 j = some y → zx_Wok c HT PT y) ∧ (∀ j x, TS.2.2.1 j = some x → zx_Lok c HT PT x) ∧ ∀ j y, TS.2.2.2 j = some y → zx_Vok c HT PT y
/-- sums that are these numbers -/
def zk_sl2 (s : Nat → Int) (t : List zl_E) (l : List Int) : Prop := t.length = l.length ∧ ∀ (j : Nat) (q : zl_E), t[j]? = some q → l.getD j 0 = zl_ev s q
theorem zk_sl2_nil {s : Nat → Int} : zk_sl2 s [] [] := ⟨rfl, fun j q h => by cases h⟩
theorem zk_sl2_cons {s : Nat → Int} {e : zl_E} {t : List zl_E} {x : Int} {l : List Int} (h : x = zl_ev s e) (h2 : zk_sl2 s t l) : zk_sl2 s (e :: t) (x :: l) := by
  refine ⟨by rw [List.length_cons, List.length_cons, h2.1], fun j q hq => ?_⟩
  cases j with
  | zero =>
    cases hq
    exact h
  | succ j => exact h2.2 j q hq
theorem zk_sl2_app {s : Nat → Int} {t u : List zl_E} : ∀ {l m : List Int}, zk_sl2 s t l → zk_sl2 s u m → zk_sl2 s (t ++ u) (l ++ m) := by
  induction t with
  | nil =>
    intro l m h1 h2
    have : l = [] := List.length_eq_zero_iff.mp h1.1.symm
    subst this
    exact h2
  | cons e t ih =>
    intro l m h1 h2
    cases l with
    | nil => exact absurd h1.1 (by simp)
    | cons x l =>
      refine zk_sl2_cons (h1.2 0 e rfl) (ih ⟨by have := h1.1; simpa using this, fun j q hq => h1.2 (j + 1) q hq⟩ h2)
/-- the fields' sums -/
def zk_fsm (F : List ((Nat × Nat) × zk_V)) : List (Nat × Nat) → Option (List zl_E)
  | [] => some []
  | q :: r => match zk_fk F q.1 q.2, zk_fsm F r with
    | some (0, _, e), some l => some (e :: l)
    | _, _ => none
theorem zk_fsm_ok {s : Nat → Int} {F : List ((Nat × Nat) × zk_V)} {w : zz_W} (hF : zk_fl s F w) : ∀ {fs : List (Nat × Nat)} {l : List zl_E}, zk_fsm F fs = some l → zk_sl2 s l (fs.map (fun q => (Int32.ofNat (zk_fd w q)).toInt))
  | [], l, h => by
    cases h
    exact zk_sl2_nil
  | q :: r, l, h => by
    unfold zk_fsm at h
    split at h
    · rename_i b e l' h1 h2
      cases h
      exact zk_sl2_cons ((hF _ (zk_fk_mem h1)).1 rfl) (zk_fsm_ok hF h2)
    · cases h
/-- the rows' elements at e, if all are known -/
def zk_esm (E : List zk_E1) (e : zl_E) : List Nat → Option (List zl_E)
  | [] => some []
  | r :: rs => cond (Nat.blt r 1000000) (match zk_ek E r e, zk_esm E e rs with
    | some v, some l => some (v :: l)
    | _, _ => none) none
theorem zk_esm_ok {s : Nat → Int} {E : List zk_E1} {w : zz_W} {e : zl_E} {j : Nat} (hE : zk_eF s E w) (hj : (j : Int) = zl_ev s e) : ∀ {rs : List Nat} {l : List zl_E}, zk_esm E e rs = some l → zk_sl2 s l (rs.map (fun r => zk_el w r (j : Int)))
  | [], l, h => by
    cases h
    exact zk_sl2_nil
  | r :: rs, l, h => by
    unfold zk_esm at h
    obtain ⟨b0, h⟩ := zz_cond h
    split at h
    · rename_i v l' h1 h2
      cases h
      refine zk_sl2_cons ?_ (zk_esm_ok hE hj h2)
      have := (zk_ek_ok h1 hE).2
      rw [zk_xe_r b0] at this
      rw [hj]
      exact this
    · cases h
/-- a token is told at a place: the cases -/
def zk_ins (A : zk_A) (t : List zl_E) : List (List zl_E) → List (List Nat) → Option (List zk_A)
  | [], _ => some []
  | d :: ds, hs => cond (d.all (fun c => Nat.ble (zl_mx c.2) t.length)) (match zk_ins A t ds (hs.drop 1) with
    | some R => some (zk_and A A.2.1 (hs.getD 0 []) (d.map (zl_subst t)) ++ R)
    | none => none) none
theorem zk_ins_ok {I : zz_W → Prop} {A : zk_A} {t : List zl_E} {s : Nat → Int} {l : List Int} (hl : zk_sl2 s t l) {p : Nat} {lv : List (Nat × Value)} {st : List Value} {w : zz_W} (hG : zk_G I s A (p, lv, st, w)) : ∀ {ds : List (List zl_E)} {hs : List (List Nat)} {R : List zk_A}, zk_ins A t ds hs = some R → ∀ d ∈ ds, zk_cs (fun m => l.getD m 0) d → ∃ A' ∈ R, zk_G I s A' (p, lv, st, w) ∧ A.2.2.2.1.length ≤ A'.2.2.2.1.length
  | [], _, _, _, d, hd, _ => absurd hd List.not_mem_nil
  | d0 :: ds, hs, R, h, d, hd, hc => by
    unfold zk_ins at h
    obtain ⟨hb, h⟩ := zz_cond h
    split at h
    · rename_i R' hR
      cases h
      rcases List.mem_cons.mp hd with e | hd
      · subst e
        obtain ⟨g1, g2, g3, g4, g5, g6⟩ := hG
        obtain ⟨A', m1, m2, m3⟩ := zk_and_ok (I := I) (A := A) (T := A.2.1) (hs := hs.getD 0 []) (cs := d.map (zl_subst t)) (n := p) g1 g2 g3 g4 g5 g6 (fun c hc' => by
          obtain ⟨c0, c1, c2⟩ := List.mem_map.mp hc'
          subst c2
          rw [zl_subst_ev (u := fun m => l.getD m 0) (zz_ble (List.all_eq_true.mp hb c0 c1)) hl.2]
          exact hc c0 c1)
        exact ⟨A', List.mem_append_left _ m1, m2, m3⟩
      · obtain ⟨A', m1, m2, m3⟩ := zk_ins_ok hl hG hR d hd hc
        exact ⟨A', List.mem_append_right _ m1, m2, m3⟩
    · cases h
/-- tell the token t at the place e: hints of the place's bounds, then of the cases -/
def zk_tel (HT : List (List zk_H)) (TS : zk_TY) (X : zk_St) (t : Nat) (e : zl_E) (hs : List (List Nat)) : Option (List zk_St) := match TS.1 t with
  | some p => match zk_esm X.2.1 e p.1, zk_fsm X.1.2.2.1 p.2.1 with
    | some vs, some fs => cond ((Nat.blt t 1000 && X.2.2.any (Nat.beq t)) && (zl_en X.1.2.2.2.1 X.1.2.2.2.2 (hs.getD 0 []) e && p.1.all (fun r => zl_en X.1.2.2.2.1 X.1.2.2.2.2 (hs.getD 1 []) (zl_sub (zl_con (((zk_h HT r).2.2.1 : Int) - 1)) e)))) (match zk_ins X.1 (e :: (vs ++ fs)) p.2.2 (hs.drop 2) with
      | some R => some (R.map (fun A => (A, X.2.1, X.2.2)))
      | none => none) none
    | _, _ => none
  | none => none
theorem zk_any_beq {t : Nat} {K : List Nat} (h : K.any (Nat.beq t) = true) : t ∈ K := by
  obtain ⟨x, h1, h2⟩ := List.any_eq_true.mp h
  rw [zz_beq h2]
  exact h1
theorem zk_tel_ok {c : Nat} {HT : List (List zk_H)} {PT : Nat → zz_W → Prop} {SU : Nat → List (Nat × Nat)} {TS : zk_TY} (hTT : zk_TT c HT PT SU TS) {I : zz_W → Prop} {X : zk_St} {t : Nat} {e : zl_E} {hs : List (List Nat)} {R : List zk_St} (h : zk_tel HT TS X t e hs = some R) {s : Nat → Int} {f : zz_F} (hG : zk_G2 PT I s X f) : ∃ X' ∈ R, zk_G2 PT I s X' f ∧ X.1.2.2.2.1.length ≤ X'.1.2.2.2.1.length := by
  unfold zk_tel at h
  split at h
  · rename_i p hp
    split at h
    · rename_i vs fs h1 h2
      obtain ⟨hb, h⟩ := zz_cond h
      obtain ⟨b1, hb⟩ := zz_and hb
      obtain ⟨b0, b1⟩ := zz_and b1
      obtain ⟨b2, b3⟩ := zz_and hb
      split at h
      · rename_i R' hR
        cases h
        obtain ⟨g1, k1, k2⟩ := hG
        have hP := (hTT.2.1 t p (zz_blt b0) hp _).mp (k2 t (zk_any_beq b1))
        have c1 := zl_en_ok g1.2.2.2.1 g1.2.2.2.2.1 b2
        have hj : ((zl_ev s e).toNat : Int) = zl_ev s e := by omega
        obtain ⟨d, d1, d2⟩ := hP (zl_ev s e).toNat (fun r hr => by
          have := zl_en_ok g1.2.2.2.1 g1.2.2.2.2.1 (List.all_eq_true.mp b3 r hr)
          rw [zl_sub_ev, zl_con_ev] at this
          omega)
        obtain ⟨p0, lv, st, w⟩ := f
        obtain ⟨A', m1, m2, m3⟩ := zk_ins_ok (zk_sl2_cons hj (zk_sl2_app (zk_esm_ok k1 hj h1) (zk_fsm_ok g1.2.2.1 h2))) g1 hR d d1 d2
        exact ⟨(A', X.2.1, X.2.2), List.mem_map.mpr ⟨A', m1, rfl⟩, ⟨m2, k1, k2⟩, m3⟩
      · cases h
    · cases h
  · cases h
/-- tell a law of two places at e1, e2 -/
def zk_tel2 (HT : List (List zk_H)) (TS : zk_TY) (X : zk_St) (t : Nat) (e1 e2 : zl_E) (hs : List (List Nat)) : Option (List zk_St) := match TS.1 (1000 + t) with
  | some p => match zk_esm X.2.1 e1 (zk_sp2 p.1).1, zk_esm X.2.1 e2 (zk_sp2 p.1).2, zk_fsm X.1.2.2.1 p.2.1 with
    | some va, some vb, some fs => cond (X.2.2.any (Nat.beq t) && ((zl_en X.1.2.2.2.1 X.1.2.2.2.2 (hs.getD 0 []) e1 && (zk_sp2 p.1).1.all (fun r => zl_en X.1.2.2.2.1 X.1.2.2.2.2 (hs.getD 1 []) (zl_sub (zl_con (((zk_h HT r).2.2.1 : Int) - 1)) e1))) && (zl_en X.1.2.2.2.1 X.1.2.2.2.2 (hs.getD 2 []) e2 && (zk_sp2 p.1).2.all (fun r => zl_en X.1.2.2.2.1 X.1.2.2.2.2 (hs.getD 3 []) (zl_sub (zl_con (((zk_h HT r).2.2.1 : Int) - 1)) e2))))) (match zk_ins X.1 ((e1 :: va) ++ ((e2 :: vb) ++ fs)) p.2.2 (hs.drop 4) with
      | some R => some (R.map (fun A => (A, X.2.1, X.2.2)))
      | none => none) none
    | _, _, _ => none
  | none => none
theorem zk_tel2_ok {c : Nat} {HT : List (List zk_H)} {PT : Nat → zz_W → Prop} {SU : Nat → List (Nat × Nat)} {TS : zk_TY} (hTT : zk_TT c HT PT SU TS) {I : zz_W → Prop} {X : zk_St} {t : Nat} {e1 e2 : zl_E} {hs : List (List Nat)} {R : List zk_St} (h : zk_tel2 HT TS X t e1 e2 hs = some R) {s : Nat → Int} {f : zz_F} (hG : zk_G2 PT I s X f) : ∃ X' ∈ R, zk_G2 PT I s X' f ∧ X.1.2.2.2.1.length ≤ X'.1.2.2.2.1.length := by
  unfold zk_tel2 at h
  split at h
  · rename_i p hp
    split at h
    · rename_i va vb fs h1 h2 h3
      obtain ⟨hb, h⟩ := zz_cond h
      obtain ⟨b1, hb⟩ := zz_and hb
      obtain ⟨hb1, hb2⟩ := zz_and hb
      obtain ⟨b2, b3⟩ := zz_and hb1
      obtain ⟨b4, b5⟩ := zz_and hb2
      split at h
      · rename_i R' hR
        cases h
        obtain ⟨g1, k1, k2⟩ := hG
        have hP := (hTT.2.2.1 t p hp _).mp (k2 t (zk_any_beq b1))
        have c1 := zl_en_ok g1.2.2.2.1 g1.2.2.2.2.1 b2
        have c2 := zl_en_ok g1.2.2.2.1 g1.2.2.2.2.1 b4
        have hj1 : ((zl_ev s e1).toNat : Int) = zl_ev s e1 := by omega
        have hj2 : ((zl_ev s e2).toNat : Int) = zl_ev s e2 := by omega
        obtain ⟨d, d1, d2⟩ := hP (zl_ev s e1).toNat (zl_ev s e2).toNat (fun r hr => by
          have := zl_en_ok g1.2.2.2.1 g1.2.2.2.2.1 (List.all_eq_true.mp b3 r hr)
          rw [zl_sub_ev, zl_con_ev] at this
          omega) (fun r hr => by
          have := zl_en_ok g1.2.2.2.1 g1.2.2.2.2.1 (List.all_eq_true.mp b5 r hr)
          rw [zl_sub_ev, zl_con_ev] at this
          omega)
        obtain ⟨p0, lv, st, w⟩ := f
        obtain ⟨A', m1, m2, m3⟩ := zk_ins_ok (zk_sl2_app (zk_sl2_cons hj1 (zk_esm_ok k1 hj1 h1)) (zk_sl2_app (zk_sl2_cons hj2 (zk_esm_ok k1 hj2 h2)) (zk_fsm_ok g1.2.2.1 h3))) g1 hR d d1 d2
        exact ⟨(A', X.2.1, X.2.2), List.mem_map.mpr ⟨A', m1, rfl⟩, ⟨m2, k1, k2⟩, m3⟩
      · cases h
    · cases h
  · cases h
end
