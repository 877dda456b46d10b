/-! THE CHECK OF A METHOD: cut frames, roads between them that the kernel goes, a number that gets less; then the method keeps its contract -/
noncomputable section
theorem zk_st_len {s : Nat → Int} : ∀ {T : List zk_V} {st : List Value}, zk_st s T st → st.length = T.length
  | [], [], _ => rfl
  | [], _ :: _, h => h.elim
  | _ :: _, [], h => h.elim
  | a :: T, v :: st, h => by
    rw [List.length_cons, List.length_cons, zk_st_len h.2]
theorem zk_st_split {s : Nat → Int} : ∀ {A B : List zk_V} {st : List Value}, zk_st s (A ++ B) st → ∃ x y, st = x ++ y ∧ zk_st s A x ∧ zk_st s B y
  | [], B, st, h => ⟨[], st, rfl, trivial, h⟩
  | a :: A, B, [], h => h.elim
  | a :: A, B, v :: st, h => by
    obtain ⟨x, y, e, h1, h2⟩ := zk_st_split (A := A) h.2
    exact ⟨v :: x, y, by rw [e]; rfl, ⟨h.1, h1⟩, h2⟩
theorem zk_st_rev {s : Nat → Int} : ∀ {A : List zk_V} {st : List Value}, zk_st s A st → zk_st s A.reverse st.reverse
  | [], [], _ => trivial
  | [], _ :: _, h => h.elim
  | _ :: _, [], h => h.elim
  | a :: A, v :: st, h => by
    rw [List.reverse_cons, List.reverse_cons]
    exact zk_st_app (zk_st_rev h.2) ⟨h.1, trivial⟩
/-- a return's kind fits the operands -/
def zk_ret (A : zk_A) (hs : List (List Nat)) (k : Nat) : Bool := match k, A.2.1 with
  | 1, [] => true
  | 2, [(0, _, _)] => true
  | 3, [(0, _, e)] => zl_en A.2.2.2.1 A.2.2.2.2 (hs.getD 1 []) e && zl_en A.2.2.2.1 A.2.2.2.2 (hs.getD 2 []) (zl_sub (zl_con 1) e)
  | 4, [(1, _, _)] => true
  | 5, [(2, _, _)] => true
  | 5, [(3, _, _)] => true
  | 6, [(0, _, e)] => zl_en A.2.2.2.1 A.2.2.2.2 (hs.getD 1 []) e && zl_en A.2.2.2.1 A.2.2.2.2 (hs.getD 2 []) (zl_sub (zl_con 65535) e)
  | 7, [(0, _, e)] => zl_en A.2.2.2.1 A.2.2.2.2 (hs.getD 1 []) e && zl_en A.2.2.2.1 A.2.2.2.2 (hs.getD 2 []) (zl_sub (zl_con 127) e)
  | _, _ => false
theorem zk_ret_ok {I : zz_W → Prop} {A : zk_A} {hs : List (List Nat)} {k : Nat} {T : zz_T} {s : Nat → Int} {f : zz_F} (h : zk_ret A hs k = true) (hk : (zz_ent T f.1).1 = k) (hG : zk_G I s A f) : zz_rt T f = some (f.2.2.1, f.2.2.2) := by
  obtain ⟨L, T0, F, B, C⟩ := A
  obtain ⟨p, lv, st, w⟩ := f
  obtain ⟨g1, g2, g3, g4, g5, g6⟩ := hG
  change zk_st s T0 st at g2
  change (zz_ent T p).1 = k at hk
  unfold zk_ret at h
  split at h
  · rename_i hT
    have hT : T0 = [] := hT
    subst hT
    cases st with
    | nil =>
      unfold zz_rt
      rw [show (zz_ent T ((p, lv, [], w) : zz_F).1).1 = 1 from hk]
      rfl
    | cons _ _ => exact g2.elim
  · rename_i d e hT
    have hT : T0 = [(0, d, e)] := hT
    subst hT
    obtain ⟨x, r, q1, -, q3⟩ := zk_st_int g2 rfl
    subst q1
    cases r with
    | nil =>
      unfold zz_rt
      rw [show (zz_ent T ((p, lv, [Value.int x], w) : zz_F).1).1 = 2 from hk]
      rfl
    | cons _ _ => exact q3.elim
  · rename_i d e hT
    have hT : T0 = [(0, d, e)] := hT
    subst hT
    obtain ⟨x, r, q1, q2, q3⟩ := zk_st_int g2 rfl
    subst q1
    obtain ⟨b1, b2⟩ := zz_and h
    have c1 := zl_en_ok g4 g5 b1
    have c2 := zl_en_ok g4 g5 b2
    rw [zl_sub_ev, zl_con_ev] at c2
    have q2 : x.toInt = zl_ev s e := q2
    have hn := zk_nI (x := x) (by omega)
    have hb : Nat.blt (zz_nI x) 2 = true := Nat.ble_eq.mpr (by omega)
    cases r with
    | nil =>
      unfold zz_rt
      rw [show (zz_ent T ((p, lv, [Value.int x], w) : zz_F).1).1 = 3 from hk]
      show cond (Nat.blt (zz_nI x) 2) (some ([Value.int x], w)) none = _
      rw [hb]
      rfl
    | cons _ _ => exact q3.elim
  · rename_i d e hT
    have hT : T0 = [(1, d, e)] := hT
    subst hT
    obtain ⟨x, r, q1, q3⟩ := zk_st_long g2 rfl
    subst q1
    cases r with
    | nil =>
      unfold zz_rt
      rw [show (zz_ent T ((p, lv, [Value.long x], w) : zz_F).1).1 = 4 from hk]
      rfl
    | cons _ _ => exact q3.elim
  · rename_i d e hT
    have hT : T0 = [(2, d, e)] := hT
    subst hT
    obtain ⟨v, r, q1, q2, q3⟩ := zk_st_cons g2
    have e3 : v = .ref d := q2.2.2.1 rfl
    subst e3
    subst q1
    cases r with
    | nil =>
      unfold zz_rt
      rw [show (zz_ent T ((p, lv, [Value.ref d], w) : zz_F).1).1 = 5 from hk]
      rfl
    | cons _ _ => exact q3.elim
  · rename_i d e hT
    have hT : T0 = [(3, d, e)] := hT
    subst hT
    obtain ⟨v, r, q1, q2, q3⟩ := zk_st_cons g2
    have e3 : v = .null := q2.2.2.2 rfl
    subst e3
    subst q1
    cases r with
    | nil =>
      unfold zz_rt
      rw [show (zz_ent T ((p, lv, [Value.null], w) : zz_F).1).1 = 5 from hk]
      rfl
    | cons _ _ => exact q3.elim
  · rename_i d e hT
    have hT : T0 = [(0, d, e)] := hT
    subst hT
    obtain ⟨x, r, q1, q2, q3⟩ := zk_st_int g2 rfl
    subst q1
    obtain ⟨b1, b2⟩ := zz_and h
    have c1 := zl_en_ok g4 g5 b1
    have c2 := zl_en_ok g4 g5 b2
    rw [zl_sub_ev, zl_con_ev] at c2
    have q2 : x.toInt = zl_ev s e := q2
    have hn := zk_nI (x := x) (by omega)
    have hb : Nat.blt (zz_nI x) 65536 = true := Nat.ble_eq.mpr (by omega)
    cases r with
    | nil =>
      unfold zz_rt
      rw [show (zz_ent T ((p, lv, [Value.int x], w) : zz_F).1).1 = 6 from hk]
      show cond (Nat.blt (zz_nI x) 65536) (some ([Value.int x], w)) none = _
      rw [hb]
      rfl
    | cons _ _ => exact q3.elim
  · rename_i d e hT
    have hT : T0 = [(0, d, e)] := hT
    subst hT
    obtain ⟨x, r, q1, q2, q3⟩ := zk_st_int g2 rfl
    subst q1
    obtain ⟨b1, b2⟩ := zz_and h
    have c1 := zl_en_ok g4 g5 b1
    have c2 := zl_en_ok g4 g5 b2
    rw [zl_sub_ev, zl_con_ev] at c2
    have q2 : x.toInt = zl_ev s e := q2
    have hn := zk_nI (x := x) (by omega)
    have hb : Nat.blt (zz_nI x) 128 = true := Nat.ble_eq.mpr (by omega)
    cases r with
    | nil =>
      unfold zz_rt
      rw [show (zz_ent T ((p, lv, [Value.int x], w) : zz_F).1).1 = 7 from hk]
      show cond (Nat.blt (zz_nI x) 128) (some ([Value.int x], w)) none = _
      rw [hb]
      rfl
    | cons _ _ => exact q3.elim
  · cases h
/-- hints of one place: what is done (0: go on; 1: a token is told; 2: a sum's sign; 3: a field is followed; 4: closer bounds; 5: a sum is rounded; 6: it can't be; 7: an element is known; 8: a cut frame is passed by), of the instruction, of an edge, of tokens -/
abbrev zk_Hn : Type := Nat × List (List Nat) × zk_Eh × List zk_Cv
/-- cut frames: place, state, the number that gets less -/
abbrev zk_Cu : Type := Nat × zk_St × zl_E
def zk_cut (cs : List zk_Cu) (pc n : Nat) : Option zk_Cu := match cs with
  | [] => none
  | q :: r => cond (Nat.beq q.1 pc) (cond (Nat.beq n 0) (some q) (zk_cut r pc (n - 1))) (zk_cut r pc n)
theorem zk_cut_mem {pc : Nat} {q : zk_Cu} : ∀ {cs : List zk_Cu} {n : Nat}, zk_cut cs pc n = some q → q ∈ cs ∧ q.1 = pc
  | [], _, h => by cases h
  | c :: r, n, h => by
    unfold zk_cut at h
    cases hb : Nat.beq c.1 pc with
    | true =>
      rw [hb] at h
      cases hn : Nat.beq n 0 with
      | true =>
        rw [hn] at h
        cases h
        exact ⟨List.mem_cons_self, zz_beq hb⟩
      | false =>
        rw [hn] at h
        obtain ⟨h1, h2⟩ := zk_cut_mem (show zk_cut r pc (n - 1) = some q from h)
        exact ⟨List.mem_cons_of_mem _ h1, h2⟩
    | false =>
      rw [hb] at h
      obtain ⟨h1, h2⟩ := zk_cut_mem (show zk_cut r pc n = some q from h)
      exact ⟨List.mem_cons_of_mem _ h1, h2⟩
/-- a contract: before, behind (one of these), the fields and rows that may change, the least depth -/
abbrev zk_Ct : Type := zk_St × List zk_St × zk_M × Nat
/-- the least depth: a number; from 1000000 on (k + 1) * 1000000 + m: m and 20 times symbol k -/
def zk_dep (n : Nat) : zl_E := cond (Nat.blt n 1000000) (zl_con (n : Int)) (zl_add (zl_con ((n % 1000000 : Nat) : Int)) (zl_mul 20 (zl_sym (n / 1000000 - 1))))
theorem zk_dep_n {n : Nat} (h : Nat.blt n 1000000 = true) : zk_dep n = zl_con (n : Int) := by
  unfold zk_dep
  rw [h]
  rfl
/-- the depth of what is called, t: its symbols, is at most dm's -/
def zk_dok (B : List (Int × Int)) (t : List zl_E) (n dm : Nat) : Bool := cond (Nat.blt n 1000000 && Nat.blt dm 1000000) (Nat.ble n dm) (Nat.ble (zl_mx (zk_dep n).2) t.length && zl_pos B (zl_sub (zk_dep dm) (zl_subst t (zk_dep n))))
theorem zk_dok_ok {s : Nat → Int} {B : List (Int × Int)} {t : List zl_E} {n dm : Nat} (h : zk_dok B t n dm = true) (hB : zl_in s B) : zl_ev (zk_u s t) (zk_dep n) ≤ zl_ev s (zk_dep dm) := by
  unfold zk_dok at h
  cases hb : (Nat.blt n 1000000 && Nat.blt dm 1000000) with
  | true =>
    rw [hb] at h
    obtain ⟨b1, b2⟩ := zz_and hb
    rw [zk_dep_n b1, zk_dep_n b2, zl_con_ev, zl_con_ev]
    have := zz_ble (show Nat.ble n dm = true from h)
    omega
  | false =>
    rw [hb] at h
    obtain ⟨b1, b2⟩ := zz_and (show (Nat.ble (zl_mx (zk_dep n).2) t.length && zl_pos B (zl_sub (zk_dep dm) (zl_subst t (zk_dep n)))) = true from h)
    have h1 := zl_pos_ok hB b2
    rw [zl_sub_ev, zl_subst_ev (u := zk_u s t) (zz_ble b1) zk_u_at] at h1
    omega
/-- what a callee lets change may change here; t: its symbols -/
def zk_pc (M : zk_M) (B : List (Int × Int)) (C : List zl_E) (t : List zl_E) (i : Nat) (p : Nat × zl_E) : Bool := Nat.ble (zl_mx p.2.2) t.length && ((!(Nat.beq p.1 i) || M.2.any (fun m => (Nat.beq m.1 i && zl_nul (zl_sub m.2 (zl_subst t p.2))) || (Nat.beq m.1 (i + 10000000) && zl_gq B C (zl_sub (zl_subst t p.2) m.2)))) && (!(Nat.beq p.1 (i + 10000000)) || M.2.any (fun m => Nat.beq m.1 (i + 10000000) && zl_gq B C (zl_sub (zl_subst t p.2) m.2))))
def zk_sbc (M N : zk_M) (B : List (Int × Int)) (C : List zl_E) (t : List zl_E) : Bool := N.1.all (fun x => cond (Nat.beq x.2 998) (zk_inM M.1 x.1 999 || (zk_inM M.1 x.1 998 && N.2.all (fun p => zk_pc M B C t x.1 p))) (zk_inM M.1 x.1 x.2))
theorem zk_sbc_ok {M N : zk_M} {B : List (Int × Int)} {C : List zl_E} {t : List zl_E} {s : Nat → Int} {V : List (Nat × Int)} (h : zk_sbc M N B C t = true) (hB : zl_in s B) (hC : ∀ c ∈ C, 0 ≤ zl_ev s c) (hpv : zk_pv s M.2 V) : zk_sub M N V (N.2.map (fun p => (p.1, zl_ev (zk_u s t) p.2))) := by
  refine ⟨fun q hq h8 => ?_, fun i hi => ?_⟩
  · have h1 := List.all_eq_true.mp h q hq
    have hb : Nat.beq q.2 998 = false := by
      cases hb : Nat.beq q.2 998 with
      | false => rfl
      | true => exact absurd (zz_beq hb) h8
    rw [hb] at h1
    exact zk_inM_ok h1
  · have h1 := List.all_eq_true.mp h (i, 998) hi
    have h1 : (zk_inM M.1 i 999 || (zk_inM M.1 i 998 && N.2.all (fun p => zk_pc M B C t i p))) = true := h1
    rcases Bool.or_eq_true_iff.mp h1 with h2 | h2
    · exact Or.inl (zk_inM_ok h2)
    · obtain ⟨b1, b2⟩ := zz_and h2
      refine Or.inr ⟨zk_inM_ok b1, fun m hm => ⟨fun hin => ?_, fun y hin => ?_⟩⟩
      · obtain ⟨p, p1, p2⟩ := List.mem_map.mp hin
        have e1 : p.1 = i := congrArg Prod.fst p2
        have e2 : zl_ev (zk_u s t) p.2 = m := congrArg Prod.snd p2
        obtain ⟨c1, c2⟩ := zz_and (List.all_eq_true.mp b2 p p1)
        obtain ⟨c2, -⟩ := zz_and c2
        rcases Bool.or_eq_true_iff.mp c2 with h3 | h3
        · exact zk_nbq h3 e1
        · obtain ⟨x, x1, x2⟩ := List.any_eq_true.mp h3
          have h5 := hpv x x1
          rcases Bool.or_eq_true_iff.mp x2 with x2 | x2
          · obtain ⟨d1, d2⟩ := zz_and x2
            have h4 := zl_nul_ok (s := s) d2
            rw [zl_sub_ev, zl_subst_ev (u := zk_u s t) (zz_ble c1) zk_u_at, e2] at h4
            rw [zz_beq d1, show zl_ev s x.2 = m by omega] at h5
            exact hm.1 h5
          · obtain ⟨d1, d2⟩ := zz_and x2
            have h4 := zl_gq_ok hB hC d2
            rw [zl_sub_ev, zl_subst_ev (u := zk_u s t) (zz_ble c1) zk_u_at, e2] at h4
            rw [zz_beq d1] at h5
            have := hm.2 _ h5
            omega
      · obtain ⟨p, p1, p2⟩ := List.mem_map.mp hin
        have e1 : p.1 = i + 10000000 := congrArg Prod.fst p2
        have e2 : zl_ev (zk_u s t) p.2 = y := congrArg Prod.snd p2
        obtain ⟨c1, c2⟩ := zz_and (List.all_eq_true.mp b2 p p1)
        obtain ⟨-, c2⟩ := zz_and c2
        rcases Bool.or_eq_true_iff.mp c2 with h3 | h3
        · exact absurd e1 (zk_nbq h3)
        · obtain ⟨x, x1, x2⟩ := List.any_eq_true.mp h3
          have h5 := hpv x x1
          obtain ⟨d1, d2⟩ := zz_and x2
          have h4 := zl_gq_ok hB hC d2
          rw [zl_sub_ev, zl_subst_ev (u := zk_u s t) (zz_ble c1) zk_u_at, e2] at h4
          rw [zz_beq d1] at h5
          have := hm.2 _ h5
          omega
/-- a call: what comes in fits the contract; what goes out -/
def zk_cok (HT : List (List zk_H)) (TS : zk_TY) (M : zk_M) (X : zk_St) (as R : List zk_V) (q : zk_Ct) (dm : Nat) (h : zk_Eh) (cv : List zk_Cv) : Bool :=
  zk_edg2 HT TS (([], as, X.1.2.2.1, X.1.2.2.2.1, X.1.2.2.2.2), X.2.1, X.2.2) q.1 h cv && (zk_dok X.1.2.2.2.1 h.1 q.2.2.2 dm && (zk_sbc M q.2.2.1 X.1.2.2.2.1 X.1.2.2.2.2 h.1 && (zk_wf X.1.2.2.2.1.length X.1.1 R X.1.2.2.1 X.1.2.2.2.2 && (h.1.all (fun e => Nat.ble (zl_mx e.2) X.1.2.2.2.1.length) && (X.1.2.2.1.all (fun x => Nat.beq (zk_h HT x.1.1).1 3 && Nat.blt x.1.2 998) && (Nat.ble (zk_cz R) 8 && (zk_t3 R && (zk_eW HT X.1.2.2.2.1.length X.2.1 && q.2.1.all (fun Q => zk_wq Q.1 && (zk_eW HT Q.1.2.2.2.1.length Q.2.1 && Nat.ble q.1.1.2.2.2.1.length Q.1.2.2.2.1.length))))))))))
/-- one of its sums is a number below 0: there is no such frame -/
def zk_fal (A : zk_A) : Bool := A.2.2.2.2.any (fun e => match zl_c e with
  | some v => decide (v < 0)
  | none => false)
theorem zk_fal_ok {I : zz_W → Prop} {s : Nat → Int} {A : zk_A} {f : zz_F} (h : zk_G I s A f) : zk_fal A = false := by
  cases hb : zk_fal A with
  | false => rfl
  | true =>
    obtain ⟨e, e1, e2⟩ := List.any_eq_true.mp hb
    have h5 := h.2.2.2.2.1 e e1
    split at e2
    · rename_i v hv
      have h6 : v < 0 := of_decide_eq_true e2
      rw [zl_c_ok hv] at h5
      omega
    · cases e2
/-- what the tokens speak of is left -/
def zk_lft (HT : List (List zk_H)) (N L : List (Nat × Nat)) : Bool := L.all (fun q => !(zk_inM N q.1 q.2) && cond (Nat.beq q.2 999) (Nat.blt (zk_h HT q.1).1 3 && !(zk_inM N q.1 998)) (Nat.beq (zk_h HT q.1).1 3 && Nat.blt q.2 998))
def zk_out2 (HT : List (List zk_H)) (SU : Nat → List (Nat × Nat)) (X : zk_St) (R : List zk_V) (t : List zl_E) (m : Nat) (N : zk_M) (Q : zk_St) : zk_St :=
  let t' := t ++ zk_syms X.1.2.2.2.1.length (Q.1.2.2.2.1.length - m)
  (zk_out X.1 R t m N Q.1, X.2.1.filter (fun x => (zk_rws x.1).all (fun r => !(zk_inM N.1 r 999) && !(zk_inM N.1 r 998)) || zk_kep N X.1.2.2.2.1 X.1.2.2.2.2 t x) ++ Q.2.1.map (fun x => (x.1, zl_subst t' x.2.1, zl_subst t' x.2.2)), X.2.2.filter (fun k => zk_lft HT N.1 (SU k)) ++ Q.2.2)
theorem zk_ninM {M : List (Nat × Nat)} {i k : Nat} (h : (!(zk_inM M i k)) = true) : (i, k) ∉ M := by
  intro hin
  rw [zk_inM_mem hin] at h
  cases h
theorem zk_lft_ok {c : Nat} {HT : List (List zk_H)} {PT : Nat → zz_W → Prop} {SU : Nat → List (Nat × Nat)} {TS : zk_TY} (hTT : zk_TT c HT PT SU TS) {N : zk_M} {k : Nat} {w w' : zz_W} {V : List (Nat × Int)} (h : zk_lft HT N.1 (SU k) = true) (hI : zk_I c HT w) (hJ : zk_J c HT N (w, V) w') (hP : PT k w) : PT k w' := by
  refine hTT.1 k w w' hI hJ.1 (fun q hq h9 => ?_) (fun q hq h9 => ?_) hP
  · obtain ⟨b1, b2⟩ := zz_and (List.all_eq_true.mp h q hq)
    have hb : Nat.beq q.2 999 = false := by
      cases hb : Nat.beq q.2 999 with
      | false => rfl
      | true => exact absurd (zz_beq hb) h9
    rw [hb] at b2
    obtain ⟨b2, b4⟩ := zz_and (show (Nat.beq (zk_h HT q.1).1 3 && Nat.blt q.2 998) = true from b2)
    have h3 : (zk_h HT q.1).1 = 3 := zz_beq b2
    obtain ⟨o1, o2, -⟩ := hI.2.2.2 q.1 (by omega)
    exact hJ.2.1.1 q.1 q.2 (zz_blt b4) (zk_ninM b1) o1 (by rw [o2]; exact h3)
  · obtain ⟨b1, b2⟩ := zz_and (List.all_eq_true.mp h q hq)
    rw [h9] at b1 b2
    obtain ⟨b2, b4⟩ := zz_and (show (Nat.blt (zk_h HT q.1).1 3 && !(zk_inM N.1 q.1 998)) = true from b2)
    have h3 : (zk_h HT q.1).1 < 3 := zz_blt b2
    obtain ⟨o1, o2, -⟩ := hI.2.2.2 q.1 (by omega)
    exact (hJ.2.1.2 q.1 (zk_ninM b1) o1 (by rw [o2]; omega)).1 (zk_ninM b4)
def zk_cal (HT : List (List zk_H)) (SU : Nat → List (Nat × Nat)) (TS : zk_TY) (M : zk_M) (X : zk_St) (as R : List zk_V) (q : zk_Ct) (dm n : Nat) (h : zk_Eh) (cv : List zk_Cv) : Option (List (Nat × zk_St)) :=
  cond (zk_cok HT TS M X as R q dm h cv) (some ((q.2.1.map (fun Q => (n, zk_out2 HT SU X R h.1 q.1.1.2.2.2.1.length q.2.2.1 Q))).filter (fun x => !(zk_fal x.2.1)))) none
/-- which contract of the method y: y + 1000 j -/
def zk_yj (y : Nat) (h : List (List Nat)) : Nat := y + 1000 * ((h.getD 0 []).getD 0 0)
theorem zk_yj_ok {y : Nat} {h : List (List Nat)} (hy : Nat.blt y 1000 = true) : zk_yj y h % 1000 = y := by
  have := zz_blt hy
  unfold zk_yj
  omega
def zk_stp (HT : List (List zk_H)) (M : zk_M) (SU : Nat → List (Nat × Nat)) (TS : zk_TY) (CT : Nat → Option zk_Ct) (dm : Nat) (i : zi) (X : zk_St) (h : zk_Hn) : Option (List (Nat × zk_St)) :=
  cond (Nat.beq i.1 /-CV-/71) (match X.1.2.1.drop (zi_p i.2.1 3), CT (zk_yj (zi_p i.2.1 2) h.2.1) with
    | (2, b, e) :: R, some q => cond (Nat.beq (X.1.2.1.take (zi_p i.2.1 3)).length (zi_p i.2.1 3) && (Nat.blt (zi_p i.2.1 2) 1000 && (Nat.beq (zk_h HT b).1 3 && Nat.beq (zk_h HT b).2.1 (zi_p i.2.1 1)))) (zk_cal HT SU TS M X ((2, b, e) :: (X.1.2.1.take (zi_p i.2.1 3)).reverse) R q dm (zi_p i.2.1 0) h.2.2.1 h.2.2.2) none
    | _, _ => none)
  (cond (Nat.beq i.1 /-CS-/72) (match CT (zk_yj (zi_p i.2.1 1) h.2.1) with
    | some q => cond (Nat.beq (X.1.2.1.take (zi_p i.2.1 2)).length (zi_p i.2.1 2) && Nat.blt (zi_p i.2.1 1) 1000) (zk_cal HT SU TS M X (X.1.2.1.take (zi_p i.2.1 2)).reverse (X.1.2.1.drop (zi_p i.2.1 2)) q dm (zi_p i.2.1 0) h.2.2.1 h.2.2.2) none
    | none => none)
  (cond (Nat.beq i.1 /-CK-/79) (match X.1.2.1.drop (zi_p i.2.1 2), CT (zk_yj (zi_p i.2.1 1) h.2.1) with
    | (2, b, e) :: R, some q => cond (Nat.beq (X.1.2.1.take (zi_p i.2.1 2)).length (zi_p i.2.1 2) && (Nat.blt (zi_p i.2.1 1) 1000 && zz_kg zS b)) (zk_cal HT SU TS M X ((2, b, e) :: (X.1.2.1.take (zi_p i.2.1 2)).reverse) R q dm (zi_p i.2.1 0) h.2.2.1 h.2.2.2) none
    | _, _ => none)
  (zi_st HT M SU TS h.2.1 h.2.2.2 i X)))
/-- one place: home, or where it goes on -/
def zk_e1 (HT : List (List zk_H)) (M : zk_M) (SU : Nat → List (Nat × Nat)) (TS : zk_TY) (CT : Nat → Option zk_Ct) (code : List (List zi)) (ps : List zk_St) (mg dm : Nat) (pc : Nat) (X : zk_St) (h : zk_Hn) : Option (List (Nat × zk_St)) :=
  cond (Nat.blt 200 (zi_at code pc).1 && Nat.blt (zi_at code pc).1 208)
    (match ps[(h.2.1.getD 0 []).getD 0 0]? with
      | some Q => cond (zk_ret X.1 h.2.1 ((zi_at code pc).1 - 200) && (zk_edg2 HT TS (([], X.1.2.1, X.1.2.2.1, X.1.2.2.2.1, X.1.2.2.2.2), X.2.1, X.2.2) Q h.2.2.1 h.2.2.2 && zk_gh mg 0 h.2.2.1.1)) (some []) none
      | none => none)
    (cond (Nat.blt (zi_at code pc).1 /-N-/87) (zk_stp HT M SU TS CT dm (zi_at code pc) X h) none)
/-- a sum's sign: both states -/
def zk_spl (X : zk_St) (e : zl_E) (hs : List (List Nat)) : List zk_St := (zk_and X.1 X.1.2.1 (hs.getD 0 []) [e]).map (fun A => (A, X.2.1, X.2.2)) ++ (zk_and X.1 X.1.2.1 (hs.getD 1 []) [zl_sub (zl_con (-1)) e]).map (fun A => (A, X.2.1, X.2.2))
theorem zk_spl_ok {PT : Nat → zz_W → Prop} {I : zz_W → Prop} {X : zk_St} {e : zl_E} {hs : List (List Nat)} {s : Nat → Int} {f : zz_F} (hG : zk_G2 PT I s X f) : ∃ Y ∈ zk_spl X e hs, zk_G2 PT I s Y f ∧ X.1.2.2.2.1.length ≤ Y.1.2.2.2.1.length := by
  obtain ⟨⟨g1, g2, g3, g4, g5, g6⟩, k1, k2⟩ := hG
  obtain ⟨p, lv, st, w⟩ := f
  by_cases h0 : 0 ≤ zl_ev s e
  · obtain ⟨A', m1, m2, m3⟩ := zk_and_ok (I := I) (A := X.1) (T := X.1.2.1) (hs := hs.getD 0 []) (cs := [e]) (n := p) g1 g2 g3 g4 g5 g6 (fun c hc => by rw [List.mem_singleton.mp hc]; exact h0)
    exact ⟨(A', X.2.1, X.2.2), List.mem_append_left _ (List.mem_map.mpr ⟨A', m1, rfl⟩), ⟨m2, k1, k2⟩, m3⟩
  · obtain ⟨A', m1, m2, m3⟩ := zk_and_ok (I := I) (A := X.1) (T := X.1.2.1) (hs := hs.getD 1 []) (cs := [zl_sub (zl_con (-1)) e]) (n := p) g1 g2 g3 g4 g5 g6 (fun c hc => by rw [List.mem_singleton.mp hc, zl_sub_ev, zl_con_ev]; omega)
    exact ⟨(A', X.2.1, X.2.2), List.mem_append_right _ (List.mem_map.mpr ⟨A', m1, rfl⟩), ⟨m2, k1, k2⟩, m3⟩
/-- a field is followed from here on -/
def zk_fo2 (HT : List (List zk_H)) (X : zk_St) (ci i k : Nat) : Option zk_St := match zk_fol HT ci i k X.1 with
  | some A => cond (zk_eW HT X.1.2.2.2.1.length X.2.1) (some (A, X.2.1, X.2.2)) none
  | none => none
theorem zk_fo2_ok {c : Nat} {HT : List (List zk_H)} {PT : Nat → zz_W → Prop} {I : zz_W → Prop} (hI : ∀ w, I w → zk_I c HT w) {X Y : zk_St} {ci i k : Nat} (h : zk_fo2 HT X ci i k = some Y) {s : Nat → Int} {f : zz_F} (hG : zk_G2 PT I s X f) : X.1.2.2.2.1.length ≤ Y.1.2.2.2.1.length ∧ ∃ s' : Nat → Int, zk_G2 PT I s' Y f ∧ ∀ j, j < X.1.2.2.2.1.length → s' j = s j := by
  unfold zk_fo2 at h
  split at h
  · rename_i A hA
    obtain ⟨hw, h⟩ := zz_cond h
    cases h
    obtain ⟨p, lv, st, w⟩ := f
    obtain ⟨g1, k1, k2⟩ := hG
    obtain ⟨m1, s', m2, m3⟩ := zk_fol_ok hI hA g1
    exact ⟨m1, s', ⟨m2, zk_eW_eq hw m3 k1, k2⟩, m3⟩
  · cases h
/-- an element is known from here on -/
def zk_kno (HT : List (List zk_H)) (X : zk_St) (r : Nat) (e : zl_E) (h1 h2 : List Nat) : Option zk_St := match zk_rs HT 0 (zk_h HT r).2.1 r with
  | some (len, lo, hi) => cond ((zk_ix X.1 h1 h2 e len && Nat.blt r 1000000) && (zk_eW HT X.1.2.2.2.1.length X.2.1 && Nat.ble (zl_mx e.2) X.1.2.2.2.1.length)) (match zk_new X.1 X.1.2.1 (zk_sb (zk_h HT r).2.2.2.2.2 lo hi e).1 (zk_sb (zk_h HT r).2.2.2.2.2 lo hi e).2 with
    | some A => some ((A.1, X.1.2.1, A.2.2.1, A.2.2.2.1, A.2.2.2.2), (r, e, zl_sym X.1.2.2.2.1.length) :: X.2.1, X.2.2)
    | none => none) none
  | none => none
theorem zk_kno_ok {c : Nat} {HT : List (List zk_H)} {PT : Nat → zz_W → Prop} {I : zz_W → Prop} (hI : ∀ w, I w → zk_I c HT w) {X Y : zk_St} {r : Nat} {e : zl_E} {h1 h2 : List Nat} (h : zk_kno HT X r e h1 h2 = some Y) {s : Nat → Int} {f : zz_F} (hG : zk_G2 PT I s X f) : X.1.2.2.2.1.length ≤ Y.1.2.2.2.1.length ∧ ∃ s' : Nat → Int, zk_G2 PT I s' Y f ∧ ∀ j, j < X.1.2.2.2.1.length → s' j = s j := by
  unfold zk_kno at h
  split at h
  · rename_i len lo hi hrs
    obtain ⟨hb, h⟩ := zz_cond h
    obtain ⟨b1, hb⟩ := zz_and hb
    obtain ⟨b1, b0⟩ := zz_and b1
    obtain ⟨b2, b3⟩ := zz_and hb
    split at h
    · rename_i A hA
      cases h
      obtain ⟨⟨g1, g2, g3, g4, g5, g6⟩, k1, k2⟩ := hG
      obtain ⟨p, lv, st, w⟩ := f
      obtain ⟨c1, c2⟩ := zz_and b1
      have c1 := zl_en_ok g4 g5 c1
      have c2 := zl_en_ok g4 g5 c2
      rw [zl_sub_ev, zl_con_ev] at c2
      obtain ⟨o1, o2, o3, o4, o5, o6⟩ := zk_rs_ok hrs (by decide) (hI _ g6)
      have o5 := o5 rfl (zl_ev s e).toNat (by omega)
      have o5 := zk_sb_r (j := (zl_ev s e).toNat) (s := s) (e := e) (by omega) o5.1 o5.2
      obtain ⟨hl, s', hg, hs⟩ := zk_new_ok (I := I) (x := Int32.ofNat (zz_at 32 (zz_g w r).2.2.2 (zl_ev s e).toNat)) (n := p) (w := w) (lv := lv) hA g1 g2 g3 g4 g5 g6 o5.1 o5.2
      obtain ⟨j1, j2, j3, j4, j5, j6⟩ := hg
      have hT : A.2.1 = (0, 0, zl_sym X.1.2.2.2.1.length) :: X.1.2.1 := by
        obtain ⟨-, hA⟩ := zz_cond hA
        cases hA
        rfl
      rw [hT] at j2
      have hsym : (Int32.ofNat (zz_at 32 (zz_g w r).2.2.2 (zl_ev s e).toNat)).toInt = zl_ev s' (zl_sym X.1.2.2.2.1.length) := by
        obtain ⟨y, y1, y2⟩ := j2.1.1 rfl
        cases y1
        exact y2
      have hee : zl_ev s' e = zl_ev s e := zl_ev_eq (n := X.1.2.2.2.1.length) (zz_ble b3) hs
      refine ⟨hl, s', ⟨⟨j1, j2.2, j3, j4, j5, j6⟩, fun y hy => ?_, k2⟩, hs⟩
      rcases List.mem_cons.mp hy with ey | hy
      · subst ey
        show 0 ≤ zl_ev s' e ∧ zk_xe w r (zl_ev s' e) = zl_ev s' (zl_sym X.1.2.2.2.1.length)
        rw [zk_xe_r b0, hee, ← hsym]
        exact ⟨c1, rfl⟩
      · exact zk_eW_eq b2 hs k1 y hy
    · cases h
  · cases h
/-- closer bounds of a symbol -/
def zk_nrw (X : zk_St) (k : Nat) (lo hi : Int) (h1 h2 : List Nat) : Option zk_St :=
  cond (zl_en X.1.2.2.2.1 X.1.2.2.2.2 h1 (zl_sub (zl_sym k) (zl_con lo)) && zl_en X.1.2.2.2.1 X.1.2.2.2.2 h2 (zl_sub (zl_con hi) (zl_sym k))) (some ((X.1.1, X.1.2.1, X.1.2.2.1, X.1.2.2.2.1.set k (lo, hi), X.1.2.2.2.2), X.2.1, X.2.2)) none
theorem zk_nrw_ok {PT : Nat → zz_W → Prop} {I : zz_W → Prop} {X Y : zk_St} {k : Nat} {lo hi : Int} {h1 h2 : List Nat} (h : zk_nrw X k lo hi h1 h2 = some Y) {s : Nat → Int} {f : zz_F} (hG : zk_G2 PT I s X f) : zk_G2 PT I s Y f ∧ X.1.2.2.2.1.length ≤ Y.1.2.2.2.1.length := by
  obtain ⟨hb, h⟩ := zz_cond h
  cases h
  obtain ⟨b1, b2⟩ := zz_and hb
  obtain ⟨⟨g1, g2, g3, g4, g5, g6⟩, k1, k2⟩ := hG
  have c1 := zl_en_ok g4 g5 b1
  have c2 := zl_en_ok g4 g5 b2
  rw [zl_sub_ev, zl_sym_ev, zl_con_ev] at c1 c2
  refine ⟨⟨⟨g1, g2, g3, fun j q hq => ?_, g5, g6⟩, k1, k2⟩, Nat.le_of_eq (by show _ = (X.1.2.2.2.1.set k (lo, hi)).length; rw [List.length_set])⟩
  have hq : (X.1.2.2.2.1.set k (lo, hi))[j]? = some q := hq
  by_cases hj : k = j
  · subst hj
    by_cases hlt : k < X.1.2.2.2.1.length
    · rw [List.getElem?_set_self hlt] at hq
      cases hq
      constructor <;> omega
    · rw [List.getElem?_eq_none (by rw [List.length_set]; omega)] at hq
      cases hq
  · rw [List.getElem?_set_ne hj] at hq
    exact g4 j q hq
/-- an int as a number -/
def zl_iN (c : Int) : zl_N := match c with
  | .ofNat n => (n, 0)
  | .negSucc n => (0, n + 1)
theorem zl_iN_nv (c : Int) : zl_nv (zl_iN c) = c := by
  rw [zl_nv_eq]
  unfold zl_iN
  split
  · rename_i n
    show (n : Int) - ((0 : Nat) : Int) = (n : Int)
    omega
  · rename_i n
    rw [Int.negSucc_eq]
    show ((0 : Nat) : Int) - ((n + 1 : Nat) : Int) = -((n : Int) + 1)
    omega
def zl_rd (d : Int) (e : zl_E) : zl_E := (zl_iN (zl_nv e.1 / d), zl_mp (fun x => zl_iN (zl_nv x / d)) e.2)
def zl_dv (d : Int) (l : List (Nat × zl_N)) : Bool := List.rec (motive := fun _ => Bool) true (fun c _ ih => decide (zl_nv c.2 % d = 0) && ih) l
theorem zl_rd_dt (s : Nat → Int) (d : Int) : ∀ (a : List (Nat × zl_N)), zl_dv d a = true → zl_dt s a = d * zl_dt s (zl_mp (fun x => zl_iN (zl_nv x / d)) a)
  | [], _ => by
    show (0 : Int) = d * 0
    omega
  | c :: r, h => by
    obtain ⟨h1, h2⟩ := zz_and (show (decide (zl_nv c.2 % d = 0) && zl_dv d r) = true from h)
    have h1 : zl_nv c.2 % d = 0 := of_decide_eq_true h1
    show zl_nv c.2 * s c.1 + zl_dt s r = d * (zl_nv (zl_iN (zl_nv c.2 / d)) * s c.1 + zl_dt s (zl_mp (fun x => zl_iN (zl_nv x / d)) r))
    rw [zl_rd_dt s d r h2, zl_iN_nv, Int.mul_add, ← Int.mul_assoc]
    have := Int.mul_ediv_add_emod (zl_nv c.2) d
    rw [h1, Int.add_zero] at this
    rw [this]
theorem zl_rd_ok {s : Nat → Int} {d : Int} {e : zl_E} (hd : 0 < d) (h : zl_dv d e.2 = true) (h0 : 0 ≤ zl_ev s e) : 0 ≤ zl_ev s (zl_rd d e) := by
  have h1 : zl_ev s e = zl_nv e.1 + zl_dt s e.2 := rfl
  rw [h1, zl_rd_dt s d e.2 h] at h0
  show 0 ≤ zl_nv (zl_iN (zl_nv e.1 / d)) + zl_dt s (zl_mp (fun x => zl_iN (zl_nv x / d)) e.2)
  rw [zl_iN_nv]
  have h2 := Int.mul_ediv_add_emod (zl_nv e.1) d
  have h3 := Int.emod_lt_of_pos (zl_nv e.1) hd
  generalize zl_dt s (zl_mp (fun x => zl_iN (zl_nv x / d)) e.2) = t at h0 ⊢
  generalize zl_nv e.1 = x at h0 h2 h3 ⊢
  by_cases h4 : 0 ≤ x / d + t
  · exact h4
  · exfalso
    have h5 : x / d + t ≤ -1 := by omega
    have h6 : d * (x / d + t) ≤ d * (-1) := Int.mul_le_mul_of_nonneg_left h5 (by omega)
    rw [Int.mul_add] at h6
    omega
def zk_rnd (X : zk_St) (d : Nat) (e : zl_E) (h : List Nat) : Option zk_St :=
  cond (Nat.blt 0 d && (zl_dv (d : Int) e.2 && zl_en X.1.2.2.2.1 X.1.2.2.2.2 h e)) (some ((X.1.1, X.1.2.1, X.1.2.2.1, X.1.2.2.2.1, zl_rd d e :: X.1.2.2.2.2), X.2.1, X.2.2)) none
theorem zk_rnd_ok {PT : Nat → zz_W → Prop} {I : zz_W → Prop} {X Y : zk_St} {d : Nat} {e : zl_E} {h1 : List Nat} (h : zk_rnd X d e h1 = some Y) {s : Nat → Int} {f : zz_F} (hG : zk_G2 PT I s X f) : zk_G2 PT I s Y f ∧ X.1.2.2.2.1.length ≤ Y.1.2.2.2.1.length := by
  obtain ⟨hb, h⟩ := zz_cond h
  cases h
  obtain ⟨b1, hb⟩ := zz_and hb
  obtain ⟨b2, b3⟩ := zz_and hb
  have b1 := zz_blt b1
  obtain ⟨⟨g1, g2, g3, g4, g5, g6⟩, k1, k2⟩ := hG
  refine ⟨⟨⟨g1, g2, g3, g4, fun c hc => ?_, g6⟩, k1, k2⟩, Nat.le_refl _⟩
  rcases List.mem_cons.mp hc with ec | hc
  · rw [ec]
    exact zl_rd_ok (by omega) b2 (zl_en_ok g4 g5 b3)
  · exact g5 c hc
/-- some are left out: those with 1 -/
def zk_flt {α : Type} : List α → List Nat → List α
  | x :: l, k :: ks => cond (Nat.beq k 0) (x :: zk_flt l ks) (zk_flt l ks)
  | l, [] => l
  | [], _ :: _ => []
theorem zk_flt_mem {α : Type} {y : α} : ∀ {l : List α} {ks : List Nat}, y ∈ zk_flt l ks → y ∈ l
  | x :: l, k :: ks, h => by
    have h : y ∈ cond (Nat.beq k 0) (x :: zk_flt l ks) (zk_flt l ks) := h
    cases hb : Nat.beq k 0 with
    | true =>
      rw [hb] at h
      rcases List.mem_cons.mp h with e | h
      · rw [e]
        exact List.mem_cons_self
      · exact List.mem_cons_of_mem _ (zk_flt_mem h)
    | false =>
      rw [hb] at h
      exact List.mem_cons_of_mem _ (zk_flt_mem h)
  | [], [], h => h
  | _ :: _, [], h => h
  | [], _ :: _, h => h
/-- fields, sums, elements, tokens are left out -/
def zk_les (X : zk_St) (hs : List (List Nat)) : zk_St := ((X.1.1, X.1.2.1, zk_flt X.1.2.2.1 (hs.getD 0 []), X.1.2.2.2.1, zk_flt X.1.2.2.2.2 (hs.getD 1 [])), zk_flt X.2.1 (hs.getD 2 []), zk_flt X.2.2 (hs.getD 3 []))
theorem zk_les_ok {PT : Nat → zz_W → Prop} {I : zz_W → Prop} {X : zk_St} {hs : List (List Nat)} {s : Nat → Int} {f : zz_F} (hG : zk_G2 PT I s X f) : zk_G2 PT I s (zk_les X hs) f := by
  obtain ⟨⟨g1, g2, g3, g4, g5, g6⟩, k1, k2⟩ := hG
  exact ⟨⟨g1, g2, fun q hq => g3 q (zk_flt_mem hq), g4, fun c hc => g5 c (zk_flt_mem hc), g6⟩, fun x hx => k1 x (zk_flt_mem hx), fun t ht => k2 t (zk_flt_mem ht)⟩
/-- what goes on in the same frame: bounds, rounding -/
def zk_sam (X : zk_St) (t : Nat) (hs : List (List Nat)) (es : List zl_E) : Option zk_St := match t with
  | 4 => zk_nrw X ((hs.getD 0 []).getD 0 0) (zl_nv (es.getD 0 (zl_con 0)).1) (zl_nv (es.getD 1 (zl_con 0)).1) (hs.getD 1 []) (hs.getD 2 [])
  | 5 => zk_rnd X ((hs.getD 0 []).getD 0 0) (es.getD 0 (zl_con 0)) (hs.getD 1 [])
  | _ => none
theorem zk_sam_ok {PT : Nat → zz_W → Prop} {I : zz_W → Prop} {X Y : zk_St} {t : Nat} {hs : List (List Nat)} {es : List zl_E} (h : zk_sam X t hs es = some Y) {s : Nat → Int} {f : zz_F} (hG : zk_G2 PT I s X f) : zk_G2 PT I s Y f ∧ X.1.2.2.2.1.length ≤ Y.1.2.2.2.1.length := by
  unfold zk_sam at h
  split at h
  · exact zk_nrw_ok h hG
  · exact zk_rnd_ok h hG
  · cases h
/-- roads: all of these states come to cut frames with a lesser number, or home; a state with true goes on from a cut frame -/
def zk_ex (HT : List (List zk_H)) (M : zk_M) (SU : Nat → List (Nat × Nat)) (TS : zk_TY) (CT : Nat → Option zk_Ct) (code : List (List zi)) (cs : List zk_Cu) (ps : List zk_St) (mg dm : Nat) (mu : zl_E) : Nat → List (Bool × Nat × zk_St) → List zk_Hn → Bool
  | _, [], _ => true
  | 0, _ :: _, _ => false
  | _ + 1, _ :: _, [] => false
  | k + 1, x :: W, h :: hs => match h.1 with
    | 1 => match zk_tel HT TS x.2.2 ((h.2.1.getD 0 []).getD 0 0) (h.2.2.1.1.getD 0 (zl_con 0)) (h.2.1.drop 1) with
      | some R => zk_ex HT M SU TS CT code cs ps mg dm mu k (R.map (fun Y => (x.1, x.2.1, Y)) ++ W) hs
      | none => false
    | 3 => match zk_fo2 HT x.2.2 ((h.2.1.getD 0 []).getD 0 0) ((h.2.1.getD 0 []).getD 1 0) ((h.2.1.getD 0 []).getD 2 0) with
      | some Y => zk_ex HT M SU TS CT code cs ps mg dm mu k ((x.1, x.2.1, Y) :: W) hs
      | none => false
    | 7 => match zk_kno HT x.2.2 ((h.2.1.getD 0 []).getD 0 0) (h.2.2.1.1.getD 0 (zl_con 0)) (h.2.1.getD 1 []) (h.2.1.getD 2 []) with
      | some Y => zk_ex HT M SU TS CT code cs ps mg dm mu k ((x.1, x.2.1, Y) :: W) hs
      | none => false
    | 6 => zl_en x.2.2.1.2.2.2.1 x.2.2.1.2.2.2.2 (h.2.1.getD 0 []) (zl_con (-1)) && zk_ex HT M SU TS CT code cs ps mg dm mu k W hs
    | 4 => match zk_sam x.2.2 4 h.2.1 h.2.2.1.1 with
      | some Y => zk_ex HT M SU TS CT code cs ps mg dm mu k ((x.1, x.2.1, Y) :: W) hs
      | none => false
    | 5 => match zk_sam x.2.2 5 h.2.1 h.2.2.1.1 with
      | some Y => zk_ex HT M SU TS CT code cs ps mg dm mu k ((x.1, x.2.1, Y) :: W) hs
      | none => false
    | 2 => zk_ex HT M SU TS CT code cs ps mg dm mu k ((zk_spl x.2.2 (h.2.2.1.1.getD 0 (zl_con 0)) h.2.1).map (fun Y => (x.1, x.2.1, Y)) ++ W) hs
    | 8 => zk_ex HT M SU TS CT code cs ps mg dm mu k ((true, x.2.1, x.2.2) :: W) hs
    | 10 => zk_ex HT M SU TS CT code cs ps mg dm mu k ((x.1, x.2.1, zk_les x.2.2 h.2.1) :: W) hs
    | 11 => match zk_lawp HT TS x.2.2 ((h.2.1.getD 0 []).getD 0 0) h.2.2.1.1 (h.2.1.drop 1) h.2.2.1.2.1 with
      | some R => zk_ex HT M SU TS CT code cs ps mg dm mu k (R.map (fun Y => (x.1, x.2.1, Y)) ++ W) hs
      | none => false
    | 12 => match zk_cng x.2.2 ((h.2.1.getD 0 []).getD 0 0) ((h.2.1.getD 0 []).getD 1 0) (h.2.1.getD 1 []) (h.2.1.getD 2 []) with
      | some Y => zk_ex HT M SU TS CT code cs ps mg dm mu k ((x.1, x.2.1, Y) :: W) hs
      | none => false
    | 13 => match zk_vx x.2.2 (h.2.1.getD 0 []) h.2.2.1.1 (h.2.1.drop 1) with
      | some Y => zk_ex HT M SU TS CT code cs ps mg dm mu k ((x.1, x.2.1, Y) :: W) hs
      | none => false
    | 9 => match zk_tel2 HT TS x.2.2 ((h.2.1.getD 0 []).getD 0 0) (h.2.2.1.1.getD 0 (zl_con 0)) (h.2.2.1.1.getD 1 (zl_con 0)) (h.2.1.drop 1) with
      | some R => zk_ex HT M SU TS CT code cs ps mg dm mu k (R.map (fun Y => (x.1, x.2.1, Y)) ++ W) hs
      | none => false
    | _ => match cond x.1 none (zk_cut cs x.2.1 ((h.2.1.getD 1 []).getD 0 0)) with
      | some q => zk_edg2 HT TS x.2.2 q.2.1 h.2.2.1 h.2.2.2 && (zk_gh mg 0 h.2.2.1.1 && (Nat.ble (zl_mx q.2.2.2) h.2.2.1.1.length && (zl_en x.2.2.1.2.2.2.1 x.2.2.1.2.2.2.2 (h.2.1.getD 0 []) (zl_sub (zl_sub mu (zl_subst h.2.2.1.1 q.2.2)) (zl_con 1)) && zk_ex HT M SU TS CT code cs ps mg dm mu k W hs)))
      | none => match zk_e1 HT M SU TS CT code ps mg dm x.2.1 x.2.2 h with
        | some R => zk_ex HT M SU TS CT code cs ps mg dm mu k (R.map (fun Y => (false, Y.1, Y.2)) ++ W) hs
        | none => false
section ZKM
variable {l : Launch} {Ts : List Cond} {D : va_G} {cl : List vw_C} {fk : Nat → Nat → Nat} {cy : Nat → ClassId} {z0 : Nat} {sp : Nat → Nat} {tys : List (ClassId × FieldType)} {G : State → Prop}
variable {yn : Nat → MethodName} {cn : Nat → ByteArray} {ml : Nat → Nat} {rt : Nat → Option FieldType}
/-- the method y keeps the contract q -/
def zk_CA (l : Launch) (Ts : List Cond) (D : va_G) (cl : List vw_C) (fk : Nat → Nat → Nat) (cy : Nat → ClassId) (z0 : Nat) (sp : Nat → Nat) (tys : List (ClassId × FieldType)) (G : State → Prop) (yn : Nat → MethodName) (cn : Nat → ByteArray) (ml : Nat → Nat) (rt : Nat → Option FieldType) (c : Nat) (HT : List (List zk_H)) (PT : Nat → zz_W → Prop) (d y : Nat) (q : zk_Ct) : Prop :=
  ∀ (as : List Value) (w : zz_W) (s : Nat → Int), zl_ev s (zk_dep q.2.2.2) ≤ (d : Int) → zk_G2 PT (zk_I c HT) s q.1 (0, [], as, w) →
    ∃ (rv : List Value) (w' : zz_W) (s' : Nat → Int) (Q : zk_St), Q ∈ q.2.1 ∧ zz_M l Ts D cl fk cy z0 sp tys G yn cn ml rt d y as w rv w' ∧ zk_G2 PT (zk_J c HT q.2.2.1 (w, q.2.2.1.2.map (fun p => (p.1, zl_ev s p.2)))) s' Q (0, [], rv, w') ∧ ∀ j, j < q.1.1.2.2.2.1.length → s' j = s j
def zk_Con (l : Launch) (Ts : List Cond) (D : va_G) (cl : List vw_C) (fk : Nat → Nat → Nat) (cy : Nat → ClassId) (z0 : Nat) (sp : Nat → Nat) (tys : List (ClassId × FieldType)) (G : State → Prop) (yn : Nat → MethodName) (cn : Nat → ByteArray) (ml : Nat → Nat) (rt : Nat → Option FieldType) (c : Nat) (HT : List (List zk_H)) (PT : Nat → zz_W → Prop) (y : Nat) (q : zk_Ct) : Prop := ∀ d : Nat, zk_CA l Ts D cl fk cy z0 sp tys G yn cn ml rt c HT PT d y q
/-- a frame that comes home -/
def zk_Gd (l : Launch) (Ts : List Cond) (D : va_G) (cl : List vw_C) (fk : Nat → Nat → Nat) (cy : Nat → ClassId) (z0 : Nat) (sp : Nat → Nat) (tys : List (ClassId × FieldType)) (G : State → Prop) (own mn : String) (nL : Nat) (cc : ByteArray) (d : Nat) (T : zz_T) (PT : Nat → zz_W → Prop) (I : zz_W → Prop) (ps : List zk_St) (mg : Nat) (s0 : Nat → Int) (f : zz_F) : Prop :=
  ∃ (fr : zz_F) (s' : Nat → Int) (Q : zk_St), zz_B l Ts D cl fk cy z0 sp tys G own mn nL cc d f fr ∧ zz_rt T fr = some (fr.2.2.1, fr.2.2.2) ∧ Q ∈ ps ∧ zk_G2 PT I s' Q (0, [], fr.2.2.1, fr.2.2.2) ∧ ∀ j, j < mg → s' j = s0 j
theorem zk_Gd_B {own mn : String} {nL : Nat} {cc : ByteArray} {d : Nat} {T : zz_T} {PT : Nat → zz_W → Prop} {I : zz_W → Prop} {ps : List zk_St} {mg : Nat} {s0 : Nat → Int} {f g : zz_F} (hB : zz_B l Ts D cl fk cy z0 sp tys G own mn nL cc d f g) (h : zk_Gd l Ts D cl fk cy z0 sp tys G own mn nL cc d T PT I ps mg s0 g) : zk_Gd l Ts D cl fk cy z0 sp tys G own mn nL cc d T PT I ps mg s0 f := by
  obtain ⟨fr, s', Q, h1, h2⟩ := h
  exact ⟨fr, s', Q, zz_B_tr hB h1, h2⟩
theorem zk_out2_ok {c : Nat} {HT : List (List zk_H)} {PT : Nat → zz_W → Prop} {SU : Nat → List (Nat × Nat)} {TS : zk_TY} (hTT : zk_TT c HT PT SU TS) {M N : zk_M} {w0 : zk_W0} {w w' : zz_W} {V : List (Nat × Int)} {X Q : zk_St} {R : List zk_V} {t : List zl_E} {m p' n : Nat} {lv lq : List (Nat × Value)} {r rv : List Value} {s s' : Nat → Int} (hV : V = N.2.map (fun p => (p.1, zl_ev (zk_u s t) p.2)))
    (hw : zk_wf X.1.2.2.2.1.length X.1.1 R X.1.2.2.1 X.1.2.2.2.2 = true) (ht : t.all (fun e => Nat.ble (zl_mx e.2) X.1.2.2.2.1.length) = true) (hm : t.length = m) (hQ : m ≤ Q.1.2.2.2.1.length) (hwq : zk_wq Q.1 = true) (hF : X.1.2.2.1.all (fun q => Nat.beq (zk_h HT q.1.1).1 3 && Nat.blt q.1.2 998) = true) (hN : zk_sub M N w0.2 V) (hE1 : zk_eW HT X.1.2.2.2.1.length X.2.1 = true) (hE2 : zk_eW HT Q.1.2.2.2.1.length Q.2.1 = true)
    (g1 : zk_lc s X.1.1 lv) (g2 : zk_st s R r) (g3 : zk_fl s X.1.2.2.1 w) (g4 : zl_in s X.1.2.2.2.1) (g5 : zk_cs s X.1.2.2.2.2) (g6 : zk_J c HT M w0 w) (k1 : zk_eF s X.2.1 w) (k2 : ∀ t ∈ X.2.2, PT t w) (hG : zk_G2 PT (zk_J c HT N (w, V)) s' Q (p', lq, rv, w')) (hs : ∀ j, j < m → s' j = zk_u s t j) :
    X.1.2.2.2.1.length ≤ (zk_out2 HT SU X R t m N Q).1.2.2.2.1.length ∧ ∃ s'' : Nat → Int, zk_G2 PT (zk_J c HT M w0) s'' (zk_out2 HT SU X R t m N Q) (n, lv, rv ++ r, w') ∧ ∀ j, j < X.1.2.2.2.1.length → s'' j = s j := by
  obtain ⟨hG1, hG2, hG3⟩ := hG
  obtain ⟨o1, s2, o2, o3, o4⟩ := zk_out_ok (p := 0) (n := n) hw ht hm hQ hwq hF hN g1 g2 g3 g4 g5 g6 hG1 hs
  refine ⟨o1, s2, ⟨o2, fun x hx => ?_, fun k hk => ?_⟩, o3⟩
  · rcases List.mem_append.mp hx with hx | hx
    · obtain ⟨x1, x2⟩ := List.mem_filter.mp hx
      have h1 := zk_eW_eq hE1 o3 k1 x x1
      have h0 := zk_eW_row hE1 x x1
      have hJ : zk_J c HT N (w, V) w' := hG1.2.2.2.2.2
      have hee : zl_ev s2 x.2.1 = zl_ev s x.2.1 := zl_ev_eq (n := X.1.2.2.2.1.length) (zz_ble (zz_and (zz_and (List.all_eq_true.mp hE1 x x1)).2).1) o3
      have h2 : zk_xe w' x.1 (zl_ev s2 x.2.1) = zk_xe w x.1 (zl_ev s2 x.2.1) := by
        rcases Bool.or_eq_true_iff.mp x2 with x2 | x2
        · exact zk_xe_g (fun r hr => by
            obtain ⟨x3, x4⟩ := zz_and (List.all_eq_true.mp x2 r hr)
            have h5 := h0 r hr
            obtain ⟨i1, i2, -⟩ := g6.1.2.2.2 r (by omega)
            exact (hJ.2.1.2 r (zk_ninM x3) i1 (by rw [i2]; omega)).1 (zk_ninM x4))
        · rw [hee]
          rw [hV] at hJ
          exact zk_kep_ok g4 g5 x2 g6.1 hJ h0 (by rw [← hee]; exact h1.1)
      exact ⟨h1.1, h2.trans h1.2⟩
    · obtain ⟨y, y1, y2⟩ := List.mem_map.mp hx
      subst y2
      have hy := List.all_eq_true.mp hE2 y y1
      obtain ⟨-, hy⟩ := zz_and hy
      obtain ⟨y3, y4⟩ := zz_and hy
      have h1 := hG2 y y1
      show 0 ≤ zl_ev s2 (zl_subst _ y.2.1) ∧ zk_xe w' y.1 (zl_ev s2 (zl_subst _ y.2.1)) = zl_ev s2 (zl_subst _ y.2.2)
      rw [o4 _ (zz_ble y3), o4 _ (zz_ble y4)]
      exact h1
  · rcases List.mem_append.mp hk with hk | hk
    · obtain ⟨x1, x2⟩ := List.mem_filter.mp hk
      exact zk_lft_ok hTT x2 g6.1 hG1.2.2.2.2.2 (k2 k x1)
    · exact hG3 k hk
/-- one place is sound -/
theorem zk_stp_ok {c : Nat} {HT : List (List zk_H)} {PT : Nat → zz_W → Prop} {SU : Nat → List (Nat × Nat)} {TS : zk_TY} (hTT : zk_TT c HT PT SU TS) {M : zk_M} {CT : Nat → Option zk_Ct} {dm d : Nat} {w0 : zk_W0} {own mn : String} {nL : Nat} {cc : ByteArray} {code : List (List zi)} {X : zk_St} {h : zk_Hn} {R : List (Nat × zk_St)} {pc : Nat}
    (hT : ∀ K, zz_KS l D cl fk cy z0 sp tys G yn (fun y => Cond.code (yn y) (cn y) (ml y) (rt y) :: Ts) d K → zz_TO l Ts D cl fk cy z0 sp tys G own mn nL cc d K (zi_T code)) (hC : ∀ y q, CT y = some q → zk_CA l Ts D cl fk cy z0 sp tys G yn cn ml rt c HT PT d (y % 1000) q) (hi : (zi_at code pc).1 < /-N-/87) (hs : zk_stp HT M SU TS CT dm (zi_at code pc) X h = some R)
    {s : Nat → Int} {f : zz_F} (hd : zl_ev s (zk_dep dm) ≤ (d : Int)) (hpc : f.1 = pc) (hpv : zk_pv s M.2 w0.2) (hG : zk_G2 PT (zk_J c HT M w0) s X f) : ∃ (s' : Nat → Int) (f' : zz_F) (q : Nat × zk_St), zz_B l Ts D cl fk cy z0 sp tys G own mn nL cc d f f' ∧ q ∈ R ∧ f'.1 = q.1 ∧ zk_G2 PT (zk_J c HT M w0) s' q.2 f' ∧ X.1.2.2.2.1.length ≤ q.2.1.2.2.2.1.length ∧ ∀ j, j < X.1.2.2.2.1.length → s' j = s j := by
  have hent : zz_ent (zi_T code) pc = (0, zi_act (zi_at code pc)) := by
    rw [zi_ent]
    unfold zi_e
    rw [show Nat.blt (zi_at code pc).1 /-N-/87 = true from Nat.ble_eq.mpr hi]
    rfl
  have hcal : ∀ (as Rr : List zk_V) (q : zk_Ct) (y n : Nat) (vs r : List Value) (p : Nat) (lv : List (Nat × Value)) (w : zz_W), CT (zk_yj y h.2.1) = some q → Nat.blt y 1000 = true → zk_cal HT SU TS M X as Rr q dm n h.2.2.1 h.2.2.2 = some R → zk_st s as vs → zk_st s Rr r → zk_lc s X.1.1 lv → zk_fl s X.1.2.2.1 w → zl_in s X.1.2.2.2.1 → zk_cs s X.1.2.2.2.2 → zk_J c HT M w0 w → zk_eF s X.2.1 w → (∀ t ∈ X.2.2, PT t w) →
      ∃ (rv : List Value) (w' : zz_W) (s' : Nat → Int) (q' : Nat × zk_St), zz_M l Ts D cl fk cy z0 sp tys G yn cn ml rt d y vs w rv w' ∧ zz_cs r ≤ 8 ∧ q' ∈ R ∧ n = q'.1 ∧ zk_G2 PT (zk_J c HT M w0) s' q'.2 (n, lv, rv ++ r, w') ∧ X.1.2.2.2.1.length ≤ q'.2.1.2.2.2.1.length ∧ ∀ j, j < X.1.2.2.2.1.length → s' j = s j := by
    intro as Rr q y n vs r p lv w hq hy hcl hv hr g1 g3 g4 g5 g6 k1 k2
    unfold zk_cal at hcl
    obtain ⟨hb, hcl⟩ := zz_cond hcl
    cases hcl
    unfold zk_cok at hb
    obtain ⟨b1, hb⟩ := zz_and hb
    obtain ⟨b2, hb⟩ := zz_and hb
    obtain ⟨b3, hb⟩ := zz_and hb
    obtain ⟨b4, hb⟩ := zz_and hb
    obtain ⟨b5, hb⟩ := zz_and hb
    obtain ⟨b6, hb⟩ := zz_and hb
    obtain ⟨b7, hb⟩ := zz_and hb
    obtain ⟨b8, hb⟩ := zz_and hb
    obtain ⟨b10, b9⟩ := zz_and hb
    obtain ⟨e1, e2⟩ := zk_edg2_ok hTT (I := zk_I c HT) (fun _ h => h) (s := s) (f := (0, [], vs, w)) b1 ⟨⟨fun x hx => absurd (show x ∈ ([] : List (Nat × zk_V)) from hx) List.not_mem_nil, hv, g3, g4, g5, g6.1⟩, k1, k2⟩
    have hCy := hC _ q hq
    rw [zk_yj_ok hy] at hCy
    obtain ⟨rv, w', s', Q, m1, m2, m3, m4⟩ := hCy vs w (zk_u s h.2.2.1.1) (Int.le_trans (zk_dok_ok b2 g4) hd) e1
    have hQ := List.all_eq_true.mp b9 Q m1
    obtain ⟨c1, hQ⟩ := zz_and hQ
    obtain ⟨c3, c2⟩ := zz_and hQ
    obtain ⟨o1, s2, o2, o3⟩ := zk_out2_ok hTT (n := n) rfl b4 b5 e2.symm (zz_ble c2) c1 b6 (zk_sbc_ok b3 g4 g5 hpv) b10 c3 g1 hr g3 g4 g5 g6 k1 k2 m3 m4
    refine ⟨rv, w', s2, (n, zk_out2 HT SU X Rr h.2.2.1.1 q.1.1.2.2.2.1.length q.2.2.1 Q), m2, ?_, List.mem_filter.mpr ⟨List.mem_map.mpr ⟨Q, m1, rfl⟩, by rw [zk_fal_ok o2.1]; rfl⟩, rfl, o2, o1, o3⟩
    rw [zk_cz_ok b8 hr]
    exact zz_ble b7
  obtain ⟨p, lv, st, w⟩ := f
  have hpc : p = pc := hpc
  subst hpc
  unfold zk_stp at hs
  cases h63 : Nat.beq (zi_at code p).1 /-CV-/71 with
  | true =>
    rw [h63] at hs
    have e63 := zz_beq h63
    have hs : (match X.1.2.1.drop (zi_p (zi_at code p).2.1 3), CT (zk_yj (zi_p (zi_at code p).2.1 2) h.2.1) with
      | (2, b, e) :: R', some q => cond (Nat.beq (X.1.2.1.take (zi_p (zi_at code p).2.1 3)).length (zi_p (zi_at code p).2.1 3) && (Nat.blt (zi_p (zi_at code p).2.1 2) 1000 && (Nat.beq (zk_h HT b).1 3 && Nat.beq (zk_h HT b).2.1 (zi_p (zi_at code p).2.1 1)))) (zk_cal HT SU TS M X ((2, b, e) :: (X.1.2.1.take (zi_p (zi_at code p).2.1 3)).reverse) R' q dm (zi_p (zi_at code p).2.1 0) h.2.2.1 h.2.2.2) none
      | _, _ => none) = some R := hs
    split at hs
    · rename_i b e Rr q hdrop hq
      obtain ⟨hb, hs⟩ := zz_cond hs
      obtain ⟨b1, hb⟩ := zz_and hb
      obtain ⟨b0, hb⟩ := zz_and hb
      obtain ⟨b2, b3⟩ := zz_and hb
      obtain ⟨⟨g1, g2, g3, g4, g5, g6⟩, k1, k2⟩ := hG
      have g2 : zk_st s X.1.2.1 st := g2
      rw [← List.take_append_drop (zi_p (zi_at code p).2.1 3) X.1.2.1, hdrop] at g2
      obtain ⟨x, y, q1, q2, q3⟩ := zk_st_split g2
      obtain ⟨v, r, q4, q5, q6⟩ := zk_st_cons q3
      have e3 : v = .ref b := q5.2.2.1 rfl
      subst e3
      have hst : st = x.reverse.reverse ++ .ref b :: r := by rw [List.reverse_reverse, q1, q4]
      obtain ⟨rv, w', s', q', m1, m2, m3, m4, m5, m6, m7⟩ := hcal _ _ q _ _ (.ref b :: x.reverse) r p lv w hq b0 hs ⟨q5, zk_st_rev q2⟩ q6 g1 g3 g4 g5 g6 k1 k2
      obtain ⟨o1, o2, o3, -⟩ := g6.1.2.2.2 b (by have := zz_beq b2; omega)
      have hic : zz_ic w b (zi_p (zi_at code p).2.1 1) = true := by
        unfold zz_ic
        have a1 : Nat.blt b w.1 = true := Nat.ble_eq.mpr o1
        have a2 : Nat.blt b 1000000 = true := Nat.ble_eq.mpr (by have := g6.1.2.2.1; omega)
        rw [o2, o3, a1, a2, b2, b3]
        rfl
      refine ⟨s', (zi_p (zi_at code p).2.1 0, lv, rv ++ r, w'), q', ?_, m3, m4, m5, m6, m7⟩
      have hact : zi_act (zi_at code p) = za_callV (zi_p (zi_at code p).2.1 1) (zi_p (zi_at code p).2.1 2) (zi_p (zi_at code p).2.1 3) (zi_p (zi_at code p).2.1 0) := by
        unfold zi_act
        rw [e63]
        rfl
      rw [hact] at hent
      exact zz_sV hT hent m1 hst (by rw [List.length_reverse, zk_st_len q2]; exact zz_beq b1) hic m2 (zz_B_rf _)
    · cases hs
  | false =>
    rw [h63] at hs
    cases h64 : Nat.beq (zi_at code p).1 /-CS-/72 with
    | true =>
      rw [h64] at hs
      have e64 := zz_beq h64
      have hs : (match CT (zk_yj (zi_p (zi_at code p).2.1 1) h.2.1) with
        | some q => cond (Nat.beq (X.1.2.1.take (zi_p (zi_at code p).2.1 2)).length (zi_p (zi_at code p).2.1 2) && Nat.blt (zi_p (zi_at code p).2.1 1) 1000) (zk_cal HT SU TS M X (X.1.2.1.take (zi_p (zi_at code p).2.1 2)).reverse (X.1.2.1.drop (zi_p (zi_at code p).2.1 2)) q dm (zi_p (zi_at code p).2.1 0) h.2.2.1 h.2.2.2) none
        | none => none) = some R := hs
      split at hs
      · rename_i q hq
        obtain ⟨hb, hs⟩ := zz_cond hs
        obtain ⟨b1, b0⟩ := zz_and hb
        obtain ⟨⟨g1, g2, g3, g4, g5, g6⟩, k1, k2⟩ := hG
        have g2 : zk_st s X.1.2.1 st := g2
        rw [← List.take_append_drop (zi_p (zi_at code p).2.1 2) X.1.2.1] at g2
        obtain ⟨x, r, q1, q2, q3⟩ := zk_st_split g2
        have hst : st = x.reverse.reverse ++ r := by rw [List.reverse_reverse, q1]
        obtain ⟨rv, w', s', q', m1, m2, m3, m4, m5, m6, m7⟩ := hcal _ _ q _ _ x.reverse r p lv w hq b0 hs (zk_st_rev q2) q3 g1 g3 g4 g5 g6 k1 k2
        refine ⟨s', (zi_p (zi_at code p).2.1 0, lv, rv ++ r, w'), q', ?_, m3, m4, m5, m6, m7⟩
        have hact : zi_act (zi_at code p) = za_callS (zi_p (zi_at code p).2.1 1) (zi_p (zi_at code p).2.1 2) (zi_p (zi_at code p).2.1 0) := by
          unfold zi_act
          rw [e64]
          rfl
        rw [hact] at hent
        exact zz_sS hT hent m1 hst (by rw [List.length_reverse, zk_st_len q2]; exact zz_beq b1) m2 (zz_B_rf _)
      · cases hs
    | false =>
      rw [h64] at hs
      cases h65 : Nat.beq (zi_at code p).1 /-CK-/79 with
      | true =>
        have hs : cond (Nat.beq (zi_at code p).1 /-CK-/79) (match X.1.2.1.drop (zi_p (zi_at code p).2.1 2), CT (zk_yj (zi_p (zi_at code p).2.1 1) h.2.1) with
          | (2, b, e) :: R', some q => cond (Nat.beq (X.1.2.1.take (zi_p (zi_at code p).2.1 2)).length (zi_p (zi_at code p).2.1 2) && (Nat.blt (zi_p (zi_at code p).2.1 1) 1000 && zz_kg zS b)) (zk_cal HT SU TS M X ((2, b, e) :: (X.1.2.1.take (zi_p (zi_at code p).2.1 2)).reverse) R' q dm (zi_p (zi_at code p).2.1 0) h.2.2.1 h.2.2.2) none
          | _, _ => none) (zi_st HT M SU TS h.2.1 h.2.2.2 (zi_at code p) X) = some R := hs
        rw [h65] at hs
        have e65 := zz_beq h65
        have hs : (match X.1.2.1.drop (zi_p (zi_at code p).2.1 2), CT (zk_yj (zi_p (zi_at code p).2.1 1) h.2.1) with
          | (2, b, e) :: R', some q => cond (Nat.beq (X.1.2.1.take (zi_p (zi_at code p).2.1 2)).length (zi_p (zi_at code p).2.1 2) && (Nat.blt (zi_p (zi_at code p).2.1 1) 1000 && zz_kg zS b)) (zk_cal HT SU TS M X ((2, b, e) :: (X.1.2.1.take (zi_p (zi_at code p).2.1 2)).reverse) R' q dm (zi_p (zi_at code p).2.1 0) h.2.2.1 h.2.2.2) none
          | _, _ => none) = some R := hs
        split at hs
        · rename_i b e Rr q hdrop hq
          obtain ⟨hb, hs⟩ := zz_cond hs
          obtain ⟨b1, hb⟩ := zz_and hb
          obtain ⟨b0, b2⟩ := zz_and hb
          obtain ⟨⟨g1, g2, g3, g4, g5, g6⟩, k1, k2⟩ := hG
          have g2 : zk_st s X.1.2.1 st := g2
          rw [← List.take_append_drop (zi_p (zi_at code p).2.1 2) X.1.2.1, hdrop] at g2
          obtain ⟨x, y, q1, q2, q3⟩ := zk_st_split g2
          obtain ⟨v, r, q4, q5, q6⟩ := zk_st_cons q3
          have e3 : v = .ref b := q5.2.2.1 rfl
          subst e3
          have hst : st = x.reverse.reverse ++ .ref b :: r := by rw [List.reverse_reverse, q1, q4]
          obtain ⟨rv, w', s', q', m1, m2, m3, m4, m5, m6, m7⟩ := hcal _ _ q _ _ (.ref b :: x.reverse) r p lv w hq b0 hs ⟨q5, zk_st_rev q2⟩ q6 g1 g3 g4 g5 g6 k1 k2
          refine ⟨s', (zi_p (zi_at code p).2.1 0, lv, rv ++ r, w'), q', ?_, m3, m4, m5, m6, m7⟩
          have hact : zi_act (zi_at code p) = za_callK (zz_kg zS) (zi_p (zi_at code p).2.1 1) (zi_p (zi_at code p).2.1 2) (zi_p (zi_at code p).2.1 0) := by
            unfold zi_act
            rw [e65]
            rfl
          rw [hact] at hent
          exact zz_sg (hT _ (zz_k1_KS m1)) hent (ze_callK hst (by rw [List.length_reverse, zk_st_len q2]; exact zz_beq b1) b2 m2 m1.2.1 zz_k1_at) (zz_B_rf _)
        · cases hs
      | false =>
        have hs : cond (Nat.beq (zi_at code p).1 /-CK-/79) (match X.1.2.1.drop (zi_p (zi_at code p).2.1 2), CT (zk_yj (zi_p (zi_at code p).2.1 1) h.2.1) with
          | (2, b, e) :: R', some q => cond (Nat.beq (X.1.2.1.take (zi_p (zi_at code p).2.1 2)).length (zi_p (zi_at code p).2.1 2) && (Nat.blt (zi_p (zi_at code p).2.1 1) 1000 && zz_kg zS b)) (zk_cal HT SU TS M X ((2, b, e) :: (X.1.2.1.take (zi_p (zi_at code p).2.1 2)).reverse) R' q dm (zi_p (zi_at code p).2.1 0) h.2.2.1 h.2.2.2) none
          | _, _ => none) (zi_st HT M SU TS h.2.1 h.2.2.2 (zi_at code p) X) = some R := hs
        rw [h65] at hs
        obtain ⟨s', f', q, m1, m2, m3, m4, m5, m6⟩ := zi_st_ok (w0 := w0) hTT (show zi_st HT M SU TS h.2.1 h.2.2.2 (zi_at code p) X = some R from hs) zz_k0 s (p, lv, st, w) hpv hG
        exact ⟨s', f', q, zz_sg (hT _ zz_k0_KS) hent m1 (zz_B_rf _), m2, m3, m4, m5, m6⟩
end ZKM
end
