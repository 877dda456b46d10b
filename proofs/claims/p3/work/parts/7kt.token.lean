/-! TOKENS, on: how one follows from another, through a write or without one -/
theorem zk_sl2_u {s : Nat → Int} {t : List zl_E} {l : List Int} (h : zk_sl2 s t l) : zk_u s t = fun m => l.getD m 0 := by
  funext m
  unfold zk_u
  cases hm : t[m]? with
  | some q => exact (h.2 m q hm).symm
  | none =>
    have h1 : l.length ≤ m := by
      rw [← h.1]
      exact List.getElem?_eq_none_iff.mp hm
    show (0 : Int) = l.getD m 0
    rw [List.getD_eq_getElem?_getD, List.getElem?_eq_none h1]
    rfl
theorem zk_sl2_sy {s : Nat → Int} : ∀ {l : List Int} {n : Nat}, (∀ m, m < l.length → s (n + m) = l.getD m 0) → zk_sl2 s (zk_syms n l.length) l
  | [], _, _ => zk_sl2_nil
  | x :: l, n, h => by
    have h0 := h 0 (by simp)
    refine zk_sl2_cons ?_ (zk_sl2_sy (l := l) (n := n + 1) (fun m hm => ?_))
    · rw [zl_sym_ev]
      exact h0.symm
    · have := h (m + 1) (by simpa using hm)
      rw [show n + 1 + m = n + (m + 1) by omega, this]
      rfl
/-- hints of a case: 0 it can't be; k + 1: it is the case k of what follows -/
abbrev zk_Gh : Type := Nat × List (List Nat)
def zk_gl (B : List (Int × Int)) (C t : List zl_E) (ds : List (List zl_E)) (h : zk_Gh) : Bool := match h.1 with
  | 0 => zl_en B C (h.2.getD 0 []) (zl_con (-1))
  | k + 1 => match ds[k]? with
    | some d => zk_ens B C t d h.2
    | none => false
theorem zk_gl_ok {s : Nat → Int} {B : List (Int × Int)} {C t : List zl_E} {ds : List (List zl_E)} {h : zk_Gh} (hB : zl_in s B) (hC : zk_cs s C) (hg : zk_gl B C t ds h = true) : ∃ d ∈ ds, zk_cs (zk_u s t) d := by
  unfold zk_gl at hg
  split at hg
  · have := zl_en_ok hB hC hg
    rw [zl_con_ev] at this
    omega
  · rename_i k hk
    split at hg
    · rename_i d hd
      exact ⟨d, List.mem_of_getElem? hd, zk_ens_ok hB hC hg⟩
    · cases hg
def zk_gls (B : List (Int × Int)) (C t0 t : List zl_E) (ds : List (List zl_E)) : List (List zl_E) → List zk_Gh → Bool
  | [], _ => true
  | d :: r, h :: hs => d.all (fun c => Nat.ble c.2.length t0.length) && (zk_gl B (d.map (zl_subst t0) ++ C) t ds h && zk_gls B C t0 t ds r hs)
  | _ :: _, [] => false
theorem zk_gls_ok {s : Nat → Int} {B : List (Int × Int)} {C t0 t : List zl_E} {ds : List (List zl_E)} (hB : zl_in s B) (hC : zk_cs s C) : ∀ {ds0 : List (List zl_E)} {hs : List zk_Gh}, zk_gls B C t0 t ds ds0 hs = true → ∀ d ∈ ds0, zk_cs (zk_u s t0) d → ∃ d ∈ ds, zk_cs (zk_u s t) d
  | [], _, _, d, hd, _ => absurd hd List.not_mem_nil
  | _ :: _, [], h, _, _, _ => by cases h
  | d0 :: r, h0 :: hs, h, d, hd, hc => by
    unfold zk_gls at h
    obtain ⟨b1, hb⟩ := zz_and h
    obtain ⟨b2, b3⟩ := zz_and hb
    rcases List.mem_cons.mp hd with e | hd
    · subst e
      refine zk_gl_ok hB (fun c hc' => ?_) b2
      rcases List.mem_append.mp hc' with hc' | hc'
      · obtain ⟨c0, c1, c2⟩ := List.mem_map.mp hc'
        subst c2
        rw [zl_subst_ev (u := zk_u s t0) (zz_ble (List.all_eq_true.mp b1 c0 c1)) zk_u_at]
        exact hc c0 c1
      · exact hC c hc'
    · exact zk_gls_ok hB hC b3 d hd hc
/-- at the place e: what is known of the elements there -/
def zk_mid (E : List zk_E1) (e : zl_E) : Nat → List Nat → List zl_E
  | _, [] => []
  | n, r :: rs => match zk_ek E r e with
    | some v => zl_sub (zl_sym n) v :: zl_sub v (zl_sym n) :: zk_mid E e (n + 1) rs
    | none => zk_mid E e (n + 1) rs
theorem zk_mid_ok {s : Nat → Int} {E : List zk_E1} {e : zl_E} {w : zz_W} (hE : zk_eF s E w) : ∀ {rs : List Nat} {n : Nat}, (∀ m, m < rs.length → s (n + m) = (rs.map (fun r => zk_el w r (zl_ev s e))).getD m 0) → zk_cs s (zk_mid E e n rs)
  | [], _, _ => fun c hc => by cases hc
  | r :: rs, n, h => by
    have h0 : s n = zk_el w r (zl_ev s e) := h 0 (by simp)
    have ih := zk_mid_ok (rs := rs) (n := n + 1) hE (fun m hm => by
      have := h (m + 1) (by simpa using hm)
      rw [show n + 1 + m = n + (m + 1) by omega, this]
      rfl)
    unfold zk_mid
    split
    · rename_i v hv
      have hv := (zk_ek_ok hv hE).2
      intro c hc
      rcases List.mem_cons.mp hc with ec | hc
      · rw [ec, zl_sub_ev, zl_sym_ev]; omega
      · rcases List.mem_cons.mp hc with ec | hc
        · rw [ec, zl_sub_ev, zl_sym_ev]; omega
        · exact ih c hc
    · exact ih
def zk_leN : List Nat → List Nat → Bool
  | [], [] => true
  | a :: l, b :: m => Nat.beq a b && zk_leN l m
  | _, _ => false
theorem zk_leN_ok : ∀ {l m : List Nat}, zk_leN l m = true → l = m
  | [], [], _ => rfl
  | [], _ :: _, h => by cases h
  | _ :: _, [], h => by cases h
  | a :: l, b :: m, h => by
    obtain ⟨h1, h2⟩ := zz_and h
    rw [zz_beq h1, zk_leN_ok h2]
/-- what it comes from: the fields' sums and the cases -/
def zk_src (TS : Nat → Option zk_Sp) (K : List Nat) (F : List ((Nat × Nat) × zk_V)) (rows : List Nat) : Nat → Option (List zl_E × List (List zl_E))
  | 0 => some ([], [[]])
  | t + 1 => match TS t with
    | some p => cond (K.any (Nat.beq t) && zk_leN p.1 rows) (match zk_fsm F p.2.1 with
      | some f => some (f, p.2.2)
      | none => none) none
    | none => none
/-- which token, from which (0: none; t + 1), the place that is looked at alone, hints -/
abbrev zk_Cv : Type := Nat × Nat × List zl_E × List zk_Gh × List zk_Gh × zk_Gh
def zk_cv (HT : List (List zk_H)) (TS : Nat → Option zk_Sp) (K : List Nat) (B : List (Int × Int)) (C : List zl_E) (F0 F1 : List ((Nat × Nat) × zk_V)) (E : List zk_E1) (x : zk_Cv) : Bool := match TS x.1 with
  | some (r0 :: rs, fs, ds) => match zk_fsm F1 fs, zk_src TS K F0 (r0 :: rs) x.2.1 with
    | some f1, some (f0, ds0) =>
      (r0 :: rs).all (fun r => Nat.beq (zk_h HT r).1 0 && Nat.ble (zk_h HT r0).2.2.1 (zk_h HT r).2.2.1) && (zk_wf B.length [] [] F0 C && (zk_wf B.length [] [] F1 C && (zk_eW HT B.length E &&
      (match x.2.2.1 with
        | [] => zk_gls (B ++ (0, ((zk_h HT r0).2.2.1 : Int) - 1) :: (r0 :: rs).map (fun r => ((zk_h HT r).2.2.2.1, (zk_h HT r).2.2.2.2.1))) C (zl_sym B.length :: (zk_syms (B.length + 1) (r0 :: rs).length ++ f0)) (zl_sym B.length :: (zk_syms (B.length + 1) (r0 :: rs).length ++ f1)) ds ds0 x.2.2.2.1
        | e :: _ => Nat.ble e.2.length B.length && (zk_gls (B ++ (0, ((zk_h HT r0).2.2.1 : Int) - 1) :: (r0 :: rs).map (fun r => ((zk_h HT r).2.2.2.1, (zk_h HT r).2.2.2.2.1))) (zl_sub (zl_sub e (zl_sym B.length)) (zl_con 1) :: C) (zl_sym B.length :: (zk_syms (B.length + 1) (r0 :: rs).length ++ f0)) (zl_sym B.length :: (zk_syms (B.length + 1) (r0 :: rs).length ++ f1)) ds ds0 x.2.2.2.1 &&
          (zk_gls (B ++ (0, ((zk_h HT r0).2.2.1 : Int) - 1) :: (r0 :: rs).map (fun r => ((zk_h HT r).2.2.2.1, (zk_h HT r).2.2.2.2.1))) (zl_sub (zl_sub (zl_sym B.length) e) (zl_con 1) :: C) (zl_sym B.length :: (zk_syms (B.length + 1) (r0 :: rs).length ++ f0)) (zl_sym B.length :: (zk_syms (B.length + 1) (r0 :: rs).length ++ f1)) ds ds0 x.2.2.2.2.1 &&
          zk_gl (B ++ (0, ((zk_h HT r0).2.2.1 : Int) - 1) :: (r0 :: rs).map (fun r => ((zk_h HT r).2.2.2.1, (zk_h HT r).2.2.2.2.1))) (zl_sub (zl_sym B.length) e :: zl_sub e (zl_sym B.length) :: (zk_mid E e (B.length + 1) (r0 :: rs) ++ C)) (zl_sym B.length :: (zk_syms (B.length + 1) (r0 :: rs).length ++ f1)) ds x.2.2.2.2.2))))))
    | _, _ => false
  | _ => false
theorem zk_getD_map {α : Type} (f : α → Int) : ∀ (l : List α) (m : Nat) (a : α), l[m]? = some a → (l.map f).getD m 0 = f a := by
  intro l m a h
  rw [List.getD_eq_getElem?_getD, List.getElem?_map, h]
  rfl
theorem zk_cv_ok {c : Nat} {HT : List (List zk_H)} {PT : Nat → zz_W → Prop} {SU : Nat → List (Nat × Nat)} {TS : Nat → Option zk_Sp} (hTT : zk_TT c HT PT SU TS) {K : List Nat} {B : List (Int × Int)} {C : List zl_E} {F0 F1 : List ((Nat × Nat) × zk_V)} {E : List zk_E1} {x : zk_Cv} (h : zk_cv HT TS K B C F0 F1 E x = true) {s : Nat → Int} {wS w : zz_W} (hI : zk_I c HT w) (hB : zl_in s B) (hC : zk_cs s C) (hF0 : zk_fl s F0 wS) (hF1 : zk_fl s F1 w) (hE : zk_eF s E w) (hK : ∀ t ∈ K, PT t wS)
    (hrow : ∀ r m, (zk_h HT r).1 = 0 → 0 ≤ m → (∀ e l, x.2.2.1 = e :: l → m ≠ zl_ev s e) → zk_el w r m = zk_el wS r m) : PT x.1 w := by
  unfold zk_cv at h
  split at h
  · rename_i r0 rs fs ds hp
    split at h
    · rename_i f1 f0 ds0 hf1 hsrc
      obtain ⟨b1, hb⟩ := zz_and h
      obtain ⟨b2, hb⟩ := zz_and hb
      obtain ⟨b3, hb⟩ := zz_and hb
      obtain ⟨b4, b5⟩ := zz_and hb
      refine (hTT.2 _ _ hp w).mpr (fun j hj => ?_)
      have hj : ∀ r ∈ r0 :: rs, j < (zk_h HT r).2.2.1 := hj
      generalize hvl : (r0 :: rs).map (fun r => zk_el w r (j : Int)) = vl
      have hvlen : vl.length = (r0 :: rs).length := by rw [← hvl, List.length_map]
      have hd : ∀ m, m < B.length → (fun m => if m < B.length then s m else ((j : Int) :: vl).getD (m - B.length) 0) m = s m := fun m hm => if_pos hm
      have hnew : ∀ m, (fun m => if m < B.length then s m else ((j : Int) :: vl).getD (m - B.length) 0) (B.length + m) = ((j : Int) :: vl).getD m 0 := by
        intro m
        show (if B.length + m < B.length then _ else _) = _
        rw [if_neg (by omega)]
        congr 1
        omega
      generalize (fun m => if m < B.length then s m else ((j : Int) :: vl).getD (m - B.length) 0) = s2 at hd hnew
      obtain ⟨-, -, y3, y4⟩ := zk_wf_ok (lv := []) (st := []) b2 hd (fun q hq => absurd hq List.not_mem_nil) trivial hF0 hC
      obtain ⟨-, -, z3, -⟩ := zk_wf_ok (lv := []) (st := []) b3 hd (fun q hq => absurd hq List.not_mem_nil) trivial hF1 hC
      have hE2 := zk_eW_eq b4 hd hE
      have hjs : (j : Int) = zl_ev s2 (zl_sym B.length) := by
        rw [zl_sym_ev]
        have := hnew 0
        rw [Nat.add_zero] at this
        rw [this]
        rfl
      have hsy : zk_sl2 s2 (zk_syms (B.length + 1) (r0 :: rs).length) vl := by
        rw [← hvlen]
        refine zk_sl2_sy (fun m hm => ?_)
        rw [show B.length + 1 + m = B.length + (m + 1) by omega, hnew]
        rfl
      have hB2 : zl_in s2 (B ++ (0, ((zk_h HT r0).2.2.1 : Int) - 1) :: (r0 :: rs).map (fun r => ((zk_h HT r).2.2.2.1, (zk_h HT r).2.2.2.2.1))) := by
        intro k q hq
        by_cases hk : k < B.length
        · rw [List.getElem?_append_left hk] at hq
          rw [hd k hk]
          exact hB k q hq
        · rw [List.getElem?_append_right (by omega)] at hq
          have e1 := hnew (k - B.length)
          rw [show B.length + (k - B.length) = k by omega] at e1
          rw [e1]
          cases hk2 : k - B.length with
          | zero =>
            rw [hk2] at hq
            cases hq
            have := hj r0 List.mem_cons_self
            show (0 : Int) ≤ (j : Int) ∧ (j : Int) ≤ ((zk_h HT r0).2.2.1 : Int) - 1
            omega
          | succ m =>
            rw [hk2] at hq
            have hq : ((r0 :: rs).map (fun r => ((zk_h HT r).2.2.2.1, (zk_h HT r).2.2.2.2.1)))[m]? = some q := hq
            rw [List.getElem?_map] at hq
            cases hr : (r0 :: rs)[m]? with
            | none => rw [hr] at hq; cases hq
            | some r =>
              rw [hr] at hq
              cases hq
              have hmem := List.mem_of_getElem? hr
              obtain ⟨c1, c2⟩ := zz_and (List.all_eq_true.mp b1 r hmem)
              have hv : vl.getD m 0 = zk_el w r (j : Int) := by
                rw [← hvl]
                exact zk_getD_map _ _ _ _ hr
              show _ ≤ vl.getD m 0 ∧ vl.getD m 0 ≤ _
              rw [hv]
              obtain ⟨-, -, -, -, h0, -⟩ := hI.2.2.2 r (by have := zz_beq c1; omega)
              have := h0 (zz_beq c1) j (hj r hmem)
              unfold zk_el
              rw [show ((j : Int)).toNat = j by omega]
              exact this
      have hs1 : zk_sl2 s2 (zl_sym B.length :: (zk_syms (B.length + 1) (r0 :: rs).length ++ f1)) (zk_al w (r0 :: rs) fs j) := by
        unfold zk_al
        rw [hvl]
        exact zk_sl2_cons hjs (zk_sl2_app hsy (zk_fsm_ok z3 hf1))
      have hu1 := zk_sl2_u hs1
      -- what is known of the source at j
      have hsrc2 : (∀ e l, x.2.2.1 = e :: l → (j : Int) ≠ zl_ev s e) → ∃ d ∈ ds0, zk_cs (zk_u s2 (zl_sym B.length :: (zk_syms (B.length + 1) (r0 :: rs).length ++ f0))) d := by
        intro hne
        unfold zk_src at hsrc
        split at hsrc
        · cases hsrc
          exact ⟨[], List.mem_cons_self, fun c hc => by cases hc⟩
        · rename_i t ht
          split at hsrc
          · rename_i p hp0
            obtain ⟨hbb, hsrc⟩ := zz_cond hsrc
            obtain ⟨d1, d2⟩ := zz_and hbb
            split at hsrc
            · rename_i f hf
              cases hsrc
              have hrows := zk_leN_ok d2
              have hP := (hTT.2 _ _ hp0 wS).mp (hK t (zk_any_beq d1)) j (by rw [hrows]; exact hj)
              obtain ⟨d, e1, e2⟩ := hP
              refine ⟨d, e1, ?_⟩
              have hs0 : zk_sl2 s2 (zl_sym B.length :: (zk_syms (B.length + 1) (r0 :: rs).length ++ f0)) (zk_al wS p.1 p.2.1 j) := by
                unfold zk_al
                rw [hrows]
                refine zk_sl2_cons hjs (zk_sl2_app ?_ (zk_fsm_ok y3 hf))
                rw [show (r0 :: rs).map (fun r => zk_el wS r (j : Int)) = vl from ?_]
                · exact hsy
                · rw [← hvl]
                  refine List.map_congr_left (fun r hr => ?_)
                  exact (hrow r j (zz_beq (zz_and (List.all_eq_true.mp b1 r hr)).1) (by omega) hne).symm
              rw [zk_sl2_u hs0]
              exact e2
            · cases hsrc
          · cases hsrc
      show ∃ d ∈ ds, zk_cs (fun m => (zk_al w (r0 :: rs) fs j).getD m 0) d
      rw [← hu1]
      split at b5
      · rename_i hx
        obtain ⟨d, d1, d2⟩ := hsrc2 (fun e l he => by rw [hx] at he; cases he)
        exact zk_gls_ok hB2 y4 b5 d d1 d2
      · rename_i e l hx
        obtain ⟨c1, b5⟩ := zz_and b5
        obtain ⟨c2, b5⟩ := zz_and b5
        obtain ⟨c3, c4⟩ := zz_and b5
        have he : zl_ev s2 e = zl_ev s e := zl_ev_eq (n := B.length) (zz_ble c1) hd
        by_cases h1 : (j : Int) = zl_ev s e
        · refine zk_gl_ok hB2 (fun q hq => ?_) c4
          rcases List.mem_cons.mp hq with eq | hq
          · rw [eq, zl_sub_ev, ← hjs, he]; omega
          · rcases List.mem_cons.mp hq with eq | hq
            · rw [eq, zl_sub_ev, ← hjs, he]; omega
            · rcases List.mem_append.mp hq with hq | hq
              · refine zk_mid_ok hE2 (fun m hm => ?_) q hq
                rw [show B.length + 1 + m = B.length + (m + 1) by omega, hnew, he, ← h1, hvl]
                rfl
              · exact y4 q hq
        · obtain ⟨d, d1, d2⟩ := hsrc2 (fun e' l' he' => by rw [hx] at he'; cases he'; exact h1)
          by_cases h2 : (j : Int) < zl_ev s e
          · refine zk_gls_ok hB2 (fun q hq => ?_) c2 d d1 d2
            rcases List.mem_cons.mp hq with eq | hq
            · rw [eq, zl_sub_ev, zl_sub_ev, zl_con_ev, ← hjs, he]; omega
            · exact y4 q hq
          · refine zk_gls_ok hB2 (fun q hq => ?_) c3 d d1 d2
            rcases List.mem_cons.mp hq with eq | hq
            · rw [eq, zl_sub_ev, zl_sub_ev, zl_con_ev, ← hjs, he]; omega
            · exact y4 q hq
    · cases h
  · cases h
/-- the tokens that a change of (i, k) leaves -/
def zk_off (SU : Nat → List (Nat × Nat)) (K : List Nat) (i k : Nat) : List Nat := K.filter (fun t => !(zk_inM (SU t) i k) && !(zk_inM (SU t) i 999))
/-- the tokens that say nothing of the cell i -/
def zk_ofc (SU : Nat → List (Nat × Nat)) (K : List Nat) (i : Nat) : List Nat := K.filter (fun t => (SU t).all (fun q => !(Nat.beq q.1 i)))
theorem zk_ofc_ok {SU : Nat → List (Nat × Nat)} {K : List Nat} {i t : Nat} (h : t ∈ zk_ofc SU K i) : t ∈ K ∧ ∀ q ∈ SU t, q.1 ≠ i := by
  obtain ⟨h1, h2⟩ := List.mem_filter.mp h
  exact ⟨h1, fun q hq => zk_nbeq (List.all_eq_true.mp h2 q hq)⟩
theorem zk_inM_mem {M : List (Nat × Nat)} {i k : Nat} (h : (i, k) ∈ M) : zk_inM M i k = true := List.any_eq_true.mpr ⟨(i, k), h, by show (Nat.beq i i && Nat.beq k k) = true; rw [Nat.beq_refl, Nat.beq_refl]; rfl⟩
theorem zk_off_ok {SU : Nat → List (Nat × Nat)} {K : List Nat} {i k t : Nat} (h : t ∈ zk_off SU K i k) : t ∈ K ∧ (i, k) ∉ SU t ∧ (i, 999) ∉ SU t := by
  obtain ⟨h1, h2⟩ := List.mem_filter.mp h
  obtain ⟨h3, h4⟩ := zz_and h2
  refine ⟨h1, fun hin => ?_, fun hin => ?_⟩
  · rw [zk_inM_mem hin] at h3
    cases h3
  · rw [zk_inM_mem hin] at h4
    cases h4
/-- a field is set -/
def zk_w1 (HT : List (List zk_H)) (SU : Nat → List (Nat × Nat)) (TS : Nat → Option zk_Sp) (X : zk_St) (k n : Nat) (cv : List zk_Cv) (o : Option zk_A) : Option (List (Nat × zk_St)) := match o with
  | some A => cond (cv.all (zk_cv HT TS X.2.2 X.1.2.2.2.1 X.1.2.2.2.2 X.1.2.2.1 A.2.2.1 X.2.1) && (zk_eW HT X.1.2.2.2.1.length X.2.1 && Nat.beq (zk_h HT (zk_tg1 X.1)).1 3))
    (some [(n, (A, X.2.1, zk_off SU X.2.2 (zk_tg1 X.1) k ++ cv.map (fun x => x.1)))]) none
  | none => none
theorem zk_w1_ok {c : Nat} {HT : List (List zk_H)} {M : zk_M} {w0 : zk_W0} {PT : Nat → zz_W → Prop} {SU : Nat → List (Nat × Nat)} {TS : Nat → Option zk_Sp} (hTT : zk_TT c HT PT SU TS) {act : zz_A} {X : zk_St} {k n : Nat} {cv : List zk_Cv} {o : Option zk_A} {R : List (Nat × zk_St)} (h : zk_w1 HT SU TS X k n cv o = some R) (hk : ∀ A, o = some A → zk_SW c HT M w0 act n X.1 A (fun _ w w' => zk_rF (zk_tg1 X.1) k w w')) : zk_R2 PT c HT M w0 act X R := by
  obtain ⟨A0, E, Tk⟩ := X
  unfold zk_w1 at h
  split at h
  · rename_i A
    obtain ⟨hb, h⟩ := zz_cond h
    obtain ⟨b1, hb⟩ := zz_and hb
    obtain ⟨b2, b3⟩ := zz_and hb
    cases h
    obtain ⟨e1, e2⟩ := hk A rfl
    intro K s f hpv hG
    obtain ⟨g1, k1, k2⟩ := hG
    obtain ⟨f', m1, m2, m3, m4⟩ := e2 K s f hpv g1
    have e1 : A0.2.2.2.1 = A.2.2.2.1 := e1
    have m4 : zk_rF (zk_tg1 A0) k f.2.2.2 f'.2.2.2 := m4
    have hk3 : (zk_h HT (zk_tg1 A0)).1 = 3 := zz_beq b3
    have hel : ∀ r, (zk_h HT r).1 = 0 → zz_g f'.2.2.2 r = zz_g f.2.2.2 r := fun r hr => m4.1 r (fun e => by rw [e] at hr; omega)
    have hE' : zk_eF s E f'.2.2.2 := by
      intro y hy
      have h1 := k1 y hy
      have h2 := hel y.1 (zk_eW_row b2 y hy)
      unfold zk_el at h1 ⊢
      rw [h2]
      exact h1
    refine ⟨s, f', (n, (A, E, zk_off SU Tk (zk_tg1 A0) k ++ cv.map (fun x => x.1))), m1, List.mem_cons_self, m2, ⟨m3, hE', fun t ht => ?_⟩, Nat.le_of_eq (congrArg List.length e1), fun _ _ => rfl⟩
    rcases List.mem_append.mp ht with ht | ht
    · obtain ⟨t1, t2, t3⟩ := zk_off_ok ht
      refine hTT.1 t f.2.2.2 f'.2.2.2 g1.2.2.2.2.2.1 m3.2.2.2.2.2.1 (fun q hq h9 => ?_) (fun q hq h9 => ?_) (k2 t t1)
      · by_cases hq1 : q.1 = zk_tg1 A0
        · have hq2 : q.2 ≠ k := fun e => t2 (by rw [← hq1, ← e]; exact hq)
          have := m4.2 q.2 hq2
          rw [← hq1] at this
          exact this
        · unfold zk_fd
          rw [m4.1 q.1 hq1]
      · by_cases hq1 : q.1 = zk_tg1 A0
        · exact absurd (show (zk_tg1 A0, 999) ∈ SU t by rw [← hq1, ← h9]; exact hq) t3
        · exact m4.1 q.1 hq1
    · obtain ⟨y, y1, y2⟩ := List.mem_map.mp ht
      subst y2
      refine zk_cv_ok hTT (List.all_eq_true.mp b1 y y1) m3.2.2.2.2.2.1 g1.2.2.2.1 g1.2.2.2.2.1 g1.2.2.1 m3.2.2.1 hE' k2 (fun r m hr hm _ => ?_)
      unfold zk_el
      rw [hel r hr]
  · cases h
/-- an element is set: known (kn) or not -/
def zk_w2 (HT : List (List zk_H)) (SU : Nat → List (Nat × Nat)) (TS : Nat → Option zk_Sp) (kn : Bool) (X : zk_St) (n : Nat) (cv : List zk_Cv) (o : Option zk_A) : Option (List (Nat × zk_St)) := match o with
  | some A =>
    let E := cond kn ((zk_tg2 X.1, zk_ix2 X.1, zk_vl X.1) :: X.2.1.filter (fun x => !(Nat.beq x.1 (zk_tg2 X.1)))) (X.2.1.filter (fun x => !(Nat.beq x.1 (zk_tg2 X.1))))
    cond (cv.all (fun x => zk_cv HT TS X.2.2 X.1.2.2.2.1 X.1.2.2.2.2 X.1.2.2.1 A.2.2.1 E x && (match x.2.2.1 with
        | e :: _ => zl_nul (zl_sub e (zk_ix2 X.1))
        | [] => false)) && zk_eW HT X.1.2.2.2.1.length E)
    (some [(n, (A, E, zk_ofc SU X.2.2 (zk_tg2 X.1) ++ cv.map (fun x => x.1)))]) none
  | none => none
theorem zk_w2_ok {c : Nat} {HT : List (List zk_H)} {M : zk_M} {w0 : zk_W0} {PT : Nat → zz_W → Prop} {SU : Nat → List (Nat × Nat)} {TS : Nat → Option zk_Sp} (hTT : zk_TT c HT PT SU TS) {act : zz_A} {kn : Bool} {X : zk_St} {n : Nat} {cv : List zk_Cv} {o : Option zk_A} {R : List (Nat × zk_St)} (h : zk_w2 HT SU TS kn X n cv o = some R) (hk : ∀ A, o = some A → zk_SW c HT M w0 act n X.1 A (fun s w w' => zk_rR (zk_tg2 X.1) (zl_ev s (zk_ix2 X.1)) w w' ∧ 0 ≤ zl_ev s (zk_ix2 X.1) ∧ (kn = true → zk_el w' (zk_tg2 X.1) (zl_ev s (zk_ix2 X.1)) = zl_ev s (zk_vl X.1)))) : zk_R2 PT c HT M w0 act X R := by
  obtain ⟨A0, E, Tk⟩ := X
  unfold zk_w2 at h
  split at h
  · rename_i A
    obtain ⟨hb, h⟩ := zz_cond h
    obtain ⟨b1, -⟩ := zz_and hb
    have hR := (Option.some.inj h).symm
    subst hR
    obtain ⟨e1, e2⟩ := hk A rfl
    intro K s f hpv hG
    obtain ⟨g1, k1, k2⟩ := hG
    have k1 : zk_eF s E f.2.2.2 := k1
    have k2 : ∀ t ∈ Tk, PT t f.2.2.2 := k2
    obtain ⟨f', m1, m2, m3, m4, m5, m6⟩ := e2 K s f hpv g1
    have e1 : A0.2.2.2.1 = A.2.2.2.1 := e1
    have m4 : zk_rR (zk_tg2 A0) (zl_ev s (zk_ix2 A0)) f.2.2.2 f'.2.2.2 := m4
    have hfil : zk_eF s (E.filter (fun x => !(Nat.beq x.1 (zk_tg2 A0)))) f'.2.2.2 := by
      intro y hy
      obtain ⟨y1, y2⟩ := List.mem_filter.mp hy
      have h1 := k1 y y1
      have h2 := m4.1 y.1 (zk_nbeq y2)
      unfold zk_el at h1 ⊢
      rw [h2]
      exact h1
    have hE' : zk_eF s (cond kn ((zk_tg2 A0, zk_ix2 A0, zk_vl A0) :: E.filter (fun x => !(Nat.beq x.1 (zk_tg2 A0)))) (E.filter (fun x => !(Nat.beq x.1 (zk_tg2 A0))))) f'.2.2.2 := by
      cases kn with
      | false => exact hfil
      | true =>
        intro y hy
        rcases List.mem_cons.mp hy with ey | hy
        · subst ey
          exact ⟨m5, m6 rfl⟩
        · exact hfil y hy
    refine ⟨s, f', (n, (A, _, zk_ofc SU Tk (zk_tg2 A0) ++ cv.map (fun x => x.1))), m1, List.mem_cons_self, m2, ⟨m3, hE', fun t ht => ?_⟩, Nat.le_of_eq (congrArg List.length e1), fun _ _ => rfl⟩
    rcases List.mem_append.mp ht with ht | ht
    · obtain ⟨t1, t3⟩ := zk_ofc_ok ht
      refine hTT.1 t f.2.2.2 f'.2.2.2 g1.2.2.2.2.2.1 m3.2.2.2.2.2.1 (fun q hq h9 => ?_) (fun q hq h9 => ?_) (k2 t t1)
      · unfold zk_fd
        rw [m4.1 q.1 (t3 q hq)]
      · exact m4.1 q.1 (t3 q hq)
    · obtain ⟨y, y1, y2⟩ := List.mem_map.mp ht
      subst y2
      obtain ⟨y3, y4⟩ := zz_and (List.all_eq_true.mp b1 y y1)
      refine zk_cv_ok hTT y3 m3.2.2.2.2.2.1 g1.2.2.2.1 g1.2.2.2.2.1 g1.2.2.1 m3.2.2.1 hE' k2 (fun r m hr hm hne => ?_)
      by_cases hr2 : r = zk_tg2 A0
      · subst hr2
        refine m4.2 m hm ?_
        split at y4
        · rename_i e l he
          have h1 := zl_nul_ok (s := s) y4
          rw [zl_sub_ev] at h1
          have h1 : zl_ev s e - zl_ev s (zk_ix2 A0) = 0 := h1
          have := hne e l he
          omega
        · cases y4
      · unfold zk_el
        rw [m4.1 r hr2]
  · cases h
/-! EDGES of states -/
def zk_eeq (t : List zl_E) (D E : List zk_E1) : Bool := D.all (fun x => Nat.ble x.2.1.2.length t.length && (Nat.ble x.2.2.2.length t.length && (match zk_ek E x.1 (zl_subst t x.2.1) with
  | some v => zl_nul (zl_sub (zl_subst t x.2.2) v)
  | none => false)))
theorem zk_eeq_ok {s : Nat → Int} {t : List zl_E} {D E : List zk_E1} {w : zz_W} (h : zk_eeq t D E = true) (hE : zk_eF s E w) : zk_eF (zk_u s t) D w := by
  intro x hx
  have h1 := List.all_eq_true.mp h x hx
  obtain ⟨b1, hb⟩ := zz_and h1
  obtain ⟨b2, b3⟩ := zz_and hb
  split at b3
  · rename_i v hv
    have h2 := zk_ek_ok hv hE
    have h3 := zl_nul_ok (s := s) b3
    rw [zl_sub_ev] at h3
    rw [zl_subst_ev (u := zk_u s t) (zz_ble b2) zk_u_at] at h3
    rw [zl_subst_ev (u := zk_u s t) (zz_ble b1) zk_u_at] at h2
    refine ⟨h2.1, ?_⟩
    rw [h2.2]
    omega
  · cases b3
def zk_keq (HT : List (List zk_H)) (TS : Nat → Option zk_Sp) (X : zk_St) (D : List Nat) (cv : List zk_Cv) : Bool := cv.all (zk_cv HT TS X.2.2 X.1.2.2.2.1 X.1.2.2.2.2 X.1.2.2.1 X.1.2.2.1 X.2.1) && D.all (fun t => X.2.2.any (Nat.beq t) || cv.any (fun x => Nat.beq t x.1))
theorem zk_keq_ok {c : Nat} {HT : List (List zk_H)} {PT : Nat → zz_W → Prop} {SU : Nat → List (Nat × Nat)} {TS : Nat → Option zk_Sp} (hTT : zk_TT c HT PT SU TS) {I : zz_W → Prop} (hI : ∀ w, I w → zk_I c HT w) {X : zk_St} {D : List Nat} {cv : List zk_Cv} (h : zk_keq HT TS X D cv = true) {s : Nat → Int} {f : zz_F} (hG : zk_G2 PT I s X f) : ∀ t ∈ D, PT t f.2.2.2 := by
  obtain ⟨b1, b2⟩ := zz_and h
  obtain ⟨g1, k1, k2⟩ := hG
  intro t ht
  rcases Bool.or_eq_true_iff.mp (List.all_eq_true.mp b2 t ht) with h1 | h1
  · exact k2 t (zk_any_beq h1)
  · obtain ⟨x, x1, x2⟩ := List.any_eq_true.mp h1
    rw [zz_beq x2]
    exact zk_cv_ok hTT (List.all_eq_true.mp b1 x x1) (hI _ g1.2.2.2.2.2) g1.2.2.2.1 g1.2.2.2.2.1 g1.2.2.1 g1.2.2.1 k1 k2 (fun _ _ _ _ _ => rfl)
def zk_edg2 (HT : List (List zk_H)) (TS : Nat → Option zk_Sp) (X D : zk_St) (h : zk_Eh) (cv : List zk_Cv) : Bool := zk_edge X.1 D.1 h && (zk_eeq h.1 D.2.1 X.2.1 && zk_keq HT TS X D.2.2 cv)
theorem zk_edg2_ok {c : Nat} {HT : List (List zk_H)} {PT : Nat → zz_W → Prop} {SU : Nat → List (Nat × Nat)} {TS : Nat → Option zk_Sp} (hTT : zk_TT c HT PT SU TS) {I : zz_W → Prop} (hI : ∀ w, I w → zk_I c HT w) {X D : zk_St} {h : zk_Eh} {cv : List zk_Cv} (he : zk_edg2 HT TS X D h cv = true) {s : Nat → Int} {f : zz_F} (hG : zk_G2 PT I s X f) : zk_G2 PT I (zk_u s h.1) D f ∧ D.1.2.2.2.1.length = h.1.length := by
  obtain ⟨b1, hb⟩ := zz_and he
  obtain ⟨b2, b3⟩ := zz_and hb
  obtain ⟨e1, e2⟩ := zk_edge_ok b1 hG.1
  exact ⟨⟨e1, zk_eeq_ok b2 hG.2.1, zk_keq_ok hTT hI b3 hG⟩, e2⟩
