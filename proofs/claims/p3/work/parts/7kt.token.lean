/-! TOKENS, on: how one follows from another, through a write or without one -/
noncomputable section
theorem zk_sl2_u {s : Nat → Int} {t : List zl_E} {l : List Int} (h : zk_sl2 s t l) : zk_u s t = fun m => l.getD m 0 := by
  funext m
  unfold zk_u
  cases hm : t[m]? with
  | some q => exact (h.2 m q hm).symm
  | none =>
    have h1 : l.length ≤ m := by
      rw [← h.1]
      exact List.getElem?_eq_none_iff.mp hm
    show (0 : Int) = l.getD m 0
    rw [List.getD_eq_getElem?_getD, List.getElem?_eq_none h1]
    rfl
theorem zk_sl2_sy {s : Nat → Int} : ∀ {l : List Int} {n : Nat}, (∀ m, m < l.length → s (n + m) = l.getD m 0) → zk_sl2 s (zk_syms n l.length) l
  | [], _, _ => zk_sl2_nil
  | x :: l, n, h => by
    have h0 := h 0 (by simp)
    refine zk_sl2_cons ?_ (zk_sl2_sy (l := l) (n := n + 1) (fun m hm => ?_))
    · rw [zl_sym_ev]
      exact h0.symm
    · have := h (m + 1) (by simpa using hm)
      rw [show n + 1 + m = n + (m + 1) by omega, this]
      rfl
/-- hints of a case: 0 it can't be; k + 1: it is the case k of what follows -/
abbrev zk_Gh : Type := Nat × List (List Nat)
def zk_gl (B : List (Int × Int)) (C t : List zl_E) (ds : List (List zl_E)) (h : zk_Gh) : Bool := match h.1 with
  | 0 => zl_en B C (h.2.getD 0 []) (zl_con (-1))
  | k + 1 => match ds[k]? with
    | some d => zk_ens B C t d h.2
    | none => false
theorem zk_gl_ok {s : Nat → Int} {B : List (Int × Int)} {C t : List zl_E} {ds : List (List zl_E)} {h : zk_Gh} (hB : zl_in s B) (hC : zk_cs s C) (hg : zk_gl B C t ds h = true) : ∃ d ∈ ds, zk_cs (zk_u s t) d := by
  unfold zk_gl at hg
  split at hg
  · have := zl_en_ok hB hC hg
    rw [zl_con_ev] at this
    omega
  · rename_i k hk
    split at hg
    · rename_i d hd
      exact ⟨d, List.mem_of_getElem? hd, zk_ens_ok hB hC hg⟩
    · cases hg
def zk_gls (B : List (Int × Int)) (C t0 t : List zl_E) (ds : List (List zl_E)) : List (List zl_E) → List zk_Gh → Bool
  | [], _ => true
  | d :: r, h :: hs => d.all (fun c => Nat.ble (zl_mx c.2) t0.length) && (zk_gl B (d.map (zl_subst t0) ++ C) t ds h && zk_gls B C t0 t ds r hs)
  | _ :: _, [] => false
theorem zk_gls_ok {s : Nat → Int} {B : List (Int × Int)} {C t0 t : List zl_E} {ds : List (List zl_E)} (hB : zl_in s B) (hC : zk_cs s C) : ∀ {ds0 : List (List zl_E)} {hs : List zk_Gh}, zk_gls B C t0 t ds ds0 hs = true → ∀ d ∈ ds0, zk_cs (zk_u s t0) d → ∃ d ∈ ds, zk_cs (zk_u s t) d
  | [], _, _, d, hd, _ => absurd hd List.not_mem_nil
  | _ :: _, [], h, _, _, _ => by cases h
  | d0 :: r, h0 :: hs, h, d, hd, hc => by
    unfold zk_gls at h
    obtain ⟨b1, hb⟩ := zz_and h
    obtain ⟨b2, b3⟩ := zz_and hb
    rcases List.mem_cons.mp hd with e | hd
    · subst e
      refine zk_gl_ok hB (fun c hc' => ?_) b2
      rcases List.mem_append.mp hc' with hc' | hc'
      · obtain ⟨c0, c1, c2⟩ := List.mem_map.mp hc'
        subst c2
        rw [zl_subst_ev (u := zk_u s t0) (zz_ble (List.all_eq_true.mp b1 c0 c1)) zk_u_at]
        exact hc c0 c1
      · exact hC c hc'
    · exact zk_gls_ok hB hC b3 d hd hc
/-- at the place e: what is known of the elements there -/
def zk_mid (E : List zk_E1) (e : zl_E) : Nat → List Nat → List zl_E
  | _, [] => []
  | n, r :: rs => match cond (Nat.blt r 1000000) (zk_ek E r e) none with
    | some v => zl_sub (zl_sym n) v :: zl_sub v (zl_sym n) :: zk_mid E e (n + 1) rs
    | none => zk_mid E e (n + 1) rs
theorem zk_mid_ok {s : Nat → Int} {E : List zk_E1} {e : zl_E} {w : zz_W} (hE : zk_eF s E w) : ∀ {rs : List Nat} {n : Nat}, (∀ m, m < rs.length → s (n + m) = (rs.map (fun r => zk_el w r (zl_ev s e))).getD m 0) → zk_cs s (zk_mid E e n rs)
  | [], _, _ => fun c hc => by cases hc
  | r :: rs, n, h => by
    have h0 : s n = zk_el w r (zl_ev s e) := h 0 (by simp)
    have ih := zk_mid_ok (rs := rs) (n := n + 1) hE (fun m hm => by
      have := h (m + 1) (by simpa using hm)
      rw [show n + 1 + m = n + (m + 1) by omega, this]
      rfl)
    unfold zk_mid
    split
    · rename_i v hv
      obtain ⟨b0, hv⟩ := zz_cond hv
      have hv := (zk_ek_ok hv hE).2
      rw [zk_xe_r b0] at hv
      intro c hc
      rcases List.mem_cons.mp hc with ec | hc
      · rw [ec, zl_sub_ev, zl_sym_ev]; omega
      · rcases List.mem_cons.mp hc with ec | hc
        · rw [ec, zl_sub_ev, zl_sym_ev]; omega
        · exact ih c hc
    · exact ih
def zk_leN : List Nat → List Nat → Bool
  | [], [] => true
  | a :: l, b :: m => Nat.beq a b && zk_leN l m
  | _, _ => false
theorem zk_leN_ok : ∀ {l m : List Nat}, zk_leN l m = true → l = m
  | [], [], _ => rfl
  | [], _ :: _, h => by cases h
  | _ :: _, [], h => by cases h
  | a :: l, b :: m, h => by
    obtain ⟨h1, h2⟩ := zz_and h
    rw [zz_beq h1, zk_leN_ok h2]
/-- what it comes from: the fields' sums and the cases -/
def zk_src (TS : zk_TY) (K : List Nat) (F : List ((Nat × Nat) × zk_V)) (rows : List Nat) : Nat → Option (List zl_E × List (List zl_E))
  | 0 => some ([], [[]])
  | t + 1 => match TS.1 t with
    | some p => cond ((Nat.blt t 1000 && K.any (Nat.beq t)) && zk_leN p.1 rows) (match zk_fsm F p.2.1 with
      | some f => some (f, p.2.2)
      | none => none) none
    | none => none
/-- which token, from which (0: none; t + 1), the place that is looked at alone, hints -/
abbrev zk_Cv : Type := Nat × Nat × List zl_E × List zk_Gh × List zk_Gh × zk_Gh
def zk_cv (HT : List (List zk_H)) (TS : zk_TY) (K : List Nat) (B : List (Int × Int)) (C : List zl_E) (F0 F1 : List ((Nat × Nat) × zk_V)) (E : List zk_E1) (x : zk_Cv) : Bool := match TS.1 x.1 with
  | some (r0 :: rs, fs, ds) => match zk_fsm F1 fs, zk_src TS K F0 (r0 :: rs) x.2.1 with
    | some f1, some (f0, ds0) =>
      (Nat.blt x.1 1000 && (r0 :: rs).all (fun r => Nat.beq (zk_h HT r).1 0 && Nat.ble (zk_h HT r0).2.2.1 (zk_h HT r).2.2.1)) && (zk_wf B.length [] [] F0 C && (zk_wf B.length [] [] F1 C && (zk_eW HT B.length E &&
      (match x.2.2.1 with
        | [] => zk_gls (B ++ (0, ((zk_h HT r0).2.2.1 : Int) - 1) :: (r0 :: rs).map (fun r => ((zk_h HT r).2.2.2.1, (zk_h HT r).2.2.2.2.1))) C (zl_sym B.length :: (zk_syms (B.length + 1) (r0 :: rs).length ++ f0)) (zl_sym B.length :: (zk_syms (B.length + 1) (r0 :: rs).length ++ f1)) ds ds0 x.2.2.2.1
        | e :: _ => Nat.ble (zl_mx e.2) B.length && (zk_gls (B ++ (0, ((zk_h HT r0).2.2.1 : Int) - 1) :: (r0 :: rs).map (fun r => ((zk_h HT r).2.2.2.1, (zk_h HT r).2.2.2.2.1))) (zl_sub (zl_sub e (zl_sym B.length)) (zl_con 1) :: C) (zl_sym B.length :: (zk_syms (B.length + 1) (r0 :: rs).length ++ f0)) (zl_sym B.length :: (zk_syms (B.length + 1) (r0 :: rs).length ++ f1)) ds ds0 x.2.2.2.1 &&
          (zk_gls (B ++ (0, ((zk_h HT r0).2.2.1 : Int) - 1) :: (r0 :: rs).map (fun r => ((zk_h HT r).2.2.2.1, (zk_h HT r).2.2.2.2.1))) (zl_sub (zl_sub (zl_sym B.length) e) (zl_con 1) :: C) (zl_sym B.length :: (zk_syms (B.length + 1) (r0 :: rs).length ++ f0)) (zl_sym B.length :: (zk_syms (B.length + 1) (r0 :: rs).length ++ f1)) ds ds0 x.2.2.2.2.1 &&
          zk_gl (B ++ (0, ((zk_h HT r0).2.2.1 : Int) - 1) :: (r0 :: rs).map (fun r => ((zk_h HT r).2.2.2.1, (zk_h HT r).2.2.2.2.1))) (zl_sub (zl_sym B.length) e :: zl_sub e (zl_sym B.length) :: (zk_mid E e (B.length + 1) (r0 :: rs) ++ C)) (zl_sym B.length :: (zk_syms (B.length + 1) (r0 :: rs).length ++ f1)) ds x.2.2.2.2.2))))))
    | _, _ => false
  | _ => false
theorem zk_getD_map {α : Type} (f : α → Int) : ∀ (l : List α) (m : Nat) (a : α), l[m]? = some a → (l.map f).getD m 0 = f a := by
  intro l m a h
  rw [List.getD_eq_getElem?_getD, List.getElem?_map, h]
  rfl
theorem zk_cv_ok {c : Nat} {HT : List (List zk_H)} {PT : Nat → zz_W → Prop} {SU : Nat → List (Nat × Nat)} {TS : zk_TY} (hTT : zk_TT c HT PT SU TS) {K : List Nat} {B : List (Int × Int)} {C : List zl_E} {F0 F1 : List ((Nat × Nat) × zk_V)} {E : List zk_E1} {x : zk_Cv} (h : zk_cv HT TS K B C F0 F1 E x = true) {s : Nat → Int} {wS w : zz_W} (hI : zk_I c HT w) (hB : zl_in s B) (hC : zk_cs s C) (hF0 : zk_fl s F0 wS) (hF1 : zk_fl s F1 w) (hE : zk_eF s E w) (hK : ∀ t ∈ K, PT t wS)
    (hrow : ∀ r m, (zk_h HT r).1 = 0 → 0 ≤ m → (∀ e l, x.2.2.1 = e :: l → m ≠ zl_ev s e) → zk_el w r m = zk_el wS r m) : PT x.1 w := by
  unfold zk_cv at h
  split at h
  · rename_i r0 rs fs ds hp
    split at h
    · rename_i f1 f0 ds0 hf1 hsrc
      obtain ⟨b1, hb⟩ := zz_and h
      obtain ⟨b0, b1⟩ := zz_and b1
      obtain ⟨b2, hb⟩ := zz_and hb
      obtain ⟨b3, hb⟩ := zz_and hb
      obtain ⟨b4, b5⟩ := zz_and hb
      refine (hTT.2.1 _ _ (zz_blt b0) hp w).mpr (fun j hj => ?_)
      have hj : ∀ r ∈ r0 :: rs, j < (zk_h HT r).2.2.1 := hj
      generalize hvl : (r0 :: rs).map (fun r => zk_el w r (j : Int)) = vl
      have hvlen : vl.length = (r0 :: rs).length := by rw [← hvl, List.length_map]
      have hd : ∀ m, m < B.length → (fun m => if m < B.length then s m else ((j : Int) :: vl).getD (m - B.length) 0) m = s m := fun m hm => if_pos hm
      have hnew : ∀ m, (fun m => if m < B.length then s m else ((j : Int) :: vl).getD (m - B.length) 0) (B.length + m) = ((j : Int) :: vl).getD m 0 := by
        intro m
        show (if B.length + m < B.length then _ else _) = _
        rw [if_neg (by omega)]
        congr 1
        omega
      generalize (fun m => if m < B.length then s m else ((j : Int) :: vl).getD (m - B.length) 0) = s2 at hd hnew
      obtain ⟨-, -, y3, y4⟩ := zk_wf_ok (lv := []) (st := []) b2 hd (fun q hq => absurd hq List.not_mem_nil) trivial hF0 hC
      obtain ⟨-, -, z3, -⟩ := zk_wf_ok (lv := []) (st := []) b3 hd (fun q hq => absurd hq List.not_mem_nil) trivial hF1 hC
      have hE2 := zk_eW_eq b4 hd hE
      have hjs : (j : Int) = zl_ev s2 (zl_sym B.length) := by
        rw [zl_sym_ev]
        have := hnew 0
        rw [Nat.add_zero] at this
        rw [this]
        rfl
      have hsy : zk_sl2 s2 (zk_syms (B.length + 1) (r0 :: rs).length) vl := by
        rw [← hvlen]
        refine zk_sl2_sy (fun m hm => ?_)
        rw [show B.length + 1 + m = B.length + (m + 1) by omega, hnew]
        rfl
      have hB2 : zl_in s2 (B ++ (0, ((zk_h HT r0).2.2.1 : Int) - 1) :: (r0 :: rs).map (fun r => ((zk_h HT r).2.2.2.1, (zk_h HT r).2.2.2.2.1))) := by
        intro k q hq
        by_cases hk : k < B.length
        · rw [List.getElem?_append_left hk] at hq
          rw [hd k hk]
          exact hB k q hq
        · rw [List.getElem?_append_right (by omega)] at hq
          have e1 := hnew (k - B.length)
          rw [show B.length + (k - B.length) = k by omega] at e1
          rw [e1]
          cases hk2 : k - B.length with
          | zero =>
            rw [hk2] at hq
            cases hq
            have := hj r0 List.mem_cons_self
            show (0 : Int) ≤ (j : Int) ∧ (j : Int) ≤ ((zk_h HT r0).2.2.1 : Int) - 1
            omega
          | succ m =>
            rw [hk2] at hq
            have hq : ((r0 :: rs).map (fun r => ((zk_h HT r).2.2.2.1, (zk_h HT r).2.2.2.2.1)))[m]? = some q := hq
            rw [List.getElem?_map] at hq
            cases hr : (r0 :: rs)[m]? with
            | none => rw [hr] at hq; cases hq
            | some r =>
              rw [hr] at hq
              cases hq
              have hmem := List.mem_of_getElem? hr
              obtain ⟨c1, c2⟩ := zz_and (List.all_eq_true.mp b1 r hmem)
              have hv : vl.getD m 0 = zk_el w r (j : Int) := by
                rw [← hvl]
                exact zk_getD_map _ _ _ _ hr
              show _ ≤ vl.getD m 0 ∧ vl.getD m 0 ≤ _
              rw [hv]
              obtain ⟨-, -, -, -, h0, -⟩ := hI.2.2.2 r (by have := zz_beq c1; omega)
              have := (h0 (zz_beq c1) j (hj r hmem)).1
              unfold zk_el
              rw [show ((j : Int)).toNat = j by omega]
              exact this
      have hs1 : zk_sl2 s2 (zl_sym B.length :: (zk_syms (B.length + 1) (r0 :: rs).length ++ f1)) (zk_al w (r0 :: rs) fs j) := by
        unfold zk_al
        rw [hvl]
        exact zk_sl2_cons hjs (zk_sl2_app hsy (zk_fsm_ok z3 hf1))
      have hu1 := zk_sl2_u hs1
      -- what is known of the source at j
      have hsrc2 : (∀ e l, x.2.2.1 = e :: l → (j : Int) ≠ zl_ev s e) → ∃ d ∈ ds0, zk_cs (zk_u s2 (zl_sym B.length :: (zk_syms (B.length + 1) (r0 :: rs).length ++ f0))) d := by
        intro hne
        unfold zk_src at hsrc
        split at hsrc
        · cases hsrc
          exact ⟨[], List.mem_cons_self, fun c hc => by cases hc⟩
        · rename_i t ht
          split at hsrc
          · rename_i p hp0
            obtain ⟨hbb, hsrc⟩ := zz_cond hsrc
            obtain ⟨d1, d2⟩ := zz_and hbb
            obtain ⟨d0, d1⟩ := zz_and d1
            split at hsrc
            · rename_i f hf
              cases hsrc
              have hrows := zk_leN_ok d2
              have hP := (hTT.2.1 _ _ (zz_blt d0) hp0 wS).mp (hK t (zk_any_beq d1)) j (by rw [hrows]; exact hj)
              obtain ⟨d, e1, e2⟩ := hP
              refine ⟨d, e1, ?_⟩
              have hs0 : zk_sl2 s2 (zl_sym B.length :: (zk_syms (B.length + 1) (r0 :: rs).length ++ f0)) (zk_al wS p.1 p.2.1 j) := by
                unfold zk_al
                rw [hrows]
                refine zk_sl2_cons hjs (zk_sl2_app ?_ (zk_fsm_ok y3 hf))
                rw [show (r0 :: rs).map (fun r => zk_el wS r (j : Int)) = vl from ?_]
                · exact hsy
                · rw [← hvl]
                  refine List.map_congr_left (fun r hr => ?_)
                  exact (hrow r j (zz_beq (zz_and (List.all_eq_true.mp b1 r hr)).1) (by omega) hne).symm
              rw [zk_sl2_u hs0]
              exact e2
            · cases hsrc
          · cases hsrc
      show ∃ d ∈ ds, zk_cs (fun m => (zk_al w (r0 :: rs) fs j).getD m 0) d
      rw [← hu1]
      split at b5
      · rename_i hx
        obtain ⟨d, d1, d2⟩ := hsrc2 (fun e l he => by rw [hx] at he; cases he)
        exact zk_gls_ok hB2 y4 b5 d d1 d2
      · rename_i e l hx
        obtain ⟨c1, b5⟩ := zz_and b5
        obtain ⟨c2, b5⟩ := zz_and b5
        obtain ⟨c3, c4⟩ := zz_and b5
        have he : zl_ev s2 e = zl_ev s e := zl_ev_eq (n := B.length) (zz_ble c1) hd
        by_cases h1 : (j : Int) = zl_ev s e
        · refine zk_gl_ok hB2 (fun q hq => ?_) c4
          rcases List.mem_cons.mp hq with eq | hq
          · rw [eq, zl_sub_ev, ← hjs, he]; omega
          · rcases List.mem_cons.mp hq with eq | hq
            · rw [eq, zl_sub_ev, ← hjs, he]; omega
            · rcases List.mem_append.mp hq with hq | hq
              · refine zk_mid_ok hE2 (fun m hm => ?_) q hq
                rw [show B.length + 1 + m = B.length + (m + 1) by omega, hnew, he, ← h1, hvl]
                rfl
              · exact y4 q hq
        · obtain ⟨d, d1, d2⟩ := hsrc2 (fun e' l' he' => by rw [hx] at he'; cases he'; exact h1)
          by_cases h2 : (j : Int) < zl_ev s e
          · refine zk_gls_ok hB2 (fun q hq => ?_) c2 d d1 d2
            rcases List.mem_cons.mp hq with eq | hq
            · rw [eq, zl_sub_ev, zl_sub_ev, zl_con_ev, ← hjs, he]; omega
            · exact y4 q hq
          · refine zk_gls_ok hB2 (fun q hq => ?_) c3 d d1 d2
            rcases List.mem_cons.mp hq with eq | hq
            · rw [eq, zl_sub_ev, zl_sub_ev, zl_con_ev, ← hjs, he]; omega
            · exact y4 q hq
    · cases h
  · cases h
/-! LAWS OF TWO PLACES: how one follows from others -/
/-- of a symbol: 0 anything, 1 ahead of e, 2 behind e, 3 at e -/
def zk_rgc (n : Nat) (e : zl_E) (g : Nat) : List zl_E := match g with
  | 1 => [zl_sub (zl_sub e (zl_sym n)) (zl_con 1)]
  | 2 => [zl_sub (zl_sub (zl_sym n) e) (zl_con 1)]
  | 3 => [zl_sub (zl_sym n) e, zl_sub e (zl_sym n)]
  | _ => []
def zk_rgs (p : List zl_E) : List Nat := match p with
  | [] => [0]
  | _ :: _ => [1, 2, 3]
def zk_rin (g : Nat) (v e : Int) : Prop := (g = 1 → v < e) ∧ (g = 2 → e < v) ∧ (g = 3 → v = e)
theorem zk_rgs_ex (p : List zl_E) (v e : Int) : ∃ g ∈ zk_rgs p, zk_rin g v e ∧ (g = 0 → p = []) := by
  cases p with
  | nil => exact ⟨0, List.mem_cons_self, ⟨fun h => by omega, fun h => by omega, fun h => by omega⟩, fun _ => rfl⟩
  | cons a l =>
    by_cases h1 : v < e
    · exact ⟨1, List.mem_cons_self, ⟨fun _ => h1, fun h => by omega, fun h => by omega⟩, fun h => by omega⟩
    · by_cases h2 : e < v
      · exact ⟨2, List.mem_cons_of_mem _ List.mem_cons_self, ⟨fun h => by omega, fun _ => h2, fun h => by omega⟩, fun h => by omega⟩
      · exact ⟨3, List.mem_cons_of_mem _ (List.mem_cons_of_mem _ List.mem_cons_self), ⟨fun h => by omega, fun h => by omega, fun _ => by omega⟩, fun h => by omega⟩
theorem zk_rgc_ok {s : Nat → Int} {n : Nat} {e : zl_E} {g : Nat} (h : zk_rin g (s n) (zl_ev s e)) : zk_cs s (zk_rgc n e g) := by
  intro c hc
  unfold zk_rgc at hc
  split at hc
  · rw [List.mem_singleton.mp hc, zl_sub_ev, zl_sub_ev, zl_sym_ev, zl_con_ev]
    have := h.1 rfl
    omega
  · rw [List.mem_singleton.mp hc, zl_sub_ev, zl_sub_ev, zl_sym_ev, zl_con_ev]
    have := h.2.1 rfl
    omega
  · have := h.2.2 rfl
    rcases List.mem_cons.mp hc with e1 | hc
    · rw [e1, zl_sub_ev, zl_sym_ev]; omega
    · rw [List.mem_singleton.mp hc, zl_sub_ev, zl_sym_ev]; omega
  · cases hc
/-- all cases of all sources, one behind the other; the hints that are left -/
def zk_lv (B : List (Int × Int)) (t : List zl_E) (ds : List (List zl_E)) : List (List zl_E × List (List zl_E)) → List zl_E → List zk_Gh → Option (List zk_Gh)
  | [], C, hs => match hs with
    | [] => none
    | h :: r => cond (zk_gl B C t ds h) (some r) none
  | q :: qs, C, hs => q.2.foldl (fun o d => match o with
    | some h => cond (d.all (fun c => Nat.ble (zl_mx c.2) q.1.length)) (zk_lv B t ds qs (d.map (zl_subst q.1) ++ C) h) none
    | none => none) (some hs)
theorem zk_fol_none {α : Type} (f : α → List zk_Gh → Option (List zk_Gh)) : ∀ (l : List α), l.foldl (fun o d => match o with | some h => f d h | none => none) (none : Option (List zk_Gh)) = none
  | [] => rfl
  | _ :: l => zk_fol_none f l
theorem zk_fol_mem {α : Type} (f : α → List zk_Gh → Option (List zk_Gh)) : ∀ (l : List α) (h r : List zk_Gh), l.foldl (fun o d => match o with | some h => f d h | none => none) (some h) = some r → ∀ d ∈ l, ∃ h1 h2, f d h1 = some h2
  | [], _, _, _, d, hd => absurd hd List.not_mem_nil
  | a :: l, h, r, hf, d, hd => by
    have hf : l.foldl (fun o d => match o with | some h => f d h | none => none) (f a h) = some r := hf
    cases ha : f a h with
    | none =>
      rw [ha, zk_fol_none f l] at hf
      cases hf
    | some h2 =>
      rw [ha] at hf
      rcases List.mem_cons.mp hd with e | hd
      · subst e
        exact ⟨h, h2, ha⟩
      · exact zk_fol_mem f l h2 r hf d hd
theorem zk_lv_ok {s : Nat → Int} {B : List (Int × Int)} {t : List zl_E} {ds : List (List zl_E)} (hB : zl_in s B) : ∀ (Q : List (List zl_E × List (List zl_E))) (C : List zl_E) (h r : List zk_Gh), zk_lv B t ds Q C h = some r → zk_cs s C → (∀ q ∈ Q, ∃ d ∈ q.2, zk_cs (zk_u s q.1) d) → ∃ d ∈ ds, zk_cs (zk_u s t) d
  | [], C, [], r, hl, _, _ => by cases hl
  | [], C, h :: hs, r, hl, hC, _ => by
    have hl : cond (zk_gl B C t ds h) (some hs) none = some r := hl
    obtain ⟨b, -⟩ := zz_cond hl
    exact zk_gl_ok hB hC b
  | q :: qs, C, h, r, hl, hC, hQ => by
    obtain ⟨d, d1, d2⟩ := hQ q List.mem_cons_self
    have hl : q.2.foldl (fun o d => match o with
      | some h => cond (d.all (fun c => Nat.ble (zl_mx c.2) q.1.length)) (zk_lv B t ds qs (d.map (zl_subst q.1) ++ C) h) none
      | none => none) (some h) = some r := hl
    obtain ⟨h1, h2, h3⟩ := zk_fol_mem (fun (d : List zl_E) (h : List zk_Gh) => cond (d.all (fun c => Nat.ble (zl_mx c.2) q.1.length)) (zk_lv B t ds qs (d.map (zl_subst q.1) ++ C) h) none) q.2 h r hl d d1
    obtain ⟨b, h3⟩ := zz_cond h3
    refine zk_lv_ok hB qs _ h1 h2 h3 (fun c hc => ?_) (fun q' hq' => hQ q' (List.mem_cons_of_mem _ hq'))
    rcases List.mem_append.mp hc with hc | hc
    · obtain ⟨c0, c1, c2⟩ := List.mem_map.mp hc
      subst c2
      rw [zl_subst_ev (u := zk_u s q.1) (zz_ble (List.all_eq_true.mp b c0 c1)) zk_u_at]
      exact d2 c0 c1
    · exact hC c hc
/-- the elements at a place are as they were -/
def zk_same (A : List Nat) (p : List zl_E) (W : List (Nat × zl_E)) (g : Nat) : Bool := W.all (fun q => !(A.any (Nat.beq q.1)) || ((match p with
  | [] => false
  | e :: _ => zl_nul (zl_sub e q.2)) && !(Nat.beq g 3)))
theorem zk_same_ok {A : List Nat} {p : List zl_E} {W : List (Nat × zl_E)} {g : Nat} (h : zk_same A p W g = true) {s : Nat → Int} {v : Int} (hg : zk_rin g v (zl_ev s (p.getD 0 (zl_con 0)))) (h0 : g ∈ zk_rgs p) : ∀ q ∈ W, ∀ r ∈ A, q.1 = r → v ≠ zl_ev s q.2 := by
  intro q hq r hr e hv
  rcases Bool.or_eq_true_iff.mp (List.all_eq_true.mp h q hq) with h1 | h1
  · have : A.any (Nat.beq q.1) = true := List.any_eq_true.mpr ⟨r, hr, by rw [e]; exact Nat.beq_refl r⟩
    rw [this] at h1
    cases h1
  · obtain ⟨h1, h2⟩ := zz_and h1
    cases p with
    | nil => cases h1
    | cons a l =>
      have h3 := zl_nul_ok (s := s) (show zl_nul (zl_sub a q.2) = true from h1)
      rw [zl_sub_ev] at h3
      have hg : zk_rin g v (zl_ev s a) := hg
      have h0 : g ∈ [1, 2, 3] := h0
      have hg3 : g ≠ 3 := zk_nbeq h2
      rcases List.mem_cons.mp h0 with e1 | h0
      · have := hg.1 e1
        omega
      · rcases List.mem_cons.mp h0 with e1 | h0
        · have := hg.2.1 e1
          omega
        · exact hg3 (List.mem_singleton.mp h0)
/-- a source: [token, 0 both places, 1 the first, 2 the second] -/
def zk_sr (TS : zk_TY) (K : List Nat) (F0 : List ((Nat × Nat) × zk_V)) (rows A Bw : List Nat) (kA jB : List zl_E) (oA oB : Bool) (q : List Nat) : List zl_E × List (List zl_E) := match q.getD 1 0 with
  | 1 => match TS.1 (q.getD 0 0) with
    | some p => match zk_fsm F0 p.2.1 with
      | some f => cond ((Nat.blt (q.getD 0 0) 1000 && K.any (Nat.beq (q.getD 0 0))) && (zk_leN p.1 A && oA)) (kA ++ f, p.2.2) ([], [[]])
      | none => ([], [[]])
    | none => ([], [[]])
  | 2 => match TS.1 (q.getD 0 0) with
    | some p => match zk_fsm F0 p.2.1 with
      | some f => cond ((Nat.blt (q.getD 0 0) 1000 && K.any (Nat.beq (q.getD 0 0))) && (zk_leN p.1 Bw && oB)) (jB ++ f, p.2.2) ([], [[]])
      | none => ([], [[]])
    | none => ([], [[]])
  | _ => match TS.1 (1000 + q.getD 0 0) with
    | some p => match zk_fsm F0 p.2.1 with
      | some f => cond (K.any (Nat.beq (q.getD 0 0)) && (zk_leN p.1 rows && (oA && oB))) (kA ++ (jB ++ f), p.2.2) ([], [[]])
      | none => ([], [[]])
    | none => ([], [[]])
theorem zk_nos {s : Nat → Int} : ∃ d ∈ (([], [[]]) : List zl_E × List (List zl_E)).2, zk_cs (zk_u s (([], [[]]) : List zl_E × List (List zl_E)).1) d := ⟨[], List.mem_cons_self, fun c hc => by cases hc⟩
theorem zk_sr_ok {c : Nat} {HT : List (List zk_H)} {PT : Nat → zz_W → Prop} {SU : Nat → List (Nat × Nat)} {TS : zk_TY} (hTT : zk_TT c HT PT SU TS) {K : List Nat} {F0 : List ((Nat × Nat) × zk_V)} {rows : List Nat} {kA jB : List zl_E} {oA oB : Bool} {q : List Nat} {s : Nat → Int} {wS : zz_W} {k j : Nat} (hF : zk_fl s F0 wS) (hK : ∀ t ∈ K, PT t wS) (hk : ∀ r ∈ (zk_sp2 rows).1, k < (zk_h HT r).2.2.1) (hj : ∀ r ∈ (zk_sp2 rows).2, j < (zk_h HT r).2.2.1) (hA : oA = true → zk_sl2 s kA (zk_a1 wS (zk_sp2 rows).1 k)) (hB : oB = true → zk_sl2 s jB (zk_a1 wS (zk_sp2 rows).2 j)) : ∃ d ∈ (zk_sr TS K F0 rows (zk_sp2 rows).1 (zk_sp2 rows).2 kA jB oA oB q).2, zk_cs (zk_u s (zk_sr TS K F0 rows (zk_sp2 rows).1 (zk_sp2 rows).2 kA jB oA oB q).1) d := by
  unfold zk_sr
  split
  · split
    · rename_i p hp
      split
      · rename_i f hf
        cases hb : ((Nat.blt (q.getD 0 0) 1000 && K.any (Nat.beq (q.getD 0 0))) && (zk_leN p.1 (zk_sp2 rows).1 && oA)) with
        | false => exact zk_nos
        | true =>
          obtain ⟨b1, b2⟩ := zz_and hb
          obtain ⟨b0, b1⟩ := zz_and b1
          obtain ⟨b2, b3⟩ := zz_and b2
          have hr := zk_leN_ok b2
          obtain ⟨d, d1, d2⟩ := (hTT.2.1 _ _ (zz_blt b0) hp wS).mp (hK _ (zk_any_beq b1)) k (by rw [hr]; exact hk)
          refine ⟨d, d1, ?_⟩
          have h2 : zk_sl2 s (kA ++ f) (zk_al wS p.1 p.2.1 k) := by
            have := zk_sl2_app (hA b3) (zk_fsm_ok hF hf)
            rw [← hr] at this
            exact this
          show zk_cs (zk_u s (kA ++ f)) d
          rw [zk_sl2_u h2]
          exact d2
      · exact zk_nos
    · exact zk_nos
  · split
    · rename_i p hp
      split
      · rename_i f hf
        cases hb : ((Nat.blt (q.getD 0 0) 1000 && K.any (Nat.beq (q.getD 0 0))) && (zk_leN p.1 (zk_sp2 rows).2 && oB)) with
        | false => exact zk_nos
        | true =>
          obtain ⟨b1, b2⟩ := zz_and hb
          obtain ⟨b0, b1⟩ := zz_and b1
          obtain ⟨b2, b3⟩ := zz_and b2
          have hr := zk_leN_ok b2
          obtain ⟨d, d1, d2⟩ := (hTT.2.1 _ _ (zz_blt b0) hp wS).mp (hK _ (zk_any_beq b1)) j (by rw [hr]; exact hj)
          refine ⟨d, d1, ?_⟩
          have h2 : zk_sl2 s (jB ++ f) (zk_al wS p.1 p.2.1 j) := by
            have := zk_sl2_app (hB b3) (zk_fsm_ok hF hf)
            rw [← hr] at this
            exact this
          show zk_cs (zk_u s (jB ++ f)) d
          rw [zk_sl2_u h2]
          exact d2
      · exact zk_nos
    · exact zk_nos
  · split
    · rename_i p hp
      split
      · rename_i f hf
        cases hb : (K.any (Nat.beq (q.getD 0 0)) && (zk_leN p.1 rows && (oA && oB))) with
        | false => exact zk_nos
        | true =>
          obtain ⟨b1, b2⟩ := zz_and hb
          obtain ⟨b2, b3⟩ := zz_and b2
          obtain ⟨b3, b4⟩ := zz_and b3
          have hr := zk_leN_ok b2
          obtain ⟨d, d1, d2⟩ := (hTT.2.2.1 _ _ hp wS).mp (hK _ (zk_any_beq b1)) k j (by rw [hr]; exact hk) (by rw [hr]; exact hj)
          refine ⟨d, d1, ?_⟩
          have h2 : zk_sl2 s (kA ++ (jB ++ f)) (zk_al2 wS (zk_sp2 p.1).1 (zk_sp2 p.1).2 p.2.1 k j) := by
            have := zk_sl2_app (hA b3) (zk_sl2_app (hB b4) (zk_fsm_ok hF hf))
            rw [← hr] at this
            exact this
          show zk_cs (zk_u s (kA ++ (jB ++ f))) d
          rw [zk_sl2_u h2]
          exact d2
      · exact zk_nos
    · exact zk_nos
/-- bounds of a place and of the rows' elements there -/
def zk_bx (HT : List (List zk_H)) (A : List Nat) : List (Int × Int) := (0, ((zk_h HT (A.getD 0 0)).2.2.1 : Int) - 1) :: A.map (fun r => ((zk_h HT r).2.2.2.1, (zk_h HT r).2.2.2.2.1))
def zk_bk (HT : List (List zk_H)) (A : List Nat) : Bool := Nat.blt 0 A.length && A.all (fun r => Nat.beq (zk_h HT r).1 0)
theorem zk_bx_ok {c : Nat} {HT : List (List zk_H)} {A : List Nat} {w : zz_W} {k : Nat} (hI : zk_I c HT w) (hb : zk_bk HT A = true) (hk : ∀ r ∈ A, k < (zk_h HT r).2.2.1) : ∀ (m : Nat) (q : Int × Int), (zk_bx HT A)[m]? = some q → q.1 ≤ (zk_a1 w A k).getD m 0 ∧ (zk_a1 w A k).getD m 0 ≤ q.2 := by
  obtain ⟨b1, b2⟩ := zz_and hb
  have b1 := zz_blt b1
  intro m q hq
  cases m with
  | zero =>
    cases hq
    have h1 : A.getD 0 0 ∈ A := by
      cases A with
      | nil => exact absurd b1 (by simp)
      | cons a l => exact List.mem_cons_self
    have := hk _ h1
    show (0 : Int) ≤ (k : Int) ∧ (k : Int) ≤ ((zk_h HT (A.getD 0 0)).2.2.1 : Int) - 1
    omega
  | succ m =>
    have hq : (A.map (fun r => ((zk_h HT r).2.2.2.1, (zk_h HT r).2.2.2.2.1)))[m]? = some q := hq
    rw [List.getElem?_map] at hq
    cases hr : A[m]? with
    | none => rw [hr] at hq; cases hq
    | some r =>
      rw [hr] at hq
      cases hq
      have hmem := List.mem_of_getElem? hr
      have c1 := zz_beq (List.all_eq_true.mp b2 r hmem)
      have hv : (A.map (fun r => zk_el w r (k : Int))).getD m 0 = zk_el w r (k : Int) := zk_getD_map _ _ _ _ hr
      show _ ≤ (A.map (fun r => zk_el w r (k : Int))).getD m 0 ∧ (A.map (fun r => zk_el w r (k : Int))).getD m 0 ≤ _
      rw [hv]
      obtain ⟨-, -, -, -, h0, -⟩ := hI.2.2.2 r (by omega)
      have := (h0 c1 k (hk r hmem)).1
      unfold zk_el
      rw [show ((k : Int)).toNat = k by omega]
      exact this
theorem zk_bx_len {HT : List (List zk_H)} {A : List Nat} : (zk_bx HT A).length = A.length + 1 := by
  unfold zk_bx
  rw [List.length_cons, List.length_map]
theorem zk_a1_len {w : zz_W} {A : List Nat} {k : Nat} : (zk_a1 w A k).length = A.length + 1 := by
  unfold zk_a1
  rw [List.length_cons, List.length_map]
/-- places that are looked at alone: the first place's, the second's -/
def zk_pA (x : zk_Cv) : List zl_E := match x.2.1 with
  | 1 => x.2.2.1.take 1
  | 3 => x.2.2.1.take 1
  | _ => []
def zk_pB (x : zk_Cv) : List zl_E := match x.2.1 with
  | 2 => x.2.2.1.take 1
  | 3 => x.2.2.1.drop 1
  | _ => []
def zk_rg2 (x : zk_Cv) : List (Nat × Nat) := (zk_rgs (zk_pA x)).flatMap (fun a => (zk_rgs (zk_pB x)).map (fun b => (a, b)))
/-- sums of a region, for one of the places -/
def zk_rgm (E : List zk_E1) (n : Nat) (A : List Nat) (p : List zl_E) (g : Nat) : List zl_E := zk_rgc n (p.getD 0 (zl_con 0)) g ++ cond (Nat.beq g 3) (zk_mid E (p.getD 0 (zl_con 0)) (n + 1) A) []
/-- the elements ahead at the place that is written: what was known of them -/
def zk_olr (E0 : List zk_E1) (r0 : Nat) (e : zl_E) : Nat → List Nat → Option (List zl_E)
  | _, [] => some []
  | n, r :: rs => match cond (Nat.beq r r0) (cond (Nat.blt r 1000000) (zk_ek E0 r e) none) (some (zl_sym n)), zk_olr E0 r0 e (n + 1) rs with
    | some v, some l => some (v :: l)
    | _, _ => none
def zk_ol (E0 : List zk_E1) (n : Nat) (A : List Nat) (p : List zl_E) (W : List (Nat × zl_E)) (g : Nat) : Option (List zl_E) := cond (zk_same A p W g) (some (zk_syms n (A.length + 1))) (match W, p with
  | [q], e :: _ => cond (zl_nul (zl_sub e q.2) && Nat.beq g 3) (match zk_olr E0 q.1 e (n + 1) A with
    | some l => some (zl_sym n :: l)
    | none => none) none
  | _, _ => none)
theorem zk_olr_ok {E0 : List zk_E1} {r0 : Nat} {e : zl_E} {s : Nat → Int} {w wS : zz_W} {k : Nat} (hE : zk_eF s E0 wS) (he : (k : Int) = zl_ev s e) : ∀ {A : List Nat} {n : Nat} {l : List zl_E}, (∀ r ∈ A, r ≠ r0 → zk_el w r (k : Int) = zk_el wS r (k : Int)) → (∀ m, m < A.length → s (n + m) = (A.map (fun r => zk_el w r (k : Int))).getD m 0) → zk_olr E0 r0 e n A = some l → zk_sl2 s l (A.map (fun r => zk_el wS r (k : Int)))
  | [], _, l, _, _, h => by
    cases h
    exact zk_sl2_nil
  | r :: rs, n, l, hne, hs, h => by
    unfold zk_olr at h
    split at h
    · rename_i v l' h1 h2
      cases h
      refine zk_sl2_cons ?_ (zk_olr_ok hE he (fun r' hr' => hne r' (List.mem_cons_of_mem _ hr')) (fun m hm => ?_) h2)
      · cases hb : Nat.beq r r0 with
        | true =>
          rw [hb] at h1
          obtain ⟨b0, h1⟩ := zz_cond (show cond (Nat.blt r 1000000) (zk_ek E0 r e) none = some v from h1)
          have h3 := (zk_ek_ok h1 hE).2
          rw [zk_xe_r b0, ← he] at h3
          exact h3
        | false =>
          rw [hb] at h1
          have h1 : some (zl_sym n) = some v := h1
          cases h1
          have h4 := hs 0 (by simp)
          show zk_el wS r (k : Int) = zl_ev s (zl_sym n)
          rw [zl_sym_ev, ← hne r List.mem_cons_self (fun e2 => by rw [e2, Nat.beq_refl] at hb; cases hb)]
          exact h4.symm
      · have h4 := hs (m + 1) (by simpa using hm)
        rw [show n + 1 + m = n + (m + 1) by omega]
        exact h4
    · cases h
theorem zk_ol_ok {E0 : List zk_E1} {n : Nat} {A : List Nat} {p : List zl_E} {W : List (Nat × zl_E)} {g : Nat} {l : List zl_E} {s : Nat → Int} {w wS : zz_W} {k : Nat} (h : zk_ol E0 n A p W g = some l) (hE : zk_eF s E0 wS) (hg : zk_rin g (k : Int) (zl_ev s (p.getD 0 (zl_con 0)))) (h0 : g ∈ zk_rgs p) (hn : ∀ m, m < A.length + 1 → s (n + m) = (zk_a1 w A k).getD m 0)
    (hrow : ∀ r, (∀ q ∈ W, q.1 = r → (k : Int) ≠ zl_ev s q.2) → r ∈ A → zk_el w r (k : Int) = zk_el wS r (k : Int)) (hall : ∀ r ∈ A, (∀ q ∈ W, q.1 ≠ r) → zk_el w r (k : Int) = zk_el wS r (k : Int)) : zk_sl2 s l (zk_a1 wS A k) := by
  unfold zk_ol at h
  cases hb : zk_same A p W g with
  | true =>
    rw [hb] at h
    have h : some (zk_syms n (A.length + 1)) = some l := h
    cases h
    have e1 : zk_a1 wS A k = zk_a1 w A k := by
      unfold zk_a1
      congr 1
      exact List.map_congr_left (fun r hr => (hrow r (fun q hq e => zk_same_ok hb hg h0 q hq r hr e) hr).symm)
    rw [e1]
    have := zk_sl2_sy (s := s) (l := zk_a1 w A k) (n := n) (fun m hm => hn m (by rw [zk_a1_len] at hm; exact hm))
    rw [zk_a1_len] at this
    exact this
  | false =>
    rw [hb, zk_cF rfl] at h
    cases W with
    | nil =>
      have h : (none : Option (List zl_E)) = some l := h
      cases h
    | cons q W2 =>
      cases W2 with
      | cons _ _ =>
        have h : (none : Option (List zl_E)) = some l := h
        cases h
      | nil =>
        cases p with
        | nil =>
          have h : (none : Option (List zl_E)) = some l := h
          cases h
        | cons e p2 =>
          have h : cond (zl_nul (zl_sub e q.2) && Nat.beq g 3) (match zk_olr E0 q.1 e (n + 1) A with
            | some l => some (zl_sym n :: l)
            | none => none) none = some l := h
          obtain ⟨hc, h⟩ := zz_cond h
          obtain ⟨c1, c2⟩ := zz_and hc
          split at h
          · rename_i l' hl
            cases h
            have hk : (k : Int) = zl_ev s e := hg.2.2 (zz_beq c2)
            refine zk_sl2_cons ?_ (zk_olr_ok hE hk (fun r hrA hr => hall r hrA (fun q' hq' e' => ?_)) (fun m hm => ?_) hl)
            · rw [zl_sym_ev]
              exact (hn 0 (by omega)).symm
            · rw [List.mem_singleton.mp hq'] at e'
              exact hr e'.symm
            · have := hn (m + 1) (by omega)
              rw [show n + 1 + m = n + (m + 1) by omega]
              exact this
          · cases h
def zk_cv2 (HT : List (List zk_H)) (TS : zk_TY) (K : List Nat) (B : List (Int × Int)) (C : List zl_E) (F0 F1 : List ((Nat × Nat) × zk_V)) (E0 E : List zk_E1) (W : List (Nat × zl_E)) (x : zk_Cv) : Bool := match TS.1 (1000 + x.1) with
  | some p => match zk_fsm F1 p.2.1 with
    | some f1 =>
      (zk_bk HT (zk_sp2 p.1).1 && zk_bk HT (zk_sp2 p.1).2) && (zk_wf B.length [] [] F0 C && (zk_wf B.length [] [] F1 C && (((zk_eW HT B.length E && zk_eW HT B.length E0) && W.all (fun q => Nat.ble (zl_mx q.2.2) B.length)) && ((zk_pA x).all (fun e => Nat.ble (zl_mx e.2) B.length) && (zk_pB x).all (fun e => Nat.ble (zl_mx e.2) B.length))))) &&
      ((zk_rg2 x).foldl (fun o g => match o with
        | some h => zk_lv (B ++ (zk_bx HT (zk_sp2 p.1).1 ++ zk_bx HT (zk_sp2 p.1).2)) (zk_syms B.length ((zk_sp2 p.1).1.length + 1) ++ (zk_syms (B.length + ((zk_sp2 p.1).1.length + 1)) ((zk_sp2 p.1).2.length + 1) ++ f1)) p.2.2
          (x.2.2.2.2.2.2.map (zk_sr TS K F0 p.1 (zk_sp2 p.1).1 (zk_sp2 p.1).2 ((zk_ol E0 B.length (zk_sp2 p.1).1 (zk_pA x) W g.1).getD []) ((zk_ol E0 (B.length + ((zk_sp2 p.1).1.length + 1)) (zk_sp2 p.1).2 (zk_pB x) W g.2).getD []) (zk_ol E0 B.length (zk_sp2 p.1).1 (zk_pA x) W g.1).isSome (zk_ol E0 (B.length + ((zk_sp2 p.1).1.length + 1)) (zk_sp2 p.1).2 (zk_pB x) W g.2).isSome))
          (zk_rgm E B.length (zk_sp2 p.1).1 (zk_pA x) g.1 ++ (zk_rgm E (B.length + ((zk_sp2 p.1).1.length + 1)) (zk_sp2 p.1).2 (zk_pB x) g.2 ++ C)) h
        | none => none) (some x.2.2.2.1)).isSome
    | none => false
  | none => false
theorem zk_rgm_ok {E : List zk_E1} {n : Nat} {A : List Nat} {p : List zl_E} {g : Nat} {s : Nat → Int} {w : zz_W} {k : Nat} (hE : zk_eF s E w) (hn : ∀ m, m < A.length + 1 → s (n + m) = (zk_a1 w A k).getD m 0) (hg : zk_rin g (k : Int) (zl_ev s (p.getD 0 (zl_con 0)))) : zk_cs s (zk_rgm E n A p g) := by
  have h0 : s n = (k : Int) := hn 0 (by omega)
  intro c hc
  rcases List.mem_append.mp hc with hc | hc
  · exact zk_rgc_ok (by rw [h0]; exact hg) c hc
  · cases hb : Nat.beq g 3 with
    | false => rw [hb] at hc; cases hc
    | true =>
      rw [hb] at hc
      have h3 := hg.2.2 (zz_beq hb)
      refine zk_mid_ok hE (fun m hm => ?_) c hc
      have := hn (m + 1) (by omega)
      rw [show n + 1 + m = n + (m + 1) by omega, this, ← h3]
      rfl
theorem zk_cv2_ok {c : Nat} {HT : List (List zk_H)} {PT : Nat → zz_W → Prop} {SU : Nat → List (Nat × Nat)} {TS : zk_TY} (hTT : zk_TT c HT PT SU TS) {K : List Nat} {B : List (Int × Int)} {C : List zl_E} {F0 F1 : List ((Nat × Nat) × zk_V)} {E0 E : List zk_E1} {W : List (Nat × zl_E)} {x : zk_Cv} (h : zk_cv2 HT TS K B C F0 F1 E0 E W x = true) {s : Nat → Int} {wS w : zz_W} (hI : zk_I c HT w) (hB : zl_in s B) (hC : zk_cs s C) (hF0 : zk_fl s F0 wS) (hF1 : zk_fl s F1 w) (hE0 : zk_eF s E0 wS) (hE : zk_eF s E w) (hK : ∀ t ∈ K, PT t wS)
    (hrow : ∀ r m, (zk_h HT r).1 = 0 → 0 ≤ m → (∀ q ∈ W, q.1 = r → m ≠ zl_ev s q.2) → zk_el w r m = zk_el wS r m) : PT x.1 w := by
  unfold zk_cv2 at h
  split at h
  · rename_i p hp
    split at h
    · rename_i f1 hf1
      obtain ⟨hb, hfold⟩ := zz_and h
      obtain ⟨hb1, hb⟩ := zz_and hb
      obtain ⟨a1, a2⟩ := zz_and hb1
      obtain ⟨b2, hb⟩ := zz_and hb
      obtain ⟨b3, hb⟩ := zz_and hb
      obtain ⟨b4, hb⟩ := zz_and hb
      obtain ⟨b4, hWw⟩ := zz_and b4
      obtain ⟨b4, b7⟩ := zz_and b4
      obtain ⟨b5, b6⟩ := zz_and hb
      refine (hTT.2.2.1 _ _ hp w).mpr (fun k j hk hj => ?_)
      generalize hvl : zk_a1 w (zk_sp2 p.1).1 k ++ zk_a1 w (zk_sp2 p.1).2 j = vl
      have hd : ∀ m, m < B.length → (fun m => if m < B.length then s m else vl.getD (m - B.length) 0) m = s m := fun m hm => if_pos hm
      have hnew : ∀ m, (fun m => if m < B.length then s m else vl.getD (m - B.length) 0) (B.length + m) = vl.getD m 0 := by
        intro m
        show (if B.length + m < B.length then _ else _) = _
        rw [if_neg (by omega)]
        congr 1
        omega
      generalize (fun m => if m < B.length then s m else vl.getD (m - B.length) 0) = s2 at hd hnew
      obtain ⟨-, -, y3, y4⟩ := zk_wf_ok (lv := []) (st := []) b2 hd (fun q hq => absurd hq List.not_mem_nil) trivial hF0 hC
      obtain ⟨-, -, z3, -⟩ := zk_wf_ok (lv := []) (st := []) b3 hd (fun q hq => absurd hq List.not_mem_nil) trivial hF1 hC
      have hE2 := zk_eW_eq b4 hd hE
      have hE02 := zk_eW_eq b7 hd hE0
      have hWe : ∀ q ∈ W, zl_ev s2 q.2 = zl_ev s q.2 := fun q hq => zl_ev_eq (n := B.length) (zz_ble (List.all_eq_true.mp hWw q hq)) hd
      have hA1 : ∀ m, m < (zk_sp2 p.1).1.length + 1 → s2 (B.length + m) = (zk_a1 w (zk_sp2 p.1).1 k).getD m 0 := by
        intro m hm
        rw [hnew, ← hvl, List.getD_eq_getElem?_getD, List.getD_eq_getElem?_getD, List.getElem?_append_left (by rw [zk_a1_len]; exact hm)]
      have hA2 : ∀ m, m < (zk_sp2 p.1).2.length + 1 → s2 (B.length + ((zk_sp2 p.1).1.length + 1) + m) = (zk_a1 w (zk_sp2 p.1).2 j).getD m 0 := by
        intro m hm
        rw [show B.length + ((zk_sp2 p.1).1.length + 1) + m = B.length + (((zk_sp2 p.1).1.length + 1) + m) by omega, hnew, ← hvl, List.getD_eq_getElem?_getD, List.getD_eq_getElem?_getD, List.getElem?_append_right (by rw [zk_a1_len]; omega), zk_a1_len]
        congr 2
        omega
      have hkA : zk_sl2 s2 (zk_syms B.length ((zk_sp2 p.1).1.length + 1)) (zk_a1 w (zk_sp2 p.1).1 k) := by
        have := zk_sl2_sy (s := s2) (l := zk_a1 w (zk_sp2 p.1).1 k) (n := B.length) (fun m hm => hA1 m (by rw [zk_a1_len] at hm; exact hm))
        rw [zk_a1_len] at this
        exact this
      have hjB : zk_sl2 s2 (zk_syms (B.length + ((zk_sp2 p.1).1.length + 1)) ((zk_sp2 p.1).2.length + 1)) (zk_a1 w (zk_sp2 p.1).2 j) := by
        have := zk_sl2_sy (s := s2) (l := zk_a1 w (zk_sp2 p.1).2 j) (n := B.length + ((zk_sp2 p.1).1.length + 1)) (fun m hm => hA2 m (by rw [zk_a1_len] at hm; exact hm))
        rw [zk_a1_len] at this
        exact this
      have hB2 : zl_in s2 (B ++ (zk_bx HT (zk_sp2 p.1).1 ++ zk_bx HT (zk_sp2 p.1).2)) := by
        intro m q hq
        by_cases hm : m < B.length
        · rw [List.getElem?_append_left hm] at hq
          rw [hd m hm]
          exact hB m q hq
        · rw [List.getElem?_append_right (by omega)] at hq
          by_cases hm2 : m - B.length < (zk_sp2 p.1).1.length + 1
          · rw [List.getElem?_append_left (by rw [zk_bx_len]; exact hm2)] at hq
            have := zk_bx_ok hI a1 hk _ q hq
            rw [← hA1 _ hm2, show B.length + (m - B.length) = m by omega] at this
            exact this
          · rw [List.getElem?_append_right (by rw [zk_bx_len]; omega), zk_bx_len] at hq
            have hlt : m - B.length - ((zk_sp2 p.1).1.length + 1) < (zk_sp2 p.1).2.length + 1 := by
              have h1 := (List.getElem?_eq_some_iff.mp hq).1
              rw [zk_bx_len] at h1
              exact h1
            have := zk_bx_ok hI a2 hj _ q hq
            rw [← hA2 _ hlt, show B.length + ((zk_sp2 p.1).1.length + 1) + (m - B.length - ((zk_sp2 p.1).1.length + 1)) = m by omega] at this
            exact this
      have heA : zl_ev s2 ((zk_pA x).getD 0 (zl_con 0)) = zl_ev s ((zk_pA x).getD 0 (zl_con 0)) := by
        cases hpA : zk_pA x with
        | nil => rfl
        | cons e l =>
          rw [hpA] at b5
          exact zl_ev_eq (n := B.length) (zz_ble (List.all_eq_true.mp b5 e List.mem_cons_self)) hd
      have heB : zl_ev s2 ((zk_pB x).getD 0 (zl_con 0)) = zl_ev s ((zk_pB x).getD 0 (zl_con 0)) := by
        cases hpB : zk_pB x with
        | nil => rfl
        | cons e l =>
          rw [hpB] at b6
          exact zl_ev_eq (n := B.length) (zz_ble (List.all_eq_true.mp b6 e List.mem_cons_self)) hd
      obtain ⟨ga, ga1, ga2, ga3⟩ := zk_rgs_ex (zk_pA x) (k : Int) (zl_ev s ((zk_pA x).getD 0 (zl_con 0)))
      obtain ⟨gb, gb1, gb2, gb3⟩ := zk_rgs_ex (zk_pB x) (j : Int) (zl_ev s ((zk_pB x).getD 0 (zl_con 0)))
      have hmem : (ga, gb) ∈ zk_rg2 x := List.mem_flatMap.mpr ⟨ga, ga1, List.mem_map.mpr ⟨gb, gb1, rfl⟩⟩
      obtain ⟨hr, hfold⟩ := Option.isSome_iff_exists.mp hfold
      obtain ⟨h1, h2, h3⟩ := zk_fol_mem (fun (g : Nat × Nat) h => zk_lv (B ++ (zk_bx HT (zk_sp2 p.1).1 ++ zk_bx HT (zk_sp2 p.1).2)) (zk_syms B.length ((zk_sp2 p.1).1.length + 1) ++ (zk_syms (B.length + ((zk_sp2 p.1).1.length + 1)) ((zk_sp2 p.1).2.length + 1) ++ f1)) p.2.2
          (x.2.2.2.2.2.2.map (zk_sr TS K F0 p.1 (zk_sp2 p.1).1 (zk_sp2 p.1).2 ((zk_ol E0 B.length (zk_sp2 p.1).1 (zk_pA x) W g.1).getD []) ((zk_ol E0 (B.length + ((zk_sp2 p.1).1.length + 1)) (zk_sp2 p.1).2 (zk_pB x) W g.2).getD []) (zk_ol E0 B.length (zk_sp2 p.1).1 (zk_pA x) W g.1).isSome (zk_ol E0 (B.length + ((zk_sp2 p.1).1.length + 1)) (zk_sp2 p.1).2 (zk_pB x) W g.2).isSome))
          (zk_rgm E B.length (zk_sp2 p.1).1 (zk_pA x) g.1 ++ (zk_rgm E (B.length + ((zk_sp2 p.1).1.length + 1)) (zk_sp2 p.1).2 (zk_pB x) g.2 ++ C)) h) (zk_rg2 x) _ _ hfold (ga, gb) hmem
      have hres := zk_lv_ok hB2 _ _ h1 h2 h3 (fun q hq => ?_) (fun q hq => ?_)
      · show ∃ d ∈ p.2.2, zk_cs (fun m => (zk_al2 w (zk_sp2 p.1).1 (zk_sp2 p.1).2 p.2.1 k j).getD m 0) d
        have hs1 : zk_sl2 s2 (zk_syms B.length ((zk_sp2 p.1).1.length + 1) ++ (zk_syms (B.length + ((zk_sp2 p.1).1.length + 1)) ((zk_sp2 p.1).2.length + 1) ++ f1)) (zk_al2 w (zk_sp2 p.1).1 (zk_sp2 p.1).2 p.2.1 k j) := zk_sl2_app hkA (zk_sl2_app hjB (zk_fsm_ok z3 hf1))
        rw [← zk_sl2_u hs1]
        exact hres
      · rcases List.mem_append.mp hq with hq | hq
        · exact zk_rgm_ok hE2 hA1 (by rw [heA]; exact ga2) q hq
        · rcases List.mem_append.mp hq with hq | hq
          · exact zk_rgm_ok hE2 hA2 (by rw [heB]; exact gb2) q hq
          · exact y4 q hq
      · obtain ⟨q0, q1, q2⟩ := List.mem_map.mp hq
        subst q2
        refine zk_sr_ok hTT y3 hK hk hj (fun ho => ?_) (fun ho => ?_)
        · obtain ⟨l, hl⟩ := Option.isSome_iff_exists.mp ho
          rw [hl]
          exact zk_ol_ok hl hE02 (by rw [heA]; exact ga2) ga1 hA1 (fun r hq hr2 => hrow r k (zz_beq (List.all_eq_true.mp (zz_and a1).2 r hr2)) (by omega) (fun q hq2 e => by rw [← hWe q hq2]; exact hq q hq2 e)) (fun r hr2 hq => hrow r k (zz_beq (List.all_eq_true.mp (zz_and a1).2 r hr2)) (by omega) (fun q hq2 e => absurd e (hq q hq2)))
        · obtain ⟨l, hl⟩ := Option.isSome_iff_exists.mp ho
          rw [hl]
          exact zk_ol_ok hl hE02 (by rw [heB]; exact gb2) gb1 hA2 (fun r hq hr2 => hrow r j (zz_beq (List.all_eq_true.mp (zz_and a2).2 r hr2)) (by omega) (fun q hq2 e => by rw [← hWe q hq2]; exact hq q hq2 e)) (fun r hr2 hq => hrow r j (zz_beq (List.all_eq_true.mp (zz_and a2).2 r hr2)) (by omega) (fun q hq2 e => absurd e (hq q hq2)))
    · cases h
  · cases h
/-- a token behind a write, by a law that is shown by hand (its number is 500 less than x's second) -/
def zk_cv3 (TS : zk_TY) (K : List Nat) (B : List (Int × Int)) (C : List zl_E) (F0 F1 : List ((Nat × Nat) × zk_V)) (E : List zk_E1) (i k : Nat) (e : zl_E) (x : zk_Cv) : Bool := match TS.2.1 (x.2.1 - 500) with
  | some y => match zk_esm E e y.2.2.2.1, zk_fsm F1 y.2.2.2.2.1, zk_fsm F0 y.2.2.2.2.1 with
    | some vs, some f1, some f0 => (Nat.beq x.1 y.1 && (Nat.beq y.2.1.1 i && Nat.beq y.2.1.2 k)) && (y.2.2.1.all (fun t => K.any (Nat.beq t)) && zk_ens B C (e :: (vs ++ (f1 ++ f0))) y.2.2.2.2.2 x.2.2.2.2.2.2)
    | _, _, _ => false
  | none => false
theorem zk_ens_l {s : Nat → Int} {B : List (Int × Int)} {C t : List zl_E} {l : List Int} (hB : zl_in s B) (hC : zk_cs s C) (hl : zk_sl2 s t l) : ∀ {E : List zl_E} {hs : List (List Nat)}, zk_ens B C t E hs = true → zk_cs (fun m => l.getD m 0) E
  | [], _, _ => fun c hc => by cases hc
  | _ :: _, [], h => by cases h
  | e :: es, h1 :: hs, h => by
    obtain ⟨b1, hb⟩ := zz_and h
    obtain ⟨b2, b3⟩ := zz_and hb
    intro c hc
    rcases List.mem_cons.mp hc with hc | hc
    · subst hc
      have := zl_en_ok hB hC b2
      rw [zl_subst_ev (u := fun m => l.getD m 0) (zz_ble b1) hl.2] at this
      exact this
    · exact zk_ens_l hB hC hl b3 c hc
theorem zk_cv3_ok {c : Nat} {HT : List (List zk_H)} {PT : Nat → zz_W → Prop} {SU : Nat → List (Nat × Nat)} {TS : zk_TY} (hTT : zk_TT c HT PT SU TS) {K : List Nat} {B : List (Int × Int)} {C : List zl_E} {F0 F1 : List ((Nat × Nat) × zk_V)} {E : List zk_E1} {i k : Nat} {e : zl_E} {x : zk_Cv} (h : zk_cv3 TS K B C F0 F1 E i k e x = true) {s : Nat → Int} {w w' : zz_W} (hI : zk_I c HT w) (hI' : zk_I c HT w') (hB : zl_in s B) (hC : zk_cs s C) (hF0 : zk_fl s F0 w) (hF1 : zk_fl s F1 w') (hE : zk_eF s E w') (hK : ∀ t ∈ K, PT t w) (h0 : 0 ≤ zl_ev s e) (hR : k = 999 → zk_rR i (zl_ev s e) w w') (hF : k ≠ 999 → zk_rF i k w w') : PT x.1 w' := by
  unfold zk_cv3 at h
  split at h
  · rename_i y hy
    split at h
    · rename_i vs f1 f0 h1 h2 h3
      obtain ⟨ha, hb⟩ := zz_and h
      obtain ⟨a1, ha⟩ := zz_and ha
      obtain ⟨a2, a3⟩ := zz_and ha
      obtain ⟨b1, b2⟩ := zz_and hb
      have a2 := zz_beq a2
      have a3 := zz_beq a3
      have hj : ((zl_ev s e).toNat : Int) = zl_ev s e := by omega
      have hv := zk_esm_ok hE hj h1
      rw [hj] at hv
      rw [zz_beq a1]
      refine hTT.2.2.2.1 _ y hy w w' (zl_ev s e) hI hI' h0 (fun h9 => by rw [a2]; exact hR (by rw [← a3]; exact h9)) (fun h9 => by rw [a2, a3]; exact hF (by rw [← a3]; exact h9)) (fun t ht => hK t (zk_any_beq (List.all_eq_true.mp b1 t ht))) ?_
      exact zk_ens_l hB hC (zk_sl2_cons rfl (zk_sl2_app hv (zk_sl2_app (zk_fsm_ok hF1 h2) (zk_fsm_ok hF0 h3)))) b2
    · cases h
  · cases h
/-- the tokens that a change of (i, k) leaves -/
def zk_off (SU : Nat → List (Nat × Nat)) (K : List Nat) (i k : Nat) : List Nat := K.filter (fun t => !(zk_inM (SU t) i k) && !(zk_inM (SU t) i 999))
/-- the tokens that say nothing of the cell i -/
def zk_ofc (SU : Nat → List (Nat × Nat)) (K : List Nat) (i : Nat) : List Nat := K.filter (fun t => (SU t).all (fun q => !(Nat.beq q.1 i)))
theorem zk_ofc_ok {SU : Nat → List (Nat × Nat)} {K : List Nat} {i t : Nat} (h : t ∈ zk_ofc SU K i) : t ∈ K ∧ ∀ q ∈ SU t, q.1 ≠ i := by
  obtain ⟨h1, h2⟩ := List.mem_filter.mp h
  exact ⟨h1, fun q hq => zk_nbeq (List.all_eq_true.mp h2 q hq)⟩
theorem zk_inM_mem {M : List (Nat × Nat)} {i k : Nat} (h : (i, k) ∈ M) : zk_inM M i k = true := List.any_eq_true.mpr ⟨(i, k), h, by show (Nat.beq i i && Nat.beq k k) = true; rw [Nat.beq_refl, Nat.beq_refl]; rfl⟩
theorem zk_off_ok {SU : Nat → List (Nat × Nat)} {K : List Nat} {i k t : Nat} (h : t ∈ zk_off SU K i k) : t ∈ K ∧ (i, k) ∉ SU t ∧ (i, 999) ∉ SU t := by
  obtain ⟨h1, h2⟩ := List.mem_filter.mp h
  obtain ⟨h3, h4⟩ := zz_and h2
  refine ⟨h1, fun hin => ?_, fun hin => ?_⟩
  · rw [zk_inM_mem hin] at h3
    cases h3
  · rw [zk_inM_mem hin] at h4
    cases h4
/-- a field is set -/
def zk_w1 (HT : List (List zk_H)) (SU : Nat → List (Nat × Nat)) (TS : zk_TY) (X : zk_St) (k n : Nat) (cv : List zk_Cv) (o : Option zk_A) : Option (List (Nat × zk_St)) := match o with
  | some A => cond (cv.all (fun x => zk_cv HT TS X.2.2 X.1.2.2.2.1 X.1.2.2.2.2 X.1.2.2.1 A.2.2.1 X.2.1 x || (zk_cv2 HT TS X.2.2 X.1.2.2.2.1 X.1.2.2.2.2 X.1.2.2.1 A.2.2.1 X.2.1 X.2.1 [] x || (Nat.blt k 998 && zk_cv3 TS X.2.2 X.1.2.2.2.1 X.1.2.2.2.2 X.1.2.2.1 A.2.2.1 X.2.1 (zk_tg1 X.1) k (zl_con 0) x))) && (zk_eW HT X.1.2.2.2.1.length X.2.1 && Nat.beq (zk_h HT (zk_tg1 X.1)).1 3))
    (some [(n, (A, X.2.1, zk_off SU X.2.2 (zk_tg1 X.1) k ++ cv.map (fun x => x.1)))]) none
  | none => none
theorem zk_w1_ok {c : Nat} {HT : List (List zk_H)} {M : zk_M} {w0 : zk_W0} {PT : Nat → zz_W → Prop} {SU : Nat → List (Nat × Nat)} {TS : zk_TY} (hTT : zk_TT c HT PT SU TS) {act : zz_A} {X : zk_St} {k n : Nat} {cv : List zk_Cv} {o : Option zk_A} {R : List (Nat × zk_St)} (h : zk_w1 HT SU TS X k n cv o = some R) (hk : ∀ A, o = some A → zk_SW c HT M w0 act n X.1 A (fun _ w w' => zk_rF (zk_tg1 X.1) k w w')) : zk_R2 PT c HT M w0 act X R := by
  obtain ⟨A0, E, Tk⟩ := X
  unfold zk_w1 at h
  split at h
  · rename_i A
    obtain ⟨hb, h⟩ := zz_cond h
    obtain ⟨b1, hb⟩ := zz_and hb
    obtain ⟨b2, b3⟩ := zz_and hb
    cases h
    obtain ⟨e1, e2⟩ := hk A rfl
    intro K s f hpv hG
    obtain ⟨g1, k1, k2⟩ := hG
    obtain ⟨f', m1, m2, m3, m4⟩ := e2 K s f hpv g1
    have e1 : A0.2.2.2.1 = A.2.2.2.1 := e1
    have m4 : zk_rF (zk_tg1 A0) k f.2.2.2 f'.2.2.2 := m4
    have hk3 : (zk_h HT (zk_tg1 A0)).1 = 3 := zz_beq b3
    have hel : ∀ r, (zk_h HT r).1 < 3 → zz_g f'.2.2.2 r = zz_g f.2.2.2 r := fun r hr => m4.1 r (fun e => by rw [e] at hr; omega)
    have hE' : zk_eF s E f'.2.2.2 := by
      intro y hy
      have h1 := k1 y hy
      have h2 := zk_xe_g (j := zl_ev s y.2.1) (fun r hr => hel r (zk_eW_row b2 y hy r hr))
      rw [h2]
      exact h1
    refine ⟨s, f', (n, (A, E, zk_off SU Tk (zk_tg1 A0) k ++ cv.map (fun x => x.1))), m1, List.mem_cons_self, m2, ⟨m3, hE', fun t ht => ?_⟩, Nat.le_of_eq (congrArg List.length e1), fun _ _ => rfl⟩
    rcases List.mem_append.mp ht with ht | ht
    · obtain ⟨t1, t2, t3⟩ := zk_off_ok ht
      refine hTT.1 t f.2.2.2 f'.2.2.2 g1.2.2.2.2.2.1 m3.2.2.2.2.2.1 (fun q hq h9 => ?_) (fun q hq h9 => ?_) (k2 t t1)
      · by_cases hq1 : q.1 = zk_tg1 A0
        · have hq2 : q.2 ≠ k := fun e => t2 (by rw [← hq1, ← e]; exact hq)
          have := m4.2 q.2 hq2
          rw [← hq1] at this
          exact this
        · unfold zk_fd
          rw [m4.1 q.1 hq1]
      · by_cases hq1 : q.1 = zk_tg1 A0
        · exact absurd (show (zk_tg1 A0, 999) ∈ SU t by rw [← hq1, ← h9]; exact hq) t3
        · exact m4.1 q.1 hq1
    · obtain ⟨y, y1, y2⟩ := List.mem_map.mp ht
      subst y2
      rcases Bool.or_eq_true_iff.mp (List.all_eq_true.mp b1 y y1) with hy | hy
      · refine zk_cv_ok hTT hy m3.2.2.2.2.2.1 g1.2.2.2.1 g1.2.2.2.2.1 g1.2.2.1 m3.2.2.1 hE' k2 (fun r m hr hm _ => ?_)
        unfold zk_el
        rw [hel r (by omega)]
      · rcases Bool.or_eq_true_iff.mp hy with hy | hy
        · refine zk_cv2_ok hTT hy m3.2.2.2.2.2.1 g1.2.2.2.1 g1.2.2.2.2.1 g1.2.2.1 m3.2.2.1 k1 hE' k2 (fun r m hr hm _ => ?_)
          unfold zk_el
          rw [hel r (by omega)]
        · obtain ⟨hk8, hy⟩ := zz_and hy
          have hk8 := zz_blt hk8
          exact zk_cv3_ok hTT hy g1.2.2.2.2.2.1 m3.2.2.2.2.2.1 g1.2.2.2.1 g1.2.2.2.2.1 g1.2.2.1 m3.2.2.1 hE' k2 (by rw [zl_con_ev]; exact Int.le_refl _) (fun h9 => by omega) (fun _ => m4)
  · cases h
/-- a virtual element stays: its place (the parameter: none, or a symbol) is not behind e -/
def zk_vk (B : List (Int × Int)) (C : List zl_E) (e : zl_E) (x : zk_E1) (h1 h2 : List Nat) : Bool :=
  let e' := match h1.headD 0 with
    | 0 => x.2.1
    | k + 1 => match k with
      | 0 => x.2.1
      | m + 1 => zl_sub x.2.1 (zl_mul 1048576 (zl_sym m))
  ((!(Nat.blt x.1 1000000) && Nat.blt x.1 2000000) && !(Nat.beq (h1.headD 0) 0)) && (zl_en B C h1.tail e' && zl_en B C h2 (zl_sub e e'))
theorem zk_vk_ok {s : Nat → Int} {B : List (Int × Int)} {C : List zl_E} (hB : zl_in s B) (hC : zk_cs s C) {e : zl_E} {x : zk_E1} {h1 h2 : List Nat} (h : zk_vk B C e x h1 h2 = true) : (Nat.blt x.1 1000000 = false ∧ Nat.blt x.1 2000000 = true) ∧ zl_ev s x.2.1 % 1048576 ≤ zl_ev s e := by
  unfold zk_vk at h
  obtain ⟨a, h⟩ := zz_and h
  obtain ⟨a, -⟩ := zz_and a
  obtain ⟨a, a2⟩ := zz_and a
  obtain ⟨b, c⟩ := zz_and h
  refine ⟨⟨by cases hb : Nat.blt x.1 1000000 with
    | true => rw [hb] at a; cases a
    | false => rfl, a2⟩, ?_⟩
  have b := zl_en_ok hB hC b
  have c := zl_en_ok hB hC c
  rw [zl_sub_ev] at c
  revert b c
  split
  · intro b c
    omega
  · split
    · intro b c
      omega
    · rw [zl_sub_ev, zl_mul_ev]
      intro b c
      omega
/-- what stays known of a row of which the element at e is set: places that are not e, by hints; virtual ones ahead of it -/
def zk_ekp (B : List (Int × Int)) (C : List zl_E) (i : Nat) (e : zl_E) : List zk_E1 → List (List Nat) → List zk_E1
  | [], _ => []
  | x :: xs, hs => cond (Nat.beq x.1 i && Nat.blt i 1000000) (cond (Nat.beq ((hs.headD []).headD 0) 1 && zl_en B C (hs.headD []).tail (zl_sub (zl_sub x.2.1 e) (zl_con 1))) (x :: zk_ekp B C i e xs hs.tail) (cond (Nat.beq ((hs.headD []).headD 0) 2 && zl_en B C (hs.headD []).tail (zl_sub (zl_sub e x.2.1) (zl_con 1))) (x :: zk_ekp B C i e xs hs.tail) (zk_ekp B C i e xs hs.tail))) (cond ((zk_rws x.1).any (Nat.beq i)) (cond (zk_vk B C e x (hs.headD []) (hs.tail.headD [])) (x :: zk_ekp B C i e xs hs.tail.tail) (zk_ekp B C i e xs hs.tail.tail)) (x :: zk_ekp B C i e xs hs))
theorem zk_ekp_mem {s : Nat → Int} {B : List (Int × Int)} {C : List zl_E} (hB : zl_in s B) (hC : zk_cs s C) {i : Nat} {e : zl_E} {y : zk_E1} : ∀ {E : List zk_E1} {hs : List (List Nat)}, y ∈ zk_ekp B C i e E hs → y ∈ E ∧ (i ∉ zk_rws y.1 ∨ (y.1 = i ∧ Nat.blt i 1000000 = true ∧ zl_ev s y.2.1 ≠ zl_ev s e) ∨ ((Nat.blt y.1 1000000 = false ∧ Nat.blt y.1 2000000 = true) ∧ zl_ev s y.2.1 % 1048576 ≤ zl_ev s e))
  | [], _, h => absurd h List.not_mem_nil
  | x :: xs, hs, h => by
    unfold zk_ekp at h
    have rest : ∀ {hs' : List (List Nat)}, y ∈ zk_ekp B C i e xs hs' → y ∈ x :: xs ∧ (i ∉ zk_rws y.1 ∨ (y.1 = i ∧ Nat.blt i 1000000 = true ∧ zl_ev s y.2.1 ≠ zl_ev s e) ∨ ((Nat.blt y.1 1000000 = false ∧ Nat.blt y.1 2000000 = true) ∧ zl_ev s y.2.1 % 1048576 ≤ zl_ev s e)) := fun h => by
      obtain ⟨a, b⟩ := zk_ekp_mem hB hC h
      exact ⟨List.mem_cons_of_mem _ a, b⟩
    cases h1 : (Nat.beq x.1 i && Nat.blt i 1000000) with
    | false =>
      rw [h1] at h
      cases h2 : (zk_rws x.1).any (Nat.beq i) with
      | false =>
        rw [h2] at h
        rcases List.mem_cons.mp (show y ∈ x :: zk_ekp B C i e xs hs from h) with h | h
        · subst h
          refine ⟨List.mem_cons_self, Or.inl (fun h3 => ?_)⟩
          rw [List.any_eq_true.mpr ⟨i, h3, Nat.beq_refl i⟩] at h2
          cases h2
        · exact rest h
      | true =>
        rw [h2] at h
        cases h3 : zk_vk B C e x (hs.headD []) (hs.tail.headD []) with
        | true =>
          rw [h3] at h
          rcases List.mem_cons.mp (show y ∈ x :: zk_ekp B C i e xs hs.tail.tail from h) with h | h
          · subst h
            exact ⟨List.mem_cons_self, Or.inr (Or.inr (zk_vk_ok hB hC h3))⟩
          · exact rest h
        | false =>
          rw [h3] at h
          exact rest (show y ∈ zk_ekp B C i e xs hs.tail.tail from h)
    | true =>
      rw [h1] at h
      obtain ⟨i1, i2⟩ := zz_and h1
      cases h2 : (Nat.beq ((hs.headD []).headD 0) 1 && zl_en B C (hs.headD []).tail (zl_sub (zl_sub x.2.1 e) (zl_con 1))) with
      | true =>
        rw [h2] at h
        rcases List.mem_cons.mp (show y ∈ x :: zk_ekp B C i e xs hs.tail from h) with h | h
        · subst h
          obtain ⟨-, h3⟩ := zz_and h2
          have h4 := zl_en_ok hB hC h3
          rw [zl_sub_ev, zl_sub_ev, zl_con_ev] at h4
          exact ⟨List.mem_cons_self, Or.inr (Or.inl ⟨zz_beq i1, i2, by omega⟩)⟩
        · exact rest h
      | false =>
        rw [h2] at h
        cases h5 : (Nat.beq ((hs.headD []).headD 0) 2 && zl_en B C (hs.headD []).tail (zl_sub (zl_sub e x.2.1) (zl_con 1))) with
        | true =>
          rw [h5] at h
          rcases List.mem_cons.mp (show y ∈ x :: zk_ekp B C i e xs hs.tail from h) with h | h
          · subst h
            obtain ⟨-, h3⟩ := zz_and h5
            have h4 := zl_en_ok hB hC h3
            rw [zl_sub_ev, zl_sub_ev, zl_con_ev] at h4
            exact ⟨List.mem_cons_self, Or.inr (Or.inl ⟨zz_beq i1, i2, by omega⟩)⟩
          · exact rest h
        | false =>
          rw [h5] at h
          exact rest (show y ∈ zk_ekp B C i e xs hs.tail from h)
def zx_els (E : List zk_E1) (es : List zl_E) : List (Nat × Nat) → Option (List zl_E)
  | [] => some []
  | q :: r => match zk_ek E q.1 (es.getD q.2 (zl_con 0)), zx_els E es r with
    | some v, some l => some (v :: l)
    | _, _ => none
theorem zx_els_ok {s : Nat → Int} {E : List zk_E1} {es : List zl_E} {ins : List Int} {w : zz_W} (hE : zk_eF s E w) (hi : ∀ k, k < es.length → zl_ev s (es.getD k (zl_con 0)) = ins.getD k 0) : ∀ {qs : List (Nat × Nat)} {l : List zl_E}, qs.all (fun q => Nat.blt q.2 es.length) = true → zx_els E es qs = some l → zk_sl2 s l (qs.map (fun q => zk_xe w q.1 (ins.getD q.2 0)))
  | [], l, _, h => by
    cases h
    exact zk_sl2_nil
  | q :: r, l, hb, h => by
    rw [List.all_cons] at hb
    obtain ⟨b1, b2⟩ := zz_and hb
    unfold zx_els at h
    split at h
    · rename_i v l' h1 h2
      cases h
      refine zk_sl2_cons ?_ (zx_els_ok hE hi b2 h2)
      have := (zk_ek_ok h1 hE).2
      show zk_xe w q.1 (ins.getD q.2 0) = zl_ev s v
      rw [← hi q.2 (zz_blt b1)]
      exact this
    · cases h
/-- known elements behind a write, by a law that is shown by hand (its number from 900 on) -/
def zk_cv4 (TS : zk_TY) (K : List Nat) (B : List (Int × Int)) (C : List zl_E) (E : List zk_E1) (i : Nat) (e v : zl_E) (x : zk_Cv) : Option (List zk_E1) := match TS.2.2.2 (x.2.1 - 900) with
  | some y => match zx_els E x.2.2.1 y.2.2.2.1 with
    | some vs => cond ((Nat.beq y.1 i && y.2.1.all (fun t => K.any (Nat.beq t))) && ((Nat.beq x.2.2.1.length y.2.2.1 && y.2.2.2.1.all (fun q => Nat.blt q.2 x.2.2.1.length)) && (zk_ens B C (e :: v :: (x.2.2.1 ++ vs)) y.2.2.2.2.1 x.2.2.2.2.2.2 && y.2.2.2.2.2.all (fun z => Nat.ble (zl_mx z.2.1.2) (e :: v :: (x.2.2.1 ++ vs)).length && Nat.ble (zl_mx z.2.2.2) (e :: v :: (x.2.2.1 ++ vs)).length)))) (some (y.2.2.2.2.2.map (fun z => (z.1, zl_subst (e :: v :: (x.2.2.1 ++ vs)) z.2.1, zl_subst (e :: v :: (x.2.2.1 ++ vs)) z.2.2)))) none
    | none => none
  | none => none
theorem zx_gdm {s : Nat → Int} : ∀ (es : List zl_E) (k : Nat), k < es.length → zl_ev s (es.getD k (zl_con 0)) = (es.map (zl_ev s)).getD k 0
  | [], k, h => absurd h (Nat.not_lt_zero k)
  | e :: es, 0, _ => rfl
  | e :: es, k + 1, h => zx_gdm es k (Nat.lt_of_succ_lt_succ h)
theorem zx_slm {s : Nat → Int} : ∀ (es : List zl_E), zk_sl2 s es (es.map (zl_ev s))
  | [] => zk_sl2_nil
  | _ :: es => zk_sl2_cons rfl (zx_slm es)
theorem zk_cv4_ok {c : Nat} {HT : List (List zk_H)} {PT : Nat → zz_W → Prop} {SU : Nat → List (Nat × Nat)} {TS : zk_TY} (hTT : zk_TT c HT PT SU TS) {K : List Nat} {B : List (Int × Int)} {C : List zl_E} {E R : List zk_E1} {i : Nat} {e v : zl_E} {x : zk_Cv} (h : zk_cv4 TS K B C E i e v x = some R) {s : Nat → Int} {w w' : zz_W} (hI : zk_I c HT w) (hI' : zk_I c HT w') (hB : zl_in s B) (hC : zk_cs s C) (hE : zk_eF s E w) (hK : ∀ t ∈ K, PT t w) (h0 : 0 ≤ zl_ev s e) (hw : zk_rR i (zl_ev s e) w w') (hv : zk_el w' i (zl_ev s e) = zl_ev s v) : zk_eF s R w' := by
  unfold zk_cv4 at h
  split at h
  · rename_i y hy
    split at h
    · rename_i vs hvs
      obtain ⟨hb, h⟩ := zz_cond h
      cases h
      obtain ⟨a, hb⟩ := zz_and hb
      obtain ⟨a1, a2⟩ := zz_and a
      obtain ⟨b, hb⟩ := zz_and hb
      obtain ⟨b1, b2⟩ := zz_and b
      obtain ⟨c1, c2⟩ := zz_and hb
      have hi := zz_beq a1
      subst hi
      have hins : ∀ k, k < x.2.2.1.length → zl_ev s (x.2.2.1.getD k (zl_con 0)) = (x.2.2.1.map (zl_ev s)).getD k 0 := fun k hk => zx_gdm x.2.2.1 k hk
      have hl : zk_sl2 s (e :: v :: (x.2.2.1 ++ vs)) (zx_vv w w' y (zl_ev s e) (x.2.2.1.map (zl_ev s))) := zk_sl2_cons rfl (zk_sl2_cons hv (zk_sl2_app (zx_slm x.2.2.1) (zx_els_ok hE hins b2 hvs)))
      have h1 := hTT.2.2.2.2.2 _ y hy w w' (zl_ev s e) (x.2.2.1.map (zl_ev s)) hI hI' h0 hw (fun t ht => hK t (zk_any_beq (List.all_eq_true.mp a2 t ht))) (by rw [List.length_map]; exact zz_beq b1) (zk_ens_l hB hC hl c1)
      intro z hz
      obtain ⟨z1, z2, z3⟩ := List.mem_map.mp hz
      subst z3
      obtain ⟨d1, d2⟩ := zz_and (List.all_eq_true.mp c2 z1 z2)
      show 0 ≤ zl_ev s (zl_subst _ z1.2.1) ∧ zk_xe w' z1.1 (zl_ev s (zl_subst _ z1.2.1)) = zl_ev s (zl_subst _ z1.2.2)
      rw [zl_subst_ev (u := fun m => (zx_vv w w' y (zl_ev s e) (x.2.2.1.map (zl_ev s))).getD m 0) (zz_ble d1) hl.2, zl_subst_ev (u := fun m => (zx_vv w w' y (zl_ev s e) (x.2.2.1.map (zl_ev s))).getD m 0) (zz_ble d2) hl.2]
      exact h1 z1 z2
    · cases h
  · cases h
/-- those behind a write: all of them -/
def zk_c4s (TS : zk_TY) (K : List Nat) (B : List (Int × Int)) (C : List zl_E) (E : List zk_E1) (i : Nat) (e v : zl_E) : List zk_Cv → Option (List zk_E1)
  | [] => some []
  | x :: xs => cond (Nat.blt x.2.1 900) (zk_c4s TS K B C E i e v xs) (match zk_cv4 TS K B C E i e v x, zk_c4s TS K B C E i e v xs with
    | some a, some b => some (a ++ b)
    | _, _ => none)
theorem zk_c4s_ok {c : Nat} {HT : List (List zk_H)} {PT : Nat → zz_W → Prop} {SU : Nat → List (Nat × Nat)} {TS : zk_TY} (hTT : zk_TT c HT PT SU TS) {K : List Nat} {B : List (Int × Int)} {C : List zl_E} {E : List zk_E1} {i : Nat} {e v : zl_E} {s : Nat → Int} {w w' : zz_W} (hI : zk_I c HT w) (hI' : zk_I c HT w') (hB : zl_in s B) (hC : zk_cs s C) (hE : zk_eF s E w) (hK : ∀ t ∈ K, PT t w) (h0 : 0 ≤ zl_ev s e) (hw : zk_rR i (zl_ev s e) w w') (hv : zk_el w' i (zl_ev s e) = zl_ev s v) : ∀ {xs : List zk_Cv} {R : List zk_E1}, zk_c4s TS K B C E i e v xs = some R → zk_eF s R w'
  | [], R, h => by
    cases h
    intro y hy
    cases hy
  | x :: xs, R, h => by
    unfold zk_c4s at h
    cases hb : Nat.blt x.2.1 900 with
    | true =>
      rw [hb] at h
      exact zk_c4s_ok hTT hI hI' hB hC hE hK h0 hw hv (show zk_c4s TS K B C E i e v xs = some R from h)
    | false =>
      rw [hb] at h
      have h : (match zk_cv4 TS K B C E i e v x, zk_c4s TS K B C E i e v xs with
        | some a, some b => some (a ++ b)
        | _, _ => none) = some R := h
      split at h
      · rename_i a b h1 h2
        cases h
        intro y hy
        rcases List.mem_append.mp hy with hy | hy
        · exact zk_cv4_ok hTT h1 hI hI' hB hC hE hK h0 hw hv y hy
        · exact zk_c4s_ok hTT hI hI' hB hC hE hK h0 hw hv h2 y hy
      · cases h
/-- what is known of rows' elements behind it -/
def zk_wE (X : zk_St) (kn : Bool) (ks : List (List Nat)) : List zk_E1 := cond kn ((zk_tg2 X.1, zk_ix2 X.1, zk_vl X.1) :: zk_ekp X.1.2.2.2.1 X.1.2.2.2.2 (zk_tg2 X.1) (zk_ix2 X.1) X.2.1 ks) (zk_ekp X.1.2.2.2.1 X.1.2.2.2.2 (zk_tg2 X.1) (zk_ix2 X.1) X.2.1 ks)
/-- an element is set: known (kn) or not -/
def zk_w2 (HT : List (List zk_H)) (SU : Nat → List (Nat × Nat)) (TS : zk_TY) (kn : Bool) (X : zk_St) (n : Nat) (cv : List zk_Cv) (ks : List (List Nat)) (o : Option zk_A) : Option (List (Nat × zk_St)) := match o with
  | some A => match cond kn (zk_c4s TS X.2.2 X.1.2.2.2.1 X.1.2.2.2.2 X.2.1 (zk_tg2 X.1) (zk_ix2 X.1) (zk_vl X.1) cv) (some []) with
    | some N => cond (cv.all (fun x => !(Nat.blt x.2.1 900) || ((zk_cv HT TS X.2.2 X.1.2.2.2.1 X.1.2.2.2.2 X.1.2.2.1 A.2.2.1 (zk_wE X kn ks) x && (match x.2.2.1 with
        | e :: _ => zl_nul (zl_sub e (zk_ix2 X.1))
        | [] => false)) || (zk_cv2 HT TS X.2.2 X.1.2.2.2.1 X.1.2.2.2.2 X.1.2.2.1 A.2.2.1 X.2.1 (zk_wE X kn ks) [(zk_tg2 X.1, zk_ix2 X.1)] x || zk_cv3 TS X.2.2 X.1.2.2.2.1 X.1.2.2.2.2 X.1.2.2.1 A.2.2.1 (zk_wE X kn ks) (zk_tg2 X.1) 999 (zk_ix2 X.1) x))) && (Nat.blt (zk_tg2 X.1) 1000000 && zk_eW HT X.1.2.2.2.1.length (N ++ zk_wE X kn ks)))
      (some [(n, (A, N ++ zk_wE X kn ks, zk_ofc SU X.2.2 (zk_tg2 X.1) ++ (cv.filter (fun x => Nat.blt x.2.1 900)).map (fun x => x.1)))]) none
    | none => none
  | none => none
theorem zk_w2_ok {c : Nat} {HT : List (List zk_H)} {M : zk_M} {w0 : zk_W0} {PT : Nat → zz_W → Prop} {SU : Nat → List (Nat × Nat)} {TS : zk_TY} (hTT : zk_TT c HT PT SU TS) {act : zz_A} {kn : Bool} {X : zk_St} {n : Nat} {cv : List zk_Cv} {ks : List (List Nat)} {o : Option zk_A} {R : List (Nat × zk_St)} (h : zk_w2 HT SU TS kn X n cv ks o = some R) (hk : ∀ A, o = some A → zk_SW c HT M w0 act n X.1 A (fun s w w' => zk_rR (zk_tg2 X.1) (zl_ev s (zk_ix2 X.1)) w w' ∧ 0 ≤ zl_ev s (zk_ix2 X.1) ∧ (kn = true → zk_el w' (zk_tg2 X.1) (zl_ev s (zk_ix2 X.1)) = zl_ev s (zk_vl X.1)))) : zk_R2 PT c HT M w0 act X R := by
  obtain ⟨A0, E, Tk⟩ := X
  unfold zk_w2 at h
  split at h
  · rename_i A
    split at h
    rotate_left
    · cases h
    rename_i N hN
    obtain ⟨hb, h⟩ := zz_cond h
    obtain ⟨b1, hb⟩ := zz_and hb
    obtain ⟨b0, -⟩ := zz_and hb
    have b0 : Nat.blt (zk_tg2 A0) 1000000 = true := b0
    have hR := (Option.some.inj h).symm
    subst hR
    obtain ⟨e1, e2⟩ := hk A rfl
    intro K s f hpv hG
    obtain ⟨g1, k1, k2⟩ := hG
    have k1 : zk_eF s E f.2.2.2 := k1
    have k2 : ∀ t ∈ Tk, PT t f.2.2.2 := k2
    obtain ⟨f', m1, m2, m3, m4, m5, m6⟩ := e2 K s f hpv g1
    have e1 : A0.2.2.2.1 = A.2.2.2.1 := e1
    have m4 : zk_rR (zk_tg2 A0) (zl_ev s (zk_ix2 A0)) f.2.2.2 f'.2.2.2 := m4
    have hfil : zk_eF s (zk_ekp A0.2.2.2.1 A0.2.2.2.2 (zk_tg2 A0) (zk_ix2 A0) E ks) f'.2.2.2 := by
      intro y hy
      obtain ⟨y1, y2⟩ := zk_ekp_mem g1.2.2.2.1 g1.2.2.2.2.1 hy
      have h1 := k1 y y1
      rcases y2 with hr | ⟨hr, hi, hne⟩ | ⟨hi, hle⟩
      · have h2 := zk_xe_g (w := f.2.2.2) (w' := f'.2.2.2) (i := y.1) (j := zl_ev s y.2.1) (fun r hr' => m4.1 r (fun e => hr (by rw [← e]; exact hr')))
        exact ⟨h1.1, h2.trans h1.2⟩
      · have h2 := m4.2 (zl_ev s y.2.1) h1.1 hne
        rw [← hr] at h2 hi
        refine ⟨h1.1, ?_⟩
        have h3 := h1.2
        rw [zk_xe_r hi] at h3 ⊢
        exact h2.trans h3
      · exact ⟨h1.1, (zk_xe_p m4 hi hle).trans h1.2⟩
    have hE' : zk_eF s (zk_wE (A0, E, Tk) kn ks) f'.2.2.2 := by
      cases kn with
      | false => exact hfil
      | true =>
        intro y hy
        rcases List.mem_cons.mp hy with ey | hy
        · subst ey
          exact ⟨m5, (zk_xe_r b0).trans (m6 rfl)⟩
        · exact hfil y hy
    have hN' : zk_eF s N f'.2.2.2 := by
      cases kn with
      | false =>
        have hN : some [] = some N := hN
        cases hN
        intro y hy
        cases hy
      | true => exact zk_c4s_ok hTT g1.2.2.2.2.2.1 m3.2.2.2.2.2.1 g1.2.2.2.1 g1.2.2.2.2.1 k1 k2 m5 m4 (m6 rfl) (show zk_c4s TS Tk A0.2.2.2.1 A0.2.2.2.2 E (zk_tg2 A0) (zk_ix2 A0) (zk_vl A0) cv = some N from hN)
    refine ⟨s, f', (n, (A, N ++ zk_wE (A0, E, Tk) kn ks, zk_ofc SU Tk (zk_tg2 A0) ++ (cv.filter (fun x => Nat.blt x.2.1 900)).map (fun x => x.1))), m1, List.mem_cons_self, m2, ⟨m3, fun y hy => (List.mem_append.mp hy).elim (hN' y) (hE' y), fun t ht => ?_⟩, Nat.le_of_eq (congrArg List.length e1), fun _ _ => rfl⟩
    rcases List.mem_append.mp ht with ht | ht
    · obtain ⟨t1, t3⟩ := zk_ofc_ok ht
      refine hTT.1 t f.2.2.2 f'.2.2.2 g1.2.2.2.2.2.1 m3.2.2.2.2.2.1 (fun q hq h9 => ?_) (fun q hq h9 => ?_) (k2 t t1)
      · unfold zk_fd
        rw [m4.1 q.1 (t3 q hq)]
      · exact m4.1 q.1 (t3 q hq)
    · obtain ⟨y, y1, y2⟩ := List.mem_map.mp ht
      subst y2
      obtain ⟨y1, y9⟩ := List.mem_filter.mp y1
      rcases Bool.or_eq_true_iff.mp (List.all_eq_true.mp b1 y y1) with hy | hy
      · rw [show Nat.blt y.2.1 900 = true from y9] at hy
        cases hy
      rcases Bool.or_eq_true_iff.mp hy with hy | hy
      · obtain ⟨y3, y4⟩ := zz_and hy
        refine zk_cv_ok hTT y3 m3.2.2.2.2.2.1 g1.2.2.2.1 g1.2.2.2.2.1 g1.2.2.1 m3.2.2.1 hE' k2 (fun r m hr hm hne => ?_)
        by_cases hr2 : r = zk_tg2 A0
        · subst hr2
          refine m4.2 m hm ?_
          split at y4
          · rename_i e l he
            have h1 := zl_nul_ok (s := s) y4
            rw [zl_sub_ev] at h1
            have h1 : zl_ev s e - zl_ev s (zk_ix2 A0) = 0 := h1
            have := hne e l he
            omega
          · cases y4
        · unfold zk_el
          rw [m4.1 r hr2]
      · rcases Bool.or_eq_true_iff.mp hy with hy | hy
        · refine zk_cv2_ok hTT hy m3.2.2.2.2.2.1 g1.2.2.2.1 g1.2.2.2.2.1 g1.2.2.1 m3.2.2.1 k1 hE' k2 (fun r m hr hm hne => ?_)
          by_cases hr2 : r = zk_tg2 A0
          · subst hr2
            exact m4.2 m hm (hne (zk_tg2 A0, zk_ix2 A0) List.mem_cons_self rfl)
          · unfold zk_el
            rw [m4.1 r hr2]
        · exact zk_cv3_ok hTT hy g1.2.2.2.2.2.1 m3.2.2.2.2.2.1 g1.2.2.2.1 g1.2.2.2.2.1 g1.2.2.1 m3.2.2.1 hE' k2 m5 (fun _ => m4) (fun h9 => absurd rfl h9)
  · cases h
/-- the first digit of a coded place -/
def zl_ld (e : zl_E) : zl_E := (((zl_nv e.1 % 4294967296).toNat, 0), e.2.filter (fun q => !(Nat.beq (q.2.1 % 4294967296) (q.2.2 % 4294967296))))
theorem zl_ld_dt (s : Nat → Int) : ∀ (l : List (Nat × zl_N)), ∃ y : Int, zl_dt s l = zl_dt s (l.filter (fun q => !(Nat.beq (q.2.1 % 4294967296) (q.2.2 % 4294967296)))) + 4294967296 * y
  | [] => ⟨0, rfl⟩
  | q :: l => by
    obtain ⟨y, hy⟩ := zl_ld_dt s l
    have hc : zl_dt s (q :: l) = zl_nv q.2 * s q.1 + zl_dt s l := rfl
    rw [hc]
    cases hb : Nat.beq (q.2.1 % 4294967296) (q.2.2 % 4294967296) with
    | true =>
      rw [List.filter_cons_of_neg (by rw [hb]; decide), hy]
      have h1 := zz_beq hb
      obtain ⟨z, hz⟩ : ∃ z : Int, zl_nv q.2 = 4294967296 * z := ⟨zl_nv q.2 / 4294967296, by rw [zl_nv_eq]; omega⟩
      exact ⟨z * s q.1 + y, by rw [hz, Int.mul_assoc, Int.mul_add]; omega⟩
    | false =>
      rw [List.filter_cons_of_pos (by rw [hb]; rfl), hy]
      refine ⟨y, ?_⟩
      show _ = zl_nv q.2 * s q.1 + zl_dt s _ + 4294967296 * y
      omega
theorem zl_ld_ok {s : Nat → Int} {e : zl_E} (h0 : 0 ≤ zl_ev s (zl_ld e)) (h1 : zl_ev s (zl_ld e) < 4294967296) : zl_ev s e % 4294967296 = zl_ev s (zl_ld e) := by
  obtain ⟨y, hy⟩ := zl_ld_dt s e.2
  have h2 : zl_ev s e = zl_nv e.1 + zl_dt s e.2 := rfl
  have h3 : zl_ev s (zl_ld e) = zl_nv ((zl_nv e.1 % 4294967296).toNat, 0) + zl_dt s (e.2.filter (fun q => !(Nat.beq (q.2.1 % 4294967296) (q.2.2 % 4294967296)))) := rfl
  rw [zl_nv_eq ((zl_nv e.1 % 4294967296).toNat, 0)] at h3
  have h4 : (((zl_nv e.1 % 4294967296).toNat : Nat) : Int) = zl_nv e.1 % 4294967296 := by omega
  have h3 : zl_ev s (zl_ld e) = ((zl_nv e.1 % 4294967296).toNat : Int) - ((0 : Nat) : Int) + zl_dt s (e.2.filter (fun q => !(Nat.beq (q.2.1 % 4294967296) (q.2.2 % 4294967296)))) := h3
  rw [h4] at h3
  generalize zl_dt s (e.2.filter (fun q => !(Nat.beq (q.2.1 % 4294967296) (q.2.2 % 4294967296)))) = D at h3 hy
  generalize zl_dt s e.2 = D2 at h2 hy
  generalize zl_nv e.1 = c at h2 h3
  omega
def zk_kq (B : List (Int × Int)) (C : List zl_E) (i : Nat) (e : zl_E) (u : Nat) (p : zl_E) (h : List Nat) : Bool := cond (zv_LP u i) (zl_en B C h (zl_sub e p)) (cond (zv_LQ u i) (zl_en B C h (zl_sub e (zl_ld p))) (cond (zv_LS u i) (zl_en B C [] (zl_sub e (zl_ld p)) && zl_en B C [] (zl_sub (zl_ld p) e)) (zv_LR u i && zl_en B C h (zl_sub (zl_sub (zl_ld p) e) (zl_con 1)))) && (zl_pos B (zl_ld p) && zl_pos B (zl_sub (zl_con 4294967295) (zl_ld p))))
theorem zk_kq_ok {s : Nat → Int} {B : List (Int × Int)} {C : List zl_E} {i : Nat} {e p : zl_E} {u : Nat} {h : List Nat} {w w' : zz_W} (hb : zk_kq B C i e u p h = true) (hB : zl_in s B) (hC : zk_cs s C) (hw : zk_rL i (zl_ev s e) w w') : zv_H u w' (zl_ev s p) = zv_H u w (zl_ev s p) := by
  unfold zk_kq at hb
  cases hl : zv_LP u i with
  | true =>
    rw [hl] at hb
    have h7 := zl_en_ok hB hC (show zl_en B C h (zl_sub e p) = true from hb)
    rw [zl_sub_ev] at h7
    exact zv_LP_ok hl hw (by omega)
  | false =>
    rw [hl] at hb
    obtain ⟨b1, hb⟩ := zz_and (show (cond (zv_LQ u i) (zl_en B C h (zl_sub e (zl_ld p))) (cond (zv_LS u i) (zl_en B C [] (zl_sub e (zl_ld p)) && zl_en B C [] (zl_sub (zl_ld p) e)) (zv_LR u i && zl_en B C h (zl_sub (zl_sub (zl_ld p) e) (zl_con 1)))) && (zl_pos B (zl_ld p) && zl_pos B (zl_sub (zl_con 4294967295) (zl_ld p)))) = true from hb)
    obtain ⟨b3, b4⟩ := zz_and hb
    have h8 := zl_pos_ok hB b3
    have h9 := zl_pos_ok hB b4
    rw [zl_sub_ev, zl_con_ev] at h9
    have hm := zl_ld_ok h8 (by omega)
    cases hq : zv_LQ u i with
    | true =>
      rw [hq] at b1
      have h7 := zl_en_ok hB hC (show zl_en B C h (zl_sub e (zl_ld p)) = true from b1)
      rw [zl_sub_ev] at h7
      exact zv_LQ_ok hq hw (by rw [hm]; omega)
    | false =>
      rw [hq] at b1
      cases hs : zv_LS u i with
      | true =>
        rw [hs] at b1
        obtain ⟨c1, c2⟩ := zz_and (show (zl_en B C [] (zl_sub e (zl_ld p)) && zl_en B C [] (zl_sub (zl_ld p) e)) = true from b1)
        have h7 := zl_en_ok hB hC c1
        have h6 := zl_en_ok hB hC c2
        rw [zl_sub_ev] at h7 h6
        exact zv_LS_ok hs hw (by rw [hm]; omega)
      | false =>
        rw [hs] at b1
        obtain ⟨c1, c2⟩ := zz_and (show (zv_LR u i && zl_en B C h (zl_sub (zl_sub (zl_ld p) e) (zl_con 1))) = true from b1)
        have h7 := zl_en_ok hB hC c2
        rw [zl_sub_ev, zl_sub_ev, zl_con_ev] at h7
        exact zv_LR_ok c1 hw (by rw [hm]; omega)
/-- what stays known where a row of longs is set: what does not speak of it; functions that speak of it ahead of their place alone -/
def zk_kpL (B : List (Int × Int)) (C : List zl_E) (i : Nat) (e : zl_E) : List zk_E1 → List (List Nat) → List zk_E1
  | [], _ => []
  | x :: r, hs => cond ((zk_rws x.1).all (fun q => !(Nat.beq q i))) (x :: zk_kpL B C i e r hs) (cond (Nat.ble 2000000 x.1 && zk_kq B C i e (x.1 - 2000000) x.2.1 (hs.headD [])) (x :: zk_kpL B C i e r hs.tail) (zk_kpL B C i e r hs.tail))
theorem zk_kpL_ok {s : Nat → Int} {B : List (Int × Int)} {C : List zl_E} {i : Nat} {e : zl_E} {w w' : zz_W} (hB : zl_in s B) (hC : zk_cs s C) (hw : zk_rL i (zl_ev s e) w w') : ∀ {E : List zk_E1} {hs : List (List Nat)}, zk_eF s E w → zk_eF s (zk_kpL B C i e E hs) w'
  | [], _, _ => fun x hx => by cases hx
  | x :: r, hs, hE => by
    have ih : ∀ hs, zk_eF s (zk_kpL B C i e r hs) w' := fun hs => zk_kpL_ok hB hC hw (fun y hy => hE y (List.mem_cons_of_mem _ hy))
    have hx := hE x List.mem_cons_self
    have hc : ∀ {l : List zk_E1}, zk_eF s l w' → zk_xe w' x.1 (zl_ev s x.2.1) = zk_xe w x.1 (zl_ev s x.2.1) → zk_eF s (x :: l) w' := fun hl he y hy => by
      rcases List.mem_cons.mp hy with h1 | h1
      · rw [h1, he]
        exact hx
      · exact hl y h1
    unfold zk_kpL
    cases h1 : (zk_rws x.1).all (fun q => !(Nat.beq q i)) with
    | true =>
      refine hc (ih _) (zk_xe_g (fun q hq => hw.1 q (fun h2 => ?_)))
      have h3 := List.all_eq_true.mp h1 q hq
      rw [h2, Nat.beq_refl] at h3
      cases h3
    | false =>
      cases h2 : (Nat.ble 2000000 x.1 && zk_kq B C i e (x.1 - 2000000) x.2.1 (hs.headD [])) with
      | true =>
        obtain ⟨h5, h6⟩ := zz_and h2
        have h5 := zz_ble h5
        refine hc (ih _) ?_
        have h8 : x.1 = 2000000 + (x.1 - 2000000) := by omega
        rw [h8, zk_xe_h, zk_xe_h]
        exact zk_kq_ok h6 hB hC hw
      | false => exact ih _
/-- an element of a row of longs is set -/
def zk_w4E (X : zk_St) (ks : List (List Nat)) : List zk_E1 := match zv_LF (zk_tg2 X.1), zk_lgk X.1 with
  | some u, true => (2000000 + u, zk_ix2 X.1, zk_vl X.1) :: zk_kpL X.1.2.2.2.1 X.1.2.2.2.2 (zk_tg2 X.1) (zk_ix2 X.1) X.2.1 ks
  | _, _ => zk_kpL X.1.2.2.2.1 X.1.2.2.2.2 (zk_tg2 X.1) (zk_ix2 X.1) X.2.1 ks
def zk_w4 (HT : List (List zk_H)) (SU : Nat → List (Nat × Nat)) (X : zk_St) (n : Nat) (ks : List (List Nat)) (o : Option zk_A) : Option (List (Nat × zk_St)) := match o with
  | some A => some [(n, (A, zk_w4E X ks, zk_ofc SU X.2.2 (zk_tg2 X.1)))]
  | none => none
theorem zk_w4_ok {c : Nat} {HT : List (List zk_H)} {M : zk_M} {w0 : zk_W0} {PT : Nat → zz_W → Prop} {SU : Nat → List (Nat × Nat)} {TS : zk_TY} (hTT : zk_TT c HT PT SU TS) {act : zz_A} {X : zk_St} {n : Nat} {ks : List (List Nat)} {o : Option zk_A} {R : List (Nat × zk_St)} (h : zk_w4 HT SU X n ks o = some R) (hk : ∀ A, o = some A → zk_SW c HT M w0 act n X.1 A (fun s w w' => zk_rL (zk_tg2 X.1) (zl_ev s (zk_ix2 X.1)) w w' ∧ 0 ≤ zl_ev s (zk_ix2 X.1) ∧ (zk_lgk X.1 = true → zk_lel w' (zk_tg2 X.1) (zl_ev s (zk_ix2 X.1)).toNat = zl_ev s (zk_vl X.1)))) : zk_R2 PT c HT M w0 act X R := by
  obtain ⟨A0, E, Tk⟩ := X
  unfold zk_w4 at h
  split at h
  · rename_i A
    cases h
    obtain ⟨e1, e2⟩ := hk A rfl
    intro K s f hpv hG
    obtain ⟨g1, k1, k2⟩ := hG
    obtain ⟨f', m1, m2, m3, m4⟩ := e2 K s f hpv g1
    have e1 : A0.2.2.2.1 = A.2.2.2.1 := e1
    obtain ⟨m4, m5, m6⟩ := m4
    have m4 : zk_rL (zk_tg2 A0) (zl_ev s (zk_ix2 A0)) f.2.2.2 f'.2.2.2 := m4
    have m5 : 0 ≤ zl_ev s (zk_ix2 A0) := m5
    have m6 : zk_lgk A0 = true → zk_lel f'.2.2.2 (zk_tg2 A0) (zl_ev s (zk_ix2 A0)).toNat = zl_ev s (zk_vl A0) := m6
    have hE0 : zk_eF s (zk_kpL A0.2.2.2.1 A0.2.2.2.2 (zk_tg2 A0) (zk_ix2 A0) E ks) f'.2.2.2 := zk_kpL_ok g1.2.2.2.1 g1.2.2.2.2.1 m4 k1
    have hE' : zk_eF s (zk_w4E (A0, E, Tk) ks) f'.2.2.2 := by
      unfold zk_w4E
      split
      · rename_i u hu hl
        have hu : zv_LF (zk_tg2 A0) = some u := hu
        have hl : zk_lgk A0 = true := hl
        intro y hy
        rcases List.mem_cons.mp hy with ey | hy
        · subst ey
          refine ⟨m5, ?_⟩
          show zk_xe f'.2.2.2 (2000000 + u) (zl_ev s (zk_ix2 A0)) = zl_ev s (zk_vl A0)
          rw [zk_xe_h, zv_LF_ok hu]
          exact m6 hl
        · exact hE0 y hy
      · exact hE0
    refine ⟨s, f', (n, (A, zk_w4E (A0, E, Tk) ks, zk_ofc SU Tk (zk_tg2 A0))), m1, List.mem_cons_self, m2, ⟨m3, hE', fun t ht => ?_⟩, Nat.le_of_eq (congrArg List.length e1), fun _ _ => rfl⟩
    obtain ⟨t1, t3⟩ := zk_ofc_ok ht
    refine hTT.1 t f.2.2.2 f'.2.2.2 g1.2.2.2.2.2.1 m3.2.2.2.2.2.1 (fun q hq h9 => ?_) (fun q hq h9 => ?_) (k2 t t1)
    · unfold zk_fd
      rw [m4.1 q.1 (t3 q hq)]
    · exact m4.1 q.1 (t3 q hq)
  · cases h
/-! EDGES of states -/
def zk_eeq (t : List zl_E) (D E : List zk_E1) : Bool := D.all (fun x => Nat.ble (zl_mx x.2.1.2) t.length && (Nat.ble (zl_mx x.2.2.2) t.length && (match zk_ek E x.1 (zl_subst t x.2.1) with
  | some v => zl_nul (zl_sub (zl_subst t x.2.2) v)
  | none => false)))
theorem zk_eeq_ok {s : Nat → Int} {t : List zl_E} {D E : List zk_E1} {w : zz_W} (h : zk_eeq t D E = true) (hE : zk_eF s E w) : zk_eF (zk_u s t) D w := by
  intro x hx
  have h1 := List.all_eq_true.mp h x hx
  obtain ⟨b1, hb⟩ := zz_and h1
  obtain ⟨b2, b3⟩ := zz_and hb
  split at b3
  · rename_i v hv
    have h2 := zk_ek_ok hv hE
    have h3 := zl_nul_ok (s := s) b3
    rw [zl_sub_ev] at h3
    rw [zl_subst_ev (u := zk_u s t) (zz_ble b2) zk_u_at] at h3
    rw [zl_subst_ev (u := zk_u s t) (zz_ble b1) zk_u_at] at h2
    refine ⟨h2.1, ?_⟩
    rw [h2.2]
    omega
  · cases b3
def zk_keq (HT : List (List zk_H)) (TS : zk_TY) (X : zk_St) (D : List Nat) (cv : List zk_Cv) : Bool := cv.all (fun x => zk_cv HT TS X.2.2 X.1.2.2.2.1 X.1.2.2.2.2 X.1.2.2.1 X.1.2.2.1 X.2.1 x || zk_cv2 HT TS X.2.2 X.1.2.2.2.1 X.1.2.2.2.2 X.1.2.2.1 X.1.2.2.1 X.2.1 X.2.1 [] x) && D.all (fun t => X.2.2.any (Nat.beq t) || cv.any (fun x => Nat.beq t x.1))
theorem zk_keq_ok {c : Nat} {HT : List (List zk_H)} {PT : Nat → zz_W → Prop} {SU : Nat → List (Nat × Nat)} {TS : zk_TY} (hTT : zk_TT c HT PT SU TS) {I : zz_W → Prop} (hI : ∀ w, I w → zk_I c HT w) {X : zk_St} {D : List Nat} {cv : List zk_Cv} (h : zk_keq HT TS X D cv = true) {s : Nat → Int} {f : zz_F} (hG : zk_G2 PT I s X f) : ∀ t ∈ D, PT t f.2.2.2 := by
  obtain ⟨b1, b2⟩ := zz_and h
  obtain ⟨g1, k1, k2⟩ := hG
  intro t ht
  rcases Bool.or_eq_true_iff.mp (List.all_eq_true.mp b2 t ht) with h1 | h1
  · exact k2 t (zk_any_beq h1)
  · obtain ⟨x, x1, x2⟩ := List.any_eq_true.mp h1
    rw [zz_beq x2]
    rcases Bool.or_eq_true_iff.mp (List.all_eq_true.mp b1 x x1) with hx | hx
    · exact zk_cv_ok hTT hx (hI _ g1.2.2.2.2.2) g1.2.2.2.1 g1.2.2.2.2.1 g1.2.2.1 g1.2.2.1 k1 k2 (fun _ _ _ _ _ => rfl)
    · exact zk_cv2_ok hTT hx (hI _ g1.2.2.2.2.2) g1.2.2.2.1 g1.2.2.2.2.1 g1.2.2.1 g1.2.2.1 k1 k1 k2 (fun _ _ _ _ _ => rfl)
def zk_edg2 (HT : List (List zk_H)) (TS : zk_TY) (X D : zk_St) (h : zk_Eh) (cv : List zk_Cv) : Bool := zk_edge X.1 D.1 h && (zk_eeq h.1 D.2.1 X.2.1 && zk_keq HT TS X D.2.2 cv)
theorem zk_edg2_ok {c : Nat} {HT : List (List zk_H)} {PT : Nat → zz_W → Prop} {SU : Nat → List (Nat × Nat)} {TS : zk_TY} (hTT : zk_TT c HT PT SU TS) {I : zz_W → Prop} (hI : ∀ w, I w → zk_I c HT w) {X D : zk_St} {h : zk_Eh} {cv : List zk_Cv} (he : zk_edg2 HT TS X D h cv = true) {s : Nat → Int} {f : zz_F} (hG : zk_G2 PT I s X f) : zk_G2 PT I (zk_u s h.1) D f ∧ D.1.2.2.2.1.length = h.1.length := by
  obtain ⟨b1, hb⟩ := zz_and he
  obtain ⟨b2, b3⟩ := zz_and hb
  obtain ⟨e1, e2⟩ := zk_edge_ok b1 hG.1
  exact ⟨⟨e1, zk_eeq_ok b2 hG.2.1, zk_keq_ok hTT hI b3 hG⟩, e2⟩
end
