/-! LAWS OF WORLDS in the check: from tokens, known elements and fields to new numbers, sums, elements, tokens; and what is known twice is the same -/
noncomputable section
/-- the places are within the rows -/
def zx_bds (HT : List (List zk_H)) (B : List (Int × Int)) (C es : List zl_E) : List (Nat × Nat) → List (List Nat) → Bool
  | [], _ => true
  | q :: r, h1 :: h2 :: hs => zl_en B C h1 (es.getD q.2 (zl_con 0)) && ((!(Nat.blt q.1 1000000) || zl_en B C h2 (zl_sub (zl_con (((zk_h HT q.1).2.2.1 : Int) - 1)) (es.getD q.2 (zl_con 0)))) && zx_bds HT B C es r hs)
  | _, _ => false
theorem zx_bds_ok {HT : List (List zk_H)} {s : Nat → Int} {B : List (Int × Int)} {C es : List zl_E} (hB : zl_in s B) (hC : zk_cs s C) : ∀ {qs : List (Nat × Nat)} {hs : List (List Nat)}, zx_bds HT B C es qs hs = true → ∀ q ∈ qs, 0 ≤ zl_ev s (es.getD q.2 (zl_con 0)) ∧ (q.1 < 1000000 → zl_ev s (es.getD q.2 (zl_con 0)) < ((zk_h HT q.1).2.2.1 : Int))
  | [], _, _, q, hq => absurd hq List.not_mem_nil
  | q0 :: r, [], h, _, _ => by cases h
  | q0 :: r, [_], h, _, _ => by cases h
  | q0 :: r, h1 :: h2 :: hs, h, q, hq => by
    obtain ⟨b1, hb⟩ := zz_and h
    obtain ⟨b2, b3⟩ := zz_and hb
    rcases List.mem_cons.mp hq with e | hq
    · subst e
      have c1 := zl_en_ok hB hC b1
      refine ⟨c1, fun hq => ?_⟩
      rw [show Nat.blt q.1 1000000 = true from Nat.ble_eq.mpr hq] at b2
      have c2 := zl_en_ok hB hC (show zl_en B C h2 (zl_sub (zl_con (((zk_h HT q.1).2.2.1 : Int) - 1)) (es.getD q.2 (zl_con 0))) = true from b2)
      rw [zl_sub_ev, zl_con_ev] at c2
      omega
    · exact zx_bds_ok hB hC b3 q hq
/-- one case -/
def zx_st (X : zk_St) (t : List zl_E) (d : zx_Ca) : zk_St :=
  let t' := t ++ zk_syms X.1.2.2.2.1.length d.1.length
  ((X.1.1, X.1.2.1, X.1.2.2.1, X.1.2.2.2.1 ++ d.1, d.2.1.map (zl_subst t') ++ X.1.2.2.2.2), d.2.2.1.map (fun y => (y.1, zl_subst t' y.2.1, zl_subst t' y.2.2)) ++ X.2.1, d.2.2.2 ++ X.2.2)
def zx_cw (n : Nat) (d : zx_Ca) : Bool := d.2.1.all (fun c => Nat.ble (zl_mx c.2) (n + d.1.length)) && d.2.2.1.all (fun y => Nat.ble (zl_mx y.2.1.2) (n + d.1.length) && Nat.ble (zl_mx y.2.2.2) (n + d.1.length))
def zk_law (HT : List (List zk_H)) (TS : zk_TY) (X : zk_St) (j : Nat) (es : List zl_E) (hs : List (List Nat)) : Option (List zk_St) := match TS.2.2.1 j with
  | some x => match zx_els X.2.1 es x.2.2.1, zk_fsm X.1.2.2.1 x.2.2.2.1 with
    | some vs, some fs => cond ((x.1.all (fun t => X.2.2.any (Nat.beq t)) && (Nat.beq es.length x.2.1 && x.2.2.1.all (fun q => Nat.blt q.2 es.length))) && ((zx_bds HT X.1.2.2.2.1 X.1.2.2.2.2 es x.2.2.1 hs && (es ++ (vs ++ fs)).all (fun e => Nat.ble (zl_mx e.2) X.1.2.2.2.1.length)) && ((zk_wf X.1.2.2.2.1.length X.1.1 X.1.2.1 X.1.2.2.1 X.1.2.2.2.2 && zk_eW HT X.1.2.2.2.1.length X.2.1) && x.2.2.2.2.all (zx_cw (es ++ (vs ++ fs)).length)))) (some (x.2.2.2.2.map (zx_st X (es ++ (vs ++ fs))))) none
    | _, _ => none
  | none => none
theorem zx_getD_map {s : Nat → Int} : ∀ (es : List zl_E) (k : Nat), k < es.length → zl_ev s (es.getD k (zl_con 0)) = (es.map (zl_ev s)).getD k 0
  | [], k, h => absurd h (Nat.not_lt_zero k)
  | e :: es, 0, _ => rfl
  | e :: es, k + 1, h => zx_getD_map es k (Nat.lt_of_succ_lt_succ h)
theorem zx_sl2_map {s : Nat → Int} : ∀ (es : List zl_E), zk_sl2 s es (es.map (zl_ev s))
  | [] => zk_sl2_nil
  | _ :: es => zk_sl2_cons rfl (zx_sl2_map es)
theorem zx_sl2_eq {s s' : Nat → Int} {n : Nat} {t : List zl_E} {l : List Int} (hw : t.all (fun e => Nat.ble (zl_mx e.2) n) = true) (hs : ∀ j, j < n → s' j = s j) (h : zk_sl2 s t l) : zk_sl2 s' t l :=
  ⟨h.1, fun j q hq => by rw [h.2 j q hq]; exact (zl_ev_eq (n := n) (zz_ble (List.all_eq_true.mp hw q (List.mem_of_getElem? hq))) hs).symm⟩
theorem zx_syms_len : ∀ (k n : Nat), (zk_syms n k).length = k
  | 0, _ => rfl
  | k + 1, n => by
    show (zk_syms (n + 1) k).length + 1 = k + 1
    rw [zx_syms_len k (n + 1)]
theorem zk_law_ok {c : Nat} {HT : List (List zk_H)} {PT : Nat → zz_W → Prop} {SU : Nat → List (Nat × Nat)} {TS : zk_TY} (hTT : zk_TT c HT PT SU TS) {I : zz_W → Prop} (hI : ∀ w, I w → zk_I c HT w) {X : zk_St} {j : Nat} {es : List zl_E} {hs : List (List Nat)} {R : List zk_St} (h : zk_law HT TS X j es hs = some R) {s : Nat → Int} {f : zz_F} (hG : zk_G2 PT I s X f) : ∃ X' ∈ R, X.1.2.2.2.1.length ≤ X'.1.2.2.2.1.length ∧ ∃ s' : Nat → Int, zk_G2 PT I s' X' f ∧ ∀ m, m < X.1.2.2.2.1.length → s' m = s m := by
  unfold zk_law at h
  split at h
  · rename_i x hx
    split at h
    · rename_i vs fs hv hf
      obtain ⟨hb, h⟩ := zz_cond h
      cases h
      obtain ⟨ha, hb⟩ := zz_and hb
      obtain ⟨a1, ha⟩ := zz_and ha
      obtain ⟨a2, a3⟩ := zz_and ha
      obtain ⟨hb, hc⟩ := zz_and hb
      obtain ⟨b1, b2⟩ := zz_and hb
      obtain ⟨hc, c3⟩ := zz_and hc
      obtain ⟨c1, c2⟩ := zz_and hc
      obtain ⟨⟨g1, g2, g3, g4, g5, g6⟩, k1, k2⟩ := hG
      obtain ⟨p, lv, st, w⟩ := f
      have hins : ∀ k, k < es.length → zl_ev s (es.getD k (zl_con 0)) = (es.map (zl_ev s)).getD k 0 := fun k hk => zx_getD_map es k hk
      have hvl : zk_sl2 s (es ++ (vs ++ fs)) (zx_vl w x (es.map (zl_ev s))) := zk_sl2_app (zx_sl2_map es) (zk_sl2_app (zx_els_ok k1 hins a3 hv) (zk_fsm_ok g3 hf))
      obtain ⟨d, d1, nw, d2, d3, d4, d5, d6⟩ := hTT.2.2.2.2.1 j x hx w (hI w g6) (fun t ht => k2 t (zk_any_beq (List.all_eq_true.mp a1 t ht))) (es.map (zl_ev s)) (by rw [List.length_map]; exact zz_beq a2) (fun q hq => by
        have h1 := zx_bds_ok g4 g5 b1 q hq
        rw [← hins q.2 (zz_blt (List.all_eq_true.mp a3 q hq))]
        exact h1)
      refine ⟨zx_st X (es ++ (vs ++ fs)) d, List.mem_map.mpr ⟨d, d1, rfl⟩, by show _ ≤ (X.1.2.2.2.1 ++ d.1).length; simp, fun m => if m < X.1.2.2.2.1.length then s m else nw.getD (m - X.1.2.2.2.1.length) 0, ?_, fun m hm => if_pos hm⟩
      have hag : ∀ m, m < X.1.2.2.2.1.length → (fun m => if m < X.1.2.2.2.1.length then s m else nw.getD (m - X.1.2.2.2.1.length) 0) m = s m := fun m hm => if_pos hm
      generalize hs' : (fun m => if m < X.1.2.2.2.1.length then s m else nw.getD (m - X.1.2.2.2.1.length) 0) = s' at hag ⊢
      obtain ⟨e1, e2, e3, e4⟩ := zk_wf_ok c1 hag g1 g2 g3 g5
      have hsy : zk_sl2 s' (zk_syms X.1.2.2.2.1.length d.1.length) nw := by
        refine ⟨by rw [zx_syms_len, d2], fun m q hq => ?_⟩
        obtain ⟨q1, q2⟩ := zk_syms_at hq
        rw [q1, zl_sym_ev, ← hs']
        show _ = if X.1.2.2.2.1.length + m < X.1.2.2.2.1.length then s (X.1.2.2.2.1.length + m) else nw.getD (X.1.2.2.2.1.length + m - X.1.2.2.2.1.length) 0
        rw [if_neg (by omega), Nat.add_sub_cancel_left]
      have hal := zk_sl2_app (zx_sl2_eq b2 hag hvl) hsy
      have hlen : (es ++ (vs ++ fs) ++ zk_syms X.1.2.2.2.1.length d.1.length).length = (es ++ (vs ++ fs)).length + d.1.length := by rw [List.length_append, zx_syms_len]
      obtain ⟨w1, w2⟩ := zz_and (List.all_eq_true.mp c3 d d1)
      have hsub : ∀ c0 : zl_E, zl_mx c0.2 ≤ (es ++ (vs ++ fs)).length + d.1.length → zl_ev s' (zl_subst (es ++ (vs ++ fs) ++ zk_syms X.1.2.2.2.1.length d.1.length) c0) = zl_ev (fun m => (zx_vl w x (es.map (zl_ev s)) ++ nw).getD m 0) c0 := fun c0 hc0 => zl_subst_ev (by rw [hlen]; exact hc0) hal.2
      refine ⟨⟨e1, e2, e3, fun m q hq => ?_, fun c0 hc0 => ?_, g6⟩, fun y hy => ?_, fun t ht => ?_⟩
      · have hq : (X.1.2.2.2.1 ++ d.1)[m]? = some q := hq
        by_cases hm : m < X.1.2.2.2.1.length
        · rw [List.getElem?_append_left hm] at hq
          rw [hag m hm]
          exact g4 m q hq
        · rw [List.getElem?_append_right (by omega)] at hq
          have := d3 _ q hq
          rw [← hs']
          show q.1 ≤ (if m < X.1.2.2.2.1.length then s m else nw.getD (m - X.1.2.2.2.1.length) 0) ∧ (if m < X.1.2.2.2.1.length then s m else nw.getD (m - X.1.2.2.2.1.length) 0) ≤ q.2
          rw [if_neg hm]
          exact this
      · rcases List.mem_append.mp hc0 with hc0 | hc0
        · obtain ⟨c4, c5, c6⟩ := List.mem_map.mp hc0
          subst c6
          rw [hsub c4 (zz_ble (List.all_eq_true.mp w1 c4 c5))]
          exact d4 c4 c5
        · exact e4 c0 hc0
      · rcases List.mem_append.mp hy with hy | hy
        · obtain ⟨y4, y5, y6⟩ := List.mem_map.mp hy
          subst y6
          obtain ⟨y7, y8⟩ := zz_and (List.all_eq_true.mp w2 y4 y5)
          show 0 ≤ zl_ev s' (zl_subst _ y4.2.1) ∧ zk_xe w y4.1 (zl_ev s' (zl_subst _ y4.2.1)) = zl_ev s' (zl_subst _ y4.2.2)
          rw [hsub _ (zz_ble y7), hsub _ (zz_ble y8)]
          exact d5 y4 y5
        · exact zk_eW_eq c2 hag k1 y hy
      · rcases List.mem_append.mp ht with ht | ht
        · exact d6 t ht
        · exact k2 t ht
    · cases h
  · cases h
/-- two known elements of one row at the same place have the same value -/
def zk_cng (X : zk_St) (a b : Nat) (h1 h2 : List Nat) : Option zk_St := match X.2.1[a]?, X.2.1[b]? with
  | some x, some y => cond (Nat.beq x.1 y.1 && (zl_en X.1.2.2.2.1 X.1.2.2.2.2 h1 (zl_sub x.2.1 y.2.1) && zl_en X.1.2.2.2.1 X.1.2.2.2.2 h2 (zl_sub y.2.1 x.2.1))) (some ((X.1.1, X.1.2.1, X.1.2.2.1, X.1.2.2.2.1, zl_sub x.2.2 y.2.2 :: zl_sub y.2.2 x.2.2 :: X.1.2.2.2.2), X.2.1, X.2.2)) none
  | _, _ => none
theorem zk_cng_ok {PT : Nat → zz_W → Prop} {I : zz_W → Prop} {X Y : zk_St} {a b : Nat} {h1 h2 : List Nat} (h : zk_cng X a b h1 h2 = some Y) {s : Nat → Int} {f : zz_F} (hG : zk_G2 PT I s X f) : zk_G2 PT I s Y f ∧ X.1.2.2.2.1.length ≤ Y.1.2.2.2.1.length := by
  unfold zk_cng at h
  split at h
  · rename_i x y hx hy
    obtain ⟨hb, h⟩ := zz_cond h
    cases h
    obtain ⟨b1, hb⟩ := zz_and hb
    obtain ⟨b2, b3⟩ := zz_and hb
    obtain ⟨⟨g1, g2, g3, g4, g5, g6⟩, k1, k2⟩ := hG
    have c1 := zl_en_ok g4 g5 b2
    have c2 := zl_en_ok g4 g5 b3
    rw [zl_sub_ev] at c1 c2
    have e1 := (k1 x (List.mem_of_getElem? hx)).2
    have e2 := (k1 y (List.mem_of_getElem? hy)).2
    have e3 : zl_ev s x.2.1 = zl_ev s y.2.1 := by omega
    rw [zz_beq b1, e3, e2] at e1
    refine ⟨⟨⟨g1, g2, g3, g4, fun c hc => ?_, g6⟩, k1, k2⟩, Nat.le_refl _⟩
    rcases List.mem_cons.mp hc with hc | hc
    · rw [hc, zl_sub_ev]
      omega
    · rcases List.mem_cons.mp hc with hc | hc
      · rw [hc, zl_sub_ev]
        omega
      · exact g5 c hc
  · cases h
/-- cases of a law that cannot be are left out -/
def zk_prn : List zk_St → List (List Nat) → List zk_St
  | R, [] => R
  | [], _ :: _ => []
  | Y :: R, h :: hs => match h with
    | [] => Y :: zk_prn R hs
    | _ :: g => cond (zl_en Y.1.2.2.2.1 Y.1.2.2.2.2 g (zl_con (-1))) (zk_prn R hs) (Y :: zk_prn R hs)
theorem zk_prn_ok {PT : Nat → zz_W → Prop} {I : zz_W → Prop} {Y : zk_St} {s : Nat → Int} {f : zz_F} (hG : zk_G2 PT I s Y f) : ∀ {R : List zk_St} {hs : List (List Nat)}, Y ∈ R → Y ∈ zk_prn R hs
  | R, [], h => by
    cases R with
    | nil => exact h
    | cons Z R => exact h
  | [], _ :: _, h => absurd h List.not_mem_nil
  | Z :: R, g :: hs, h => by
    show Y ∈ (match g with
      | [] => Z :: zk_prn R hs
      | _ :: g => cond (zl_en Z.1.2.2.2.1 Z.1.2.2.2.2 g (zl_con (-1))) (zk_prn R hs) (Z :: zk_prn R hs))
    cases g with
    | nil =>
      rcases List.mem_cons.mp h with e | h
      · rw [e]
        exact List.mem_cons_self
      · exact List.mem_cons_of_mem _ (zk_prn_ok hG h)
    | cons _ g =>
      show Y ∈ cond (zl_en Z.1.2.2.2.1 Z.1.2.2.2.2 g (zl_con (-1))) (zk_prn R hs) (Z :: zk_prn R hs)
      cases hb : zl_en Z.1.2.2.2.1 Z.1.2.2.2.2 g (zl_con (-1)) with
      | true =>
        rcases List.mem_cons.mp h with e | h
        · subst e
          have h6 := zl_en_ok hG.1.2.2.2.1 hG.1.2.2.2.2.1 hb
          rw [zl_con_ev] at h6
          omega
        · exact zk_prn_ok hG h
      | false =>
        rcases List.mem_cons.mp h with e | h
        · rw [e]
          exact List.mem_cons_self
        · exact List.mem_cons_of_mem _ (zk_prn_ok hG h)
def zk_lawp (HT : List (List zk_H)) (TS : zk_TY) (X : zk_St) (j : Nat) (es : List zl_E) (hs ps : List (List Nat)) : Option (List zk_St) := match zk_law HT TS X j es hs with
  | some R => some (zk_prn R ps)
  | none => none
theorem zk_lawp_ok {c : Nat} {HT : List (List zk_H)} {PT : Nat → zz_W → Prop} {SU : Nat → List (Nat × Nat)} {TS : zk_TY} (hTT : zk_TT c HT PT SU TS) {I : zz_W → Prop} (hI : ∀ w, I w → zk_I c HT w) {X : zk_St} {j : Nat} {es : List zl_E} {hs ps : List (List Nat)} {R : List zk_St} (h : zk_lawp HT TS X j es hs ps = some R) {s : Nat → Int} {f : zz_F} (hG : zk_G2 PT I s X f) : ∃ X' ∈ R, X.1.2.2.2.1.length ≤ X'.1.2.2.2.1.length ∧ ∃ s' : Nat → Int, zk_G2 PT I s' X' f ∧ ∀ m, m < X.1.2.2.2.1.length → s' m = s m := by
  unfold zk_lawp at h
  split at h
  · rename_i R0 hR
    cases h
    obtain ⟨X', x1, x2, s', x3, x4⟩ := zk_law_ok hTT hI hR hG
    exact ⟨X', zk_prn_ok x3 x1, x2, s', x3, x4⟩
  · cases h
end
